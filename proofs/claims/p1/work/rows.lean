section
-- ===== PART A: goes FIRST, ahead of the names: the tables' words, and 'selects' of the private methods out of them =====
/-- a private method of a class that the tables say can be made, by its rows of tables_1 -/
def lw_okq (q : MethodName × Nat) : Prop := (q.1.cls ≠ "java/lang/invoke/MethodHandle" ∧ q.1.cls ≠ "java/lang/invoke/VarHandle") ∧ Cond.instantiable q.1.cls q.2 ∈ tables_1 ∧ Cond.privateMethod q.1 ∈ tables_1 ∧ Cond.instanceMethod q.1 ∈ tables_1
theorem lw_p0 : lw_okq (⟨"CoincidenceBureau$Text", "readItem", "(LCoincidenceBureau$Town;)Z"⟩, 4) := ⟨⟨by decide +kernel, by decide +kernel⟩, List.mem_of_getElem? (i := 27) (by decide +kernel), List.mem_of_getElem? (i := 273) (by decide +kernel), List.mem_of_getElem? (i := 274) (by decide +kernel)⟩
theorem lw_p1 : lw_okq (⟨"CoincidenceBureau$Text", "letterAt", "(I)C"⟩, 4) := ⟨⟨by decide +kernel, by decide +kernel⟩, List.mem_of_getElem? (i := 27) (by decide +kernel), List.mem_of_getElem? (i := 277) (by decide +kernel), List.mem_of_getElem? (i := 278) (by decide +kernel)⟩
theorem lw_p2 : lw_okq (⟨"CoincidenceBureau$Text", "readNumber", "(I)Z"⟩, 4) := ⟨⟨by decide +kernel, by decide +kernel⟩, List.mem_of_getElem? (i := 27) (by decide +kernel), List.mem_of_getElem? (i := 284) (by decide +kernel), List.mem_of_getElem? (i := 285) (by decide +kernel)⟩
theorem lw_p3 : lw_okq (⟨"CoincidenceBureau$Town", "takePerson", "(I)Z"⟩, 10) := ⟨⟨by decide +kernel, by decide +kernel⟩, List.mem_of_getElem? (i := 49) (by decide +kernel), List.mem_of_getElem? (i := 295) (by decide +kernel), List.mem_of_getElem? (i := 296) (by decide +kernel)⟩
theorem lw_p4 : lw_okq (⟨"CoincidenceBureau$Town", "takeHabit", "([I)Z"⟩, 10) := ⟨⟨by decide +kernel, by decide +kernel⟩, List.mem_of_getElem? (i := 49) (by decide +kernel), List.mem_of_getElem? (i := 302) (by decide +kernel), List.mem_of_getElem? (i := 303) (by decide +kernel)⟩
theorem lw_p5 : lw_okq (⟨"CoincidenceBureau$Town", "isTold", "(I)Z"⟩, 10) := ⟨⟨by decide +kernel, by decide +kernel⟩, List.mem_of_getElem? (i := 49) (by decide +kernel), List.mem_of_getElem? (i := 306) (by decide +kernel), List.mem_of_getElem? (i := 307) (by decide +kernel)⟩
theorem lw_p6 : lw_okq (⟨"CoincidenceBureau$Town", "takeLeave", "(II)Z"⟩, 10) := ⟨⟨by decide +kernel, by decide +kernel⟩, List.mem_of_getElem? (i := 49) (by decide +kernel), List.mem_of_getElem? (i := 320) (by decide +kernel), List.mem_of_getElem? (i := 321) (by decide +kernel)⟩
theorem lw_p7 : lw_okq (⟨"CoincidenceBureau", "isPerson", "(I)Z"⟩, 10) := ⟨⟨by decide +kernel, by decide +kernel⟩, List.mem_of_getElem? (i := 19) (by decide +kernel), List.mem_of_getElem? (i := 390) (by decide +kernel), List.mem_of_getElem? (i := 391) (by decide +kernel)⟩
theorem lw_p8 : lw_okq (⟨"CoincidenceBureau", "areTwo", "(II)Z"⟩, 10) := ⟨⟨by decide +kernel, by decide +kernel⟩, List.mem_of_getElem? (i := 19) (by decide +kernel), List.mem_of_getElem? (i := 408) (by decide +kernel), List.mem_of_getElem? (i := 409) (by decide +kernel)⟩
theorem lw_p9 : lw_okq (⟨"CoincidenceBureau$Lookout", "meetingIn", "(LCoincidenceBureau$Town;II)I"⟩, 3) := ⟨⟨by decide +kernel, by decide +kernel⟩, List.mem_of_getElem? (i := 193) (by decide +kernel), List.mem_of_getElem? (i := 421) (by decide +kernel), List.mem_of_getElem? (i := 422) (by decide +kernel)⟩
theorem lw_p10 : lw_okq (⟨"CoincidenceBureau$Lookout", "seek", "(LCoincidenceBureau$Town;II)V"⟩, 3) := ⟨⟨by decide +kernel, by decide +kernel⟩, List.mem_of_getElem? (i := 193) (by decide +kernel), List.mem_of_getElem? (i := 425) (by decide +kernel), List.mem_of_getElem? (i := 426) (by decide +kernel)⟩
theorem lw_p11 : lw_okq (⟨"CoincidenceBureau$Town", "draw", "(III)I"⟩, 10) := ⟨⟨by decide +kernel, by decide +kernel⟩, List.mem_of_getElem? (i := 49) (by decide +kernel), List.mem_of_getElem? (i := 434) (by decide +kernel), List.mem_of_getElem? (i := 435) (by decide +kernel)⟩
theorem lw_p12 : lw_okq (⟨"CoincidenceBureau$Town", "isUnlawful", "(IIZ)Z"⟩, 10) := ⟨⟨by decide +kernel, by decide +kernel⟩, List.mem_of_getElem? (i := 49) (by decide +kernel), List.mem_of_getElem? (i := 459) (by decide +kernel), List.mem_of_getElem? (i := 460) (by decide +kernel)⟩
theorem lw_p13 : lw_okq (⟨"CoincidenceBureau$Files", "reckon", "(III)V"⟩, 7) := ⟨⟨by decide +kernel, by decide +kernel⟩, List.mem_of_getElem? (i := 101) (by decide +kernel), List.mem_of_getElem? (i := 467) (by decide +kernel), List.mem_of_getElem? (i := 468) (by decide +kernel)⟩
theorem lw_p14 : lw_okq (⟨"CoincidenceBureau$Changes", "note", "(III)V"⟩, 4) := ⟨⟨by decide +kernel, by decide +kernel⟩, List.mem_of_getElem? (i := 135) (by decide +kernel), List.mem_of_getElem? (i := 481) (by decide +kernel), List.mem_of_getElem? (i := 482) (by decide +kernel)⟩
theorem lw_p15 : lw_okq (⟨"CoincidenceBureau$Changes", "dropOldest", "()V"⟩, 4) := ⟨⟨by decide +kernel, by decide +kernel⟩, List.mem_of_getElem? (i := 135) (by decide +kernel), List.mem_of_getElem? (i := 485) (by decide +kernel), List.mem_of_getElem? (i := 486) (by decide +kernel)⟩
def lw_privs_1 : List (MethodName × Nat) := [(⟨"CoincidenceBureau$Text", "readItem", "(LCoincidenceBureau$Town;)Z"⟩, 4), (⟨"CoincidenceBureau$Text", "letterAt", "(I)C"⟩, 4), (⟨"CoincidenceBureau$Text", "readNumber", "(I)Z"⟩, 4), (⟨"CoincidenceBureau$Town", "takePerson", "(I)Z"⟩, 10), (⟨"CoincidenceBureau$Town", "takeHabit", "([I)Z"⟩, 10), (⟨"CoincidenceBureau$Town", "isTold", "(I)Z"⟩, 10), (⟨"CoincidenceBureau$Town", "takeLeave", "(II)Z"⟩, 10), (⟨"CoincidenceBureau", "isPerson", "(I)Z"⟩, 10), (⟨"CoincidenceBureau", "areTwo", "(II)Z"⟩, 10), (⟨"CoincidenceBureau$Lookout", "meetingIn", "(LCoincidenceBureau$Town;II)I"⟩, 3), (⟨"CoincidenceBureau$Lookout", "seek", "(LCoincidenceBureau$Town;II)V"⟩, 3), (⟨"CoincidenceBureau$Town", "draw", "(III)I"⟩, 10), (⟨"CoincidenceBureau$Town", "isUnlawful", "(IIZ)Z"⟩, 10), (⟨"CoincidenceBureau$Files", "reckon", "(III)V"⟩, 7), (⟨"CoincidenceBureau$Changes", "note", "(III)V"⟩, 4), (⟨"CoincidenceBureau$Changes", "dropOldest", "()V"⟩, 4)]
theorem lw_r1 : ∀ q ∈ lw_privs_1, lw_okq q := List.forall_mem_cons.mpr ⟨lw_p0, List.forall_mem_cons.mpr ⟨lw_p1, List.forall_mem_cons.mpr ⟨lw_p2, List.forall_mem_cons.mpr ⟨lw_p3, List.forall_mem_cons.mpr ⟨lw_p4, List.forall_mem_cons.mpr ⟨lw_p5, List.forall_mem_cons.mpr ⟨lw_p6, List.forall_mem_cons.mpr ⟨lw_p7, List.forall_mem_cons.mpr ⟨lw_p8, List.forall_mem_cons.mpr ⟨lw_p9, List.forall_mem_cons.mpr ⟨lw_p10, List.forall_mem_cons.mpr ⟨lw_p11, List.forall_mem_cons.mpr ⟨lw_p12, List.forall_mem_cons.mpr ⟨lw_p13, List.forall_mem_cons.mpr ⟨lw_p14, List.forall_mem_cons.mpr ⟨lw_p15, fun _ h => absurd h List.not_mem_nil⟩⟩⟩⟩⟩⟩⟩⟩⟩⟩⟩⟩⟩⟩⟩⟩
theorem lw_p16 : lw_okq (⟨"CoincidenceBureau$Town", "tenthsAt", "(III)I"⟩, 10) := ⟨⟨by decide +kernel, by decide +kernel⟩, List.mem_of_getElem? (i := 49) (by decide +kernel), List.mem_of_getElem? (i := 549) (by decide +kernel), List.mem_of_getElem? (i := 550) (by decide +kernel)⟩
theorem lw_p17 : lw_okq (⟨"CoincidenceBureau", "leastAlteration", "(III)I"⟩, 10) := ⟨⟨by decide +kernel, by decide +kernel⟩, List.mem_of_getElem? (i := 19) (by decide +kernel), List.mem_of_getElem? (i := 583) (by decide +kernel), List.mem_of_getElem? (i := 584) (by decide +kernel)⟩
theorem lw_p18 : lw_okq (⟨"CoincidenceBureau$Town", "othersAt", "(III)I"⟩, 10) := ⟨⟨by decide +kernel, by decide +kernel⟩, List.mem_of_getElem? (i := 49) (by decide +kernel), List.mem_of_getElem? (i := 604) (by decide +kernel), List.mem_of_getElem? (i := 605) (by decide +kernel)⟩
theorem lw_p19 : lw_okq (⟨"CoincidenceBureau", "keptBehind", "(I)LCoincidenceBureau$Kept;"⟩, 10) := ⟨⟨by decide +kernel, by decide +kernel⟩, List.mem_of_getElem? (i := 19) (by decide +kernel), List.mem_of_getElem? (i := 671) (by decide +kernel), List.mem_of_getElem? (i := 672) (by decide +kernel)⟩
theorem lw_p20 : lw_okq (⟨"CoincidenceBureauModel", "begins", "()V"⟩, 14) := ⟨⟨by decide +kernel, by decide +kernel⟩, List.mem_of_getElem? (i := 699) (by decide +kernel), List.mem_of_getElem? (i := 705) (by decide +kernel), List.mem_of_getElem? (i := 706) (by decide +kernel)⟩
theorem lw_p21 : lw_okq (⟨"CoincidenceBureauModel", "personOf", "(I)V"⟩, 14) := ⟨⟨by decide +kernel, by decide +kernel⟩, List.mem_of_getElem? (i := 699) (by decide +kernel), List.mem_of_getElem? (i := 712) (by decide +kernel), List.mem_of_getElem? (i := 713) (by decide +kernel)⟩
theorem lw_p22 : lw_okq (⟨"CoincidenceBureauModel", "habitOf", "(IIIII)V"⟩, 14) := ⟨⟨by decide +kernel, by decide +kernel⟩, List.mem_of_getElem? (i := 699) (by decide +kernel), List.mem_of_getElem? (i := 716) (by decide +kernel), List.mem_of_getElem? (i := 717) (by decide +kernel)⟩
theorem lw_p23 : lw_okq (⟨"CoincidenceBureauModel", "lays", "()V"⟩, 14) := ⟨⟨by decide +kernel, by decide +kernel⟩, List.mem_of_getElem? (i := 699) (by decide +kernel), List.mem_of_getElem? (i := 726) (by decide +kernel), List.mem_of_getElem? (i := 727) (by decide +kernel)⟩
theorem lw_p24 : lw_okq (⟨"CoincidenceBureauModel", "readsAll", "()I"⟩, 14) := ⟨⟨by decide +kernel, by decide +kernel⟩, List.mem_of_getElem? (i := 699) (by decide +kernel), List.mem_of_getElem? (i := 785) (by decide +kernel), List.mem_of_getElem? (i := 786) (by decide +kernel)⟩
theorem lw_p25 : lw_okq (⟨"CoincidenceBureauModel", "readsItem", "(I)Z"⟩, 14) := ⟨⟨by decide +kernel, by decide +kernel⟩, List.mem_of_getElem? (i := 699) (by decide +kernel), List.mem_of_getElem? (i := 789) (by decide +kernel), List.mem_of_getElem? (i := 790) (by decide +kernel)⟩
theorem lw_p26 : lw_okq (⟨"CoincidenceBureauModel", "number", "(III)I"⟩, 14) := ⟨⟨by decide +kernel, by decide +kernel⟩, List.mem_of_getElem? (i := 699) (by decide +kernel), List.mem_of_getElem? (i := 793) (by decide +kernel), List.mem_of_getElem? (i := 794) (by decide +kernel)⟩
theorem lw_p27 : lw_okq (⟨"CoincidenceBureauModel", "letterAt", "(I)I"⟩, 14) := ⟨⟨by decide +kernel, by decide +kernel⟩, List.mem_of_getElem? (i := 699) (by decide +kernel), List.mem_of_getElem? (i := 797) (by decide +kernel), List.mem_of_getElem? (i := 798) (by decide +kernel)⟩
theorem lw_p28 : lw_okq (⟨"CoincidenceBureauModel", "readsHabit", "()Z"⟩, 14) := ⟨⟨by decide +kernel, by decide +kernel⟩, List.mem_of_getElem? (i := 699) (by decide +kernel), List.mem_of_getElem? (i := 804) (by decide +kernel), List.mem_of_getElem? (i := 805) (by decide +kernel)⟩
theorem lw_p29 : lw_okq (⟨"CoincidenceBureauModel", "readsOne", "(III)Z"⟩, 14) := ⟨⟨by decide +kernel, by decide +kernel⟩, List.mem_of_getElem? (i := 699) (by decide +kernel), List.mem_of_getElem? (i := 808) (by decide +kernel), List.mem_of_getElem? (i := 809) (by decide +kernel)⟩
theorem lw_p30 : lw_okq (⟨"CoincidenceBureauModel", "isPerson", "(I)Z"⟩, 14) := ⟨⟨by decide +kernel, by decide +kernel⟩, List.mem_of_getElem? (i := 699) (by decide +kernel), List.mem_of_getElem? (i := 820) (by decide +kernel), List.mem_of_getElem? (i := 821) (by decide +kernel)⟩
theorem lw_p31 : lw_okq (⟨"CoincidenceBureauModel", "hasHabit", "(II)Z"⟩, 14) := ⟨⟨by decide +kernel, by decide +kernel⟩, List.mem_of_getElem? (i := 699) (by decide +kernel), List.mem_of_getElem? (i := 827) (by decide +kernel), List.mem_of_getElem? (i := 828) (by decide +kernel)⟩
def lw_privs_2 : List (MethodName × Nat) := [(⟨"CoincidenceBureau$Town", "tenthsAt", "(III)I"⟩, 10), (⟨"CoincidenceBureau", "leastAlteration", "(III)I"⟩, 10), (⟨"CoincidenceBureau$Town", "othersAt", "(III)I"⟩, 10), (⟨"CoincidenceBureau", "keptBehind", "(I)LCoincidenceBureau$Kept;"⟩, 10), (⟨"CoincidenceBureauModel", "begins", "()V"⟩, 14), (⟨"CoincidenceBureauModel", "personOf", "(I)V"⟩, 14), (⟨"CoincidenceBureauModel", "habitOf", "(IIIII)V"⟩, 14), (⟨"CoincidenceBureauModel", "lays", "()V"⟩, 14), (⟨"CoincidenceBureauModel", "readsAll", "()I"⟩, 14), (⟨"CoincidenceBureauModel", "readsItem", "(I)Z"⟩, 14), (⟨"CoincidenceBureauModel", "number", "(III)I"⟩, 14), (⟨"CoincidenceBureauModel", "letterAt", "(I)I"⟩, 14), (⟨"CoincidenceBureauModel", "readsHabit", "()Z"⟩, 14), (⟨"CoincidenceBureauModel", "readsOne", "(III)Z"⟩, 14), (⟨"CoincidenceBureauModel", "isPerson", "(I)Z"⟩, 14), (⟨"CoincidenceBureauModel", "hasHabit", "(II)Z"⟩, 14)]
theorem lw_r2 : ∀ q ∈ lw_privs_2, lw_okq q := List.forall_mem_cons.mpr ⟨lw_p16, List.forall_mem_cons.mpr ⟨lw_p17, List.forall_mem_cons.mpr ⟨lw_p18, List.forall_mem_cons.mpr ⟨lw_p19, List.forall_mem_cons.mpr ⟨lw_p20, List.forall_mem_cons.mpr ⟨lw_p21, List.forall_mem_cons.mpr ⟨lw_p22, List.forall_mem_cons.mpr ⟨lw_p23, List.forall_mem_cons.mpr ⟨lw_p24, List.forall_mem_cons.mpr ⟨lw_p25, List.forall_mem_cons.mpr ⟨lw_p26, List.forall_mem_cons.mpr ⟨lw_p27, List.forall_mem_cons.mpr ⟨lw_p28, List.forall_mem_cons.mpr ⟨lw_p29, List.forall_mem_cons.mpr ⟨lw_p30, List.forall_mem_cons.mpr ⟨lw_p31, fun _ h => absurd h List.not_mem_nil⟩⟩⟩⟩⟩⟩⟩⟩⟩⟩⟩⟩⟩⟩⟩⟩
theorem lw_p32 : lw_okq (⟨"CoincidenceBureauModel", "isTwo", "(II)Z"⟩, 14) := ⟨⟨by decide +kernel, by decide +kernel⟩, List.mem_of_getElem? (i := 699) (by decide +kernel), List.mem_of_getElem? (i := 839) (by decide +kernel), List.mem_of_getElem? (i := 840) (by decide +kernel)⟩
theorem lw_p33 : lw_okq (⟨"CoincidenceBureauModel", "keeps", "()V"⟩, 14) := ⟨⟨by decide +kernel, by decide +kernel⟩, List.mem_of_getElem? (i := 699) (by decide +kernel), List.mem_of_getElem? (i := 847) (by decide +kernel), List.mem_of_getElem? (i := 848) (by decide +kernel)⟩
theorem lw_p34 : lw_okq (⟨"CoincidenceBureauModel", "passes", "(I)I"⟩, 14) := ⟨⟨by decide +kernel, by decide +kernel⟩, List.mem_of_getElem? (i := 699) (by decide +kernel), List.mem_of_getElem? (i := 851) (by decide +kernel), List.mem_of_getElem? (i := 852) (by decide +kernel)⟩
theorem lw_p35 : lw_okq (⟨"CoincidenceBureauModel", "meet", "(III)Z"⟩, 14) := ⟨⟨by decide +kernel, by decide +kernel⟩, List.mem_of_getElem? (i := 699) (by decide +kernel), List.mem_of_getElem? (i := 855) (by decide +kernel), List.mem_of_getElem? (i := 856) (by decide +kernel)⟩
theorem lw_p36 : lw_okq (⟨"CoincidenceBureauModel", "place", "(III)I"⟩, 14) := ⟨⟨by decide +kernel, by decide +kernel⟩, List.mem_of_getElem? (i := 699) (by decide +kernel), List.mem_of_getElem? (i := 859) (by decide +kernel), List.mem_of_getElem? (i := 860) (by decide +kernel)⟩
theorem lw_p37 : lw_okq (⟨"CoincidenceBureauModel", "isUnlawful", "(III)Z"⟩, 14) := ⟨⟨by decide +kernel, by decide +kernel⟩, List.mem_of_getElem? (i := 699) (by decide +kernel), List.mem_of_getElem? (i := 868) (by decide +kernel), List.mem_of_getElem? (i := 869) (by decide +kernel)⟩
theorem lw_p38 : lw_okq (⟨"CoincidenceBureauModel", "both", "(III)I"⟩, 14) := ⟨⟨by decide +kernel, by decide +kernel⟩, List.mem_of_getElem? (i := 699) (by decide +kernel), List.mem_of_getElem? (i := 905) (by decide +kernel), List.mem_of_getElem? (i := 906) (by decide +kernel)⟩
theorem lw_p39 : lw_okq (⟨"CoincidenceBureauModel", "chance", "(III)I"⟩, 14) := ⟨⟨by decide +kernel, by decide +kernel⟩, List.mem_of_getElem? (i := 699) (by decide +kernel), List.mem_of_getElem? (i := 909) (by decide +kernel), List.mem_of_getElem? (i := 910) (by decide +kernel)⟩
theorem lw_p40 : lw_okq (⟨"CoincidenceBureauModel", "anyHour", "(II)I"⟩, 14) := ⟨⟨by decide +kernel, by decide +kernel⟩, List.mem_of_getElem? (i := 699) (by decide +kernel), List.mem_of_getElem? (i := 923) (by decide +kernel), List.mem_of_getElem? (i := 924) (by decide +kernel)⟩
theorem lw_p41 : lw_okq (⟨"CoincidenceBureauModel", "canBe", "(II)Z"⟩, 14) := ⟨⟨by decide +kernel, by decide +kernel⟩, List.mem_of_getElem? (i := 699) (by decide +kernel), List.mem_of_getElem? (i := 957) (by decide +kernel), List.mem_of_getElem? (i := 958) (by decide +kernel)⟩
theorem lw_p42 : lw_okq (⟨"CoincidenceBureauModel", "byWay", "(III)I"⟩, 14) := ⟨⟨by decide +kernel, by decide +kernel⟩, List.mem_of_getElem? (i := 699) (by decide +kernel), List.mem_of_getElem? (i := 961) (by decide +kernel), List.mem_of_getElem? (i := 962) (by decide +kernel)⟩
theorem lw_p43 : lw_okq (⟨"CoincidenceBureauModel", "unlawfulBy", "(II)I"⟩, 14) := ⟨⟨by decide +kernel, by decide +kernel⟩, List.mem_of_getElem? (i := 699) (by decide +kernel), List.mem_of_getElem? (i := 973) (by decide +kernel), List.mem_of_getElem? (i := 974) (by decide +kernel)⟩
def lw_privs_3 : List (MethodName × Nat) := [(⟨"CoincidenceBureauModel", "isTwo", "(II)Z"⟩, 14), (⟨"CoincidenceBureauModel", "keeps", "()V"⟩, 14), (⟨"CoincidenceBureauModel", "passes", "(I)I"⟩, 14), (⟨"CoincidenceBureauModel", "meet", "(III)Z"⟩, 14), (⟨"CoincidenceBureauModel", "place", "(III)I"⟩, 14), (⟨"CoincidenceBureauModel", "isUnlawful", "(III)Z"⟩, 14), (⟨"CoincidenceBureauModel", "both", "(III)I"⟩, 14), (⟨"CoincidenceBureauModel", "chance", "(III)I"⟩, 14), (⟨"CoincidenceBureauModel", "anyHour", "(II)I"⟩, 14), (⟨"CoincidenceBureauModel", "canBe", "(II)Z"⟩, 14), (⟨"CoincidenceBureauModel", "byWay", "(III)I"⟩, 14), (⟨"CoincidenceBureauModel", "unlawfulBy", "(II)I"⟩, 14)]
theorem lw_r3 : ∀ q ∈ lw_privs_3, lw_okq q := List.forall_mem_cons.mpr ⟨lw_p32, List.forall_mem_cons.mpr ⟨lw_p33, List.forall_mem_cons.mpr ⟨lw_p34, List.forall_mem_cons.mpr ⟨lw_p35, List.forall_mem_cons.mpr ⟨lw_p36, List.forall_mem_cons.mpr ⟨lw_p37, List.forall_mem_cons.mpr ⟨lw_p38, List.forall_mem_cons.mpr ⟨lw_p39, List.forall_mem_cons.mpr ⟨lw_p40, List.forall_mem_cons.mpr ⟨lw_p41, List.forall_mem_cons.mpr ⟨lw_p42, List.forall_mem_cons.mpr ⟨lw_p43, fun _ h => absurd h List.not_mem_nil⟩⟩⟩⟩⟩⟩⟩⟩⟩⟩⟩⟩
def lw_privs : List (MethodName × Nat) := lw_privs_1 ++ (lw_privs_2 ++ (lw_privs_3))
def lw_tbl : List Cond := k2_sels lw_privs ++ tables_1
theorem lw_privs_ok : ∀ q ∈ lw_privs, lw_okq q := by
  show ∀ q ∈ lw_privs_1 ++ (lw_privs_2 ++ (lw_privs_3)), lw_okq q
  exact List.forall_mem_append.mpr ⟨lw_r1, List.forall_mem_append.mpr ⟨lw_r2, lw_r3⟩⟩
end
section
def RX0 : String := "CoincidenceBureau$Changes"
def TX0 : u_T := fun k => match k with
  | 0 => ("CoincidenceBureau$Changes", "sorts", "[I", true)
  | 1 => ("CoincidenceBureau$Changes", "whose", "[I", true)
  | 2 => ("CoincidenceBureau$Changes", "tenthsWere", "[I", true)
  | _ => ("CoincidenceBureau$Changes", "size", "I", false)
def tyX0 : Nat → FieldType := fun k => match k with
  | 0 => .array .int
  | 1 => .array .int
  | 2 => .array .int
  | _ => .int
theorem nmX0 : ∀ a, a < 4 → ∀ b, b < 4 → a ≠ b → (TX0 a).2.1 ≠ (TX0 b).2.1 := by decide +kernel
theorem tyX0_ok : ∀ k, k < 4 → parseFieldDescriptor (TX0 k).2.2.1 = some (tyX0 k) := by decide +kernel
def RX1 : String := "CoincidenceBureau$Files"
def TX1 : u_T := fun k => match k with
  | 0 => ("CoincidenceBureau$Files", "met", "[I", true)
  | 1 => ("CoincidenceBureau$Files", "unlawful", "[I", true)
  | 2 => ("CoincidenceBureau$Files", "times", "[I", true)
  | 3 => ("CoincidenceBureau$Files", "day", "I", false)
  | 4 => ("CoincidenceBureau$Files", "coincidences", "I", false)
  | 5 => ("CoincidenceBureau$Files", "offences", "I", false)
  | _ => ("CoincidenceBureau$Files", "firstOffence", "I", false)
def tyX1 : Nat → FieldType := fun k => match k with
  | 0 => .array .int
  | 1 => .array .int
  | 2 => .array .int
  | 3 => .int
  | 4 => .int
  | 5 => .int
  | _ => .int
theorem nmX1 : ∀ a, a < 7 → ∀ b, b < 7 → a ≠ b → (TX1 a).2.1 ≠ (TX1 b).2.1 := by decide +kernel
theorem tyX1_ok : ∀ k, k < 7 → parseFieldDescriptor (TX1 k).2.2.1 = some (tyX1 k) := by decide +kernel
def RX2 : String := "CoincidenceBureau$Kept"
def TX2 : u_T := fun k => match k with
  | 0 => ("CoincidenceBureau$Kept", "files", "LCoincidenceBureau$Files;", true)
  | 1 => ("CoincidenceBureau$Kept", "tenths", "[I", true)
  | _ => ("CoincidenceBureau$Kept", "leaves", "I", false)
def tyX2 : Nat → FieldType := fun k => match k with
  | 0 => .object "CoincidenceBureau$Files"
  | 1 => .array .int
  | _ => .int
theorem nmX2 : ∀ a, a < 3 → ∀ b, b < 3 → a ≠ b → (TX2 a).2.1 ≠ (TX2 b).2.1 := by decide +kernel
theorem tyX2_ok : ∀ k, k < 3 → parseFieldDescriptor (TX2 k).2.2.1 = some (tyX2 k) := by decide +kernel
def RX3 : String := "CoincidenceBureau$Lookout"
def TX3 : u_T := fun k => match k with
  | 0 => ("CoincidenceBureau$Lookout", "spots", "[I", true)
  | 1 => ("CoincidenceBureau$Lookout", "heads", "[I", true)
  | _ => ("CoincidenceBureau$Lookout", "met", "[I", true)
def tyX3 : Nat → FieldType := fun k => match k with
  | 0 => .array .int
  | 1 => .array .int
  | _ => .array .int
theorem nmX3 : ∀ a, a < 3 → ∀ b, b < 3 → a ≠ b → (TX3 a).2.1 ≠ (TX3 b).2.1 := by decide +kernel
theorem tyX3_ok : ∀ k, k < 3 → parseFieldDescriptor (TX3 k).2.2.1 = some (tyX3 k) := by decide +kernel
def RX4 : String := "CoincidenceBureau$Stamps"
def TX4 : u_T := fun k => match k with
  | 0 => ("CoincidenceBureau$Stamps", "hours", "[I", true)
  | 1 => ("CoincidenceBureau$Stamps", "places", "[I", true)
  | 2 => ("CoincidenceBureau$Stamps", "heads", "[I", true)
  | _ => ("CoincidenceBureau$Stamps", "size", "I", false)
def tyX4 : Nat → FieldType := fun k => match k with
  | 0 => .array .int
  | 1 => .array .int
  | 2 => .array .int
  | _ => .int
theorem nmX4 : ∀ a, a < 4 → ∀ b, b < 4 → a ≠ b → (TX4 a).2.1 ≠ (TX4 b).2.1 := by decide +kernel
theorem tyX4_ok : ∀ k, k < 4 → parseFieldDescriptor (TX4 k).2.2.1 = some (tyX4 k) := by decide +kernel
def RX5 : String := "CoincidenceBureau$Text"
def TX5 : u_T := fun k => match k with
  | 0 => ("CoincidenceBureau$Text", "letters", "[C", true)
  | 1 => ("CoincidenceBureau$Text", "numbers", "[I", true)
  | 2 => ("CoincidenceBureau$Text", "size", "I", false)
  | _ => ("CoincidenceBureau$Text", "next", "I", false)
def tyX5 : Nat → FieldType := fun k => match k with
  | 0 => .array .char
  | 1 => .array .int
  | 2 => .int
  | _ => .int
theorem nmX5 : ∀ a, a < 4 → ∀ b, b < 4 → a ≠ b → (TX5 a).2.1 ≠ (TX5 b).2.1 := by decide +kernel
theorem tyX5_ok : ∀ k, k < 4 → parseFieldDescriptor (TX5 k).2.2.1 = some (tyX5 k) := by decide +kernel
def RX6 : String := "CoincidenceBureau$Town"
def TX6 : u_T := fun k => match k with
  | 0 => ("CoincidenceBureau$Town", "kinds", "[I", true)
  | 1 => ("CoincidenceBureau$Town", "placeA", "[I", true)
  | 2 => ("CoincidenceBureau$Town", "placeB", "[I", true)
  | 3 => ("CoincidenceBureau$Town", "tenths", "[I", true)
  | 4 => ("CoincidenceBureau$Town", "persons", "I", false)
  | 5 => ("CoincidenceBureau$Town", "leaves", "I", false)
  | 6 => ("CoincidenceBureau$Town", "ban", "I", false)
  | 7 => ("CoincidenceBureau$Town", "crowd", "I", false)
  | 8 => ("CoincidenceBureau$Town", "fine", "I", false)
  | _ => ("CoincidenceBureau$Town", "seed", "I", false)
def tyX6 : Nat → FieldType := fun k => match k with
  | 0 => .array .int
  | 1 => .array .int
  | 2 => .array .int
  | 3 => .array .int
  | 4 => .int
  | 5 => .int
  | 6 => .int
  | 7 => .int
  | 8 => .int
  | _ => .int
theorem nmX6 : ∀ a, a < 10 → ∀ b, b < 10 → a ≠ b → (TX6 a).2.1 ≠ (TX6 b).2.1 := by decide +kernel
theorem tyX6_ok : ∀ k, k < 10 → parseFieldDescriptor (TX6 k).2.2.1 = some (tyX6 k) := by decide +kernel
def RX7 : String := "CoincidenceBureau"
def TX7 : u_T := fun k => match k with
  | 0 => ("CoincidenceBureau", "text", "LCoincidenceBureau$Text;", true)
  | 1 => ("CoincidenceBureau", "town", "LCoincidenceBureau$Town;", false)
  | 2 => ("CoincidenceBureau", "draft", "LCoincidenceBureau$Town;", false)
  | 3 => ("CoincidenceBureau", "files", "LCoincidenceBureau$Files;", true)
  | 4 => ("CoincidenceBureau", "changes", "LCoincidenceBureau$Changes;", true)
  | 5 => ("CoincidenceBureau", "stamps", "LCoincidenceBureau$Stamps;", true)
  | 6 => ("CoincidenceBureau", "keptFirst", "LCoincidenceBureau$Kept;", true)
  | 7 => ("CoincidenceBureau", "keptSecond", "LCoincidenceBureau$Kept;", true)
  | 8 => ("CoincidenceBureau", "keptSize", "I", false)
  | _ => ("CoincidenceBureau", "lookout", "LCoincidenceBureau$Lookout;", true)
def tyX7 : Nat → FieldType := fun k => match k with
  | 0 => .object "CoincidenceBureau$Text"
  | 1 => .object "CoincidenceBureau$Town"
  | 2 => .object "CoincidenceBureau$Town"
  | 3 => .object "CoincidenceBureau$Files"
  | 4 => .object "CoincidenceBureau$Changes"
  | 5 => .object "CoincidenceBureau$Stamps"
  | 6 => .object "CoincidenceBureau$Kept"
  | 7 => .object "CoincidenceBureau$Kept"
  | 8 => .int
  | _ => .object "CoincidenceBureau$Lookout"
theorem nmX7 : ∀ a, a < 10 → ∀ b, b < 10 → a ≠ b → (TX7 a).2.1 ≠ (TX7 b).2.1 := by decide +kernel
theorem tyX7_ok : ∀ k, k < 10 → parseFieldDescriptor (TX7 k).2.2.1 = some (tyX7 k) := by decide +kernel
def RX8 : String := "CoincidenceBureauModel"
def TX8 : u_T := fun k => match k with
  | 0 => ("CoincidenceBureauModel", "text", "[I", true)
  | 1 => ("CoincidenceBureauModel", "typed", "I", false)
  | 2 => ("CoincidenceBureauModel", "told", "[I", true)
  | 3 => ("CoincidenceBureauModel", "draft", "[I", true)
  | 4 => ("CoincidenceBureauModel", "begun", "[I", true)
  | 5 => ("CoincidenceBureauModel", "s", "[I", true)
  | 6 => ("CoincidenceBureauModel", "past", "[I", true)
  | 7 => ("CoincidenceBureauModel", "known", "I", false)
  | 8 => ("CoincidenceBureauModel", "images", "[I", true)
  | 9 => ("CoincidenceBureauModel", "kept", "I", false)
  | 10 => ("CoincidenceBureauModel", "stamps", "[I", true)
  | 11 => ("CoincidenceBureauModel", "stamped", "I", false)
  | 12 => ("CoincidenceBureauModel", "at", "I", false)
  | _ => ("CoincidenceBureauModel", "held", "[I", true)
def tyX8 : Nat → FieldType := fun k => match k with
  | 0 => .array .int
  | 1 => .int
  | 2 => .array .int
  | 3 => .array .int
  | 4 => .array .int
  | 5 => .array .int
  | 6 => .array .int
  | 7 => .int
  | 8 => .array .int
  | 9 => .int
  | 10 => .array .int
  | 11 => .int
  | 12 => .int
  | _ => .array .int
theorem nmX8 : ∀ a, a < 14 → ∀ b, b < 14 → a ≠ b → (TX8 a).2.1 ≠ (TX8 b).2.1 := by decide +kernel
theorem tyX8_ok : ∀ k, k < 14 → parseFieldDescriptor (TX8 k).2.2.1 = some (tyX8 k) := by decide +kernel
/-- the classes whose objects the worlds hold -/
def pm_cl : List vw_C := [(RX0, TX0, 4), (RX1, TX1, 7), (RX2, TX2, 3), (RX3, TX3, 3), (RX4, TX4, 4), (RX5, TX5, 4), (RX6, TX6, 10), (RX7, TX7, 10), (RX8, TX8, 14)]
end
section
/-! A picture of the machine that can be computed with: cells by their numbers, a frame's locals and stack, and what it is for a frame to go well. -/
def pm_T : List Cond := lw_tbl.filter goodWord
def pm_isN : Cond → Bool
  | .methodLinkNest .. => true
  | _ => false
def pm_N : List Cond := tables_1.filter pm_isN
theorem pm_T_good : ∀ w ∈ pm_T, goodWord w = true := fun _ h => (List.mem_filter.mp h).2
theorem pm_T_of {w : Cond} (i : Nat) (h : lw_tbl[i]? = some w) (hg : goodWord w = true) : w ∈ pm_T := List.mem_filter.mpr ⟨List.mem_of_getElem? h, hg⟩
/-- a cell: an array (0: of int, else of char) with its contents, or an object of a class (by its number in pm_cl) with its fields -/
abbrev pm_C : Type := (Nat × List Int32) ⊕ (Nat × List Value)
abbrev pm_W : Type := List pm_C
abbrev pm_L : Type := List (Nat × Value)
/-- a method: name, code, locals, answer, room -/
abbrev pm_M : Type := MethodName × ByteArray × Nat × Option FieldType × Room
/-- class numbers; the array classes of int and of char; the String constant and its bytes; a static of the JDK's -/
abbrev pm_G : Type := va_G × ClassId × ClassId × Nat × Nat × Option Nat
def pm_tv (G : pm_G) (ad : Nat → Nat) : Value → Value
  | .ref k => .ref (ad k)
  | .retAddr 0 => .ref G.2.2.2.1
  | .retAddr 1 => .ref G.2.2.2.2.1
  | .retAddr _ => va_rf G.2.2.2.2.2
  | v => v
def pm_ce (G : pm_G) (ad : Nat → Nat) : pm_C → va_E
  | .inl a => .inl (if a.1 = 0 then G.2.1 else G.2.2.1, a.2.length, .inl (fun j => a.2.getD j 0))
  | .inr o => .inr (o.1, o.2.map (pm_tv G ad))
def pm_cw (G : pm_G) (ad : Nat → Nat) (w : pm_W) : va_W := w.mapIdx (fun k c => (ad k, pm_ce G ad c))
def pm_lt (G : pm_G) (ad : Nat → Nat) (lv : pm_L) : List (Nat × Value) := lv.map (fun q => (q.1, pm_tv G ad q.2))
def pm_tys (G : pm_G) : List (ClassId × FieldType) := [(G.2.1, .int), (G.2.2.1, .char)]
def pm_tx : String := "p0;p0;p2;p3;h0,0,1,2,5;h0,1,3,3,0;h1,0,1,4,4;h1,1,3,0,7;h2,0,2,1,5;h2,2,5,5,1;h3,0,1,1,9;h3,2,5,0,2;l0,3;n3;c4;f5;z2;"
def pm_bt : List Int32 := [112, 48, 59, 112, 48, 59, 112, 50, 59, 112, 51, 59, 104, 48, 44, 48, 44, 49, 44, 50, 44, 53, 59, 104, 48, 44, 49, 44, 51, 44, 51, 44, 48, 59, 104, 49, 44, 48, 44, 49, 44, 52, 44, 52, 59, 104, 49, 44, 49, 44, 51, 44, 48, 44, 55, 59, 104, 50, 44, 48, 44, 50, 44, 49, 44, 53, 59, 104, 50, 44, 50, 44, 53, 44, 53, 44, 49, 59, 104, 51, 44, 48, 44, 49, 44, 49, 44, 57, 59, 104, 51, 44, 50, 44, 53, 44, 48, 44, 50, 59, 108, 48, 44, 51, 59, 110, 51, 59, 99, 52, 59, 102, 53, 59, 122, 50, 59]
/-- what stands outside the world and stays: the String constant, and that Strings are compact -/
def pm_str (G : pm_G) (A : Nat → Prop) (U : State) (H : Heap) : Prop := vk_S 1 [117] [pm_bt] (fun _ => G.2.2.2.1) (fun _ => G.2.2.2.2.1) A U H ∧ vk_R "CoincidenceBureau" 68 pm_tx G.2.2.2.1 U ∧ va_Z "java/lang/String" "COMPACT_STRINGS" "Z" (.int 1) A U H ∧ va_Z "jdk/internal/util/Preconditions" "SIOOBE_FORMATTER" "Ljava/util/function/BiFunction;" (va_rf G.2.2.2.2.2) A U H
def pm_nest (U : State) : Prop := ∀ w ∈ pm_N, va_Nw w U
theorem pm_str_to {G : pm_G} {A B : Nat → Prop} {s U : State} {H H1 : Heap} (hW : s.WarmedH U.vm) (hq : ∀ a : Nat, a < H.size → ¬ A a → H1[a]? = H[a]?) (hAB : ∀ q, B q → A q) (h : pm_str G A s H) : pm_str G B U H1 :=
  ⟨((h.1.kept hq).narrow hAB).moved hW.alike, h.2.1.warm hW, ((h.2.2.1.kept hq).narrow hAB).moved hW.alike, ((h.2.2.2.kept hq).narrow hAB).moved hW.alike⟩
theorem pm_str_same {G : pm_G} {A : Nat → Prop} {s U : State} {H : Heap} (hv : U.vm = s.vm) (h : pm_str G A s H) : pm_str G A U H :=
  ⟨h.1.moved (by rw [hv]; exact Vm.Alike.refl _), h.2.1.same hv, h.2.2.1.moved (by rw [hv]; exact Vm.Alike.refl _), h.2.2.2.moved (by rw [hv]; exact Vm.Alike.refl _)⟩
theorem pm_nest_warm {s U : State} (hW : s.WarmedH U.vm) (h : pm_nest s) : pm_nest U := by
  intro w hw
  have h1 := h w hw
  have h2 := (List.mem_filter.mp hw).2
  cases w <;> simp [pm_isN] at h2
  exact va_Nw.warmM hW h1
theorem pm_nest_same {s U : State} (hv : s.vm = U.vm) (h : pm_nest s) : pm_nest U := by
  intro w hw
  have h1 := h w hw
  have h2 := (List.mem_filter.mp hw).2
  cases w <;> simp [pm_isN] at h2
  exact va_Nw.same rfl hv h1
/-- the frame's method, and what the tables say -/
def pm_ctx (M : pm_M) (p : Program) (s : State) (m : MethodId) (args : Array Value) (meth : Method) (c : Code) : Prop :=
  p.tables.exec = Jvm.exec ∧ c.code = M.2.1 ∧ meth.sig.returnType = M.2.2.2.1 ∧ c.maxLocals = M.2.2.1 ∧ s.vm.findClass M.1.cls = some m.cls ∧ (∀ w ∈ pm_T, w.before args s = true) ∧ meth.locks = false ∧ meth.name = M.1.name
/-- the heap holds the picture w at the addresses ad; outside A nothing has changed -/
def pm_at (G : pm_G) (A : Nat → Prop) (ad : Nat → Nat) (w : pm_W) (s : State) (H : Heap) (locs : List Loc) : Prop :=
  va_K G.1 pm_cl (pm_tys G) s ∧ va_P G.1 pm_cl (pm_cw G ad w) H ∧ va_D A (pm_cw G ad w) ∧ va_S A s.heap H locs ∧ (∀ q : Nat, s.heap.size ≤ q → A q) ∧ pm_nest s ∧ pm_str G A s s.heap
/-- the addresses ad go on from those that the frame began with -/
def pm_ag (ad0 ad : Nat → Nat) (n0 n : Nat) : Prop := n0 ≤ n ∧ ∀ k : Nat, k < n0 ∨ n ≤ k → ad k = ad0 k
def pm_Q (P : Option Value → pm_W → Prop) (G : pm_G) (A : Nat → Prop) (ad0 : Nat → Nat) (n0 : Nat) : Array Value → State → Outcome → State → Prop := fun _ st oc t =>
  (∃ (ad : Nat → Nat) (r : Option Value) (w : pm_W), oc = .returned (r.map (pm_tv G ad)) ∧ P r w ∧ pm_ag ad0 ad n0 w.length ∧ va_P G.1 pm_cl (pm_cw G ad w) t.heap ∧ va_D A (pm_cw G ad w) ∧ va_K G.1 pm_cl (pm_tys G) t) ∧ va_F A st t
/-- THE FRAME GOES WELL: from pc, with these locals, this stack and this world, the method returns, and P holds of its answer and the world behind it -/
def pm_Good (M : pm_M) (pc : Nat) (lv : pm_L) (st : List Value) (w : pm_W) (ca sl : Nat) (P : Option Value → pm_W → Prop) : Prop :=
  ∀ (l : Launch) (p : Program) (e : Env) (s : State) (m : MethodId) (args : Array Value) (below : List Frame) (meth : Method) (c : Code) (G : pm_G) (A : Nat → Prop) (ad0 ad : Nat → Nat) (n0 : Nat) (H : Heap) (locs : List Loc) (ls : Array Slot),
    pm_ctx M p s m args meth c → pm_at G A ad w s H locs → pm_ag ad0 ad n0 w.length → lv_has ls M.2.2.1 (pm_lt G ad lv) → ca ≤ M.2.2.2.2.cells → sl ≤ M.2.2.2.2.slots →
    W p l e M.2.2.2.2 s m args below meth c H locs ca sl (MQ below (pm_Q P G A ad0 n0) args s M.2.2.2.2.cells M.2.2.2.2.slots A) (F0 m pc ls (st.map (pm_tv G ad)))
def pm_GoodM (M : pm_M) (As : List Value) (w : pm_W) (P : Option Value → pm_W → Prop) : Prop := pm_Good M 0 (lv_args 0 As) [] w 0 0 P
theorem pm_W_mono {p : Program} {l : Launch} {e : Env} {R : Room} {s : State} {m : MethodId} {args : Array Value} {below : List Frame} {meth : Method} {c : Code} {H : Heap} {locs : List Loc} {ca sl : Nat} {Q Q' : State → Prop} {g : JFrame} (hQ : ∀ t, Q t → Q' t) (h : W p l e R s m args below meth c H locs ca sl Q g) : W p l e R s m args below meth c H locs ca sl Q' g := by
  intro T hT X
  obtain ⟨t, a, b⟩ := h T hT X
  exact ⟨t, a, hQ t b⟩
theorem pm_mono {M : pm_M} {pc : Nat} {lv : pm_L} {st : List Value} {w : pm_W} {ca sl : Nat} {P P' : Option Value → pm_W → Prop} (hP : ∀ r w', P r w' → P' r w') (h : pm_Good M pc lv st w ca sl P) : pm_Good M pc lv st w ca sl P' := by
  intro l p e s m args below meth c G A ad0 ad n0 H locs ls h1 h2 h3 h4 h5 h6
  refine pm_W_mono ?_ (h l p e s m args below meth c G A ad0 ad n0 H locs ls h1 h2 h3 h4 h5 h6)
  intro t ht
  obtain ⟨o, a1, a2, ⟨⟨ad9, r, w9, b1, b2, b3⟩, b4⟩, a3⟩ := ht
  exact ⟨o, a1, a2, ⟨⟨ad9, r, w9, b1, hP _ _ b2, b3⟩, b4⟩, a3⟩
theorem pm_cw_get (G : pm_G) (ad : Nat → Nat) (w : pm_W) (k : Nat) : (pm_cw G ad w)[k]? = (w[k]?).map (fun c => (ad k, pm_ce G ad c)) := by
  unfold pm_cw
  rw [List.getElem?_mapIdx]
theorem pm_cw_at {G : pm_G} {ad : Nat → Nat} {w : pm_W} {k : Nat} {c : pm_C} (h : w[k]? = some c) : (pm_cw G ad w)[k]? = some (ad k, pm_ce G ad c) := by
  rw [pm_cw_get, h]
  rfl
theorem pm_cw_set (G : pm_G) (ad : Nat → Nat) (w : pm_W) (q : Nat) (c : pm_C) : (pm_cw G ad w).set q (ad q, pm_ce G ad c) = pm_cw G ad (w.set q c) := by
  apply List.ext_getElem?
  intro k
  rw [pm_cw_get, List.getElem?_set, List.getElem?_set, pm_cw_get]
  have hl : (pm_cw G ad w).length = w.length := by unfold pm_cw; simp
  by_cases hqk : q = k
  · subst hqk
    by_cases hlt : q < w.length
    · simp [hl, hlt]
    · simp [hl, hlt]
  · simp [hqk]
theorem pm_cat (G : pm_G) (ad : Nat → Nat) (v : Value) : (pm_tv G ad v).category = v.category := by
  cases v with
  | retAddr n =>
    match n with
    | 0 => rfl
    | 1 => rfl
    | n + 2 =>
      show (va_rf G.2.2.2.2.2).category = 1
      cases G.2.2.2.2.2 <;> rfl
  | _ => rfl
theorem pm_cats (G : pm_G) (ad : Nat → Nat) (st : List Value) : ((st.map (pm_tv G ad)).map fun v => v.category) = st.map fun v => v.category := by
  rw [List.map_map]
  apply List.map_congr_left
  intro v _
  exact pm_cat G ad v
/-- the local variable i -/
def pm_lk : Nat → pm_L → Option Value
  | _, [] => none
  | i, q :: l => bif Nat.beq q.1 i then some q.2 else pm_lk i l
theorem pm_lk_mem {i : Nat} {v : Value} : ∀ {lv : pm_L}, pm_lk i lv = some v → (i, v) ∈ lv
  | [], h => by simp [pm_lk] at h
  | q :: l, h => by
    unfold pm_lk at h
    cases hb : Nat.beq q.1 i with
    | true =>
      rw [hb] at h
      have e1 : q.1 = i := Nat.eq_of_beq_eq_true hb
      have e2 : q.2 = v := Option.some.inj h
      rw [← e1, ← e2]
      exact List.mem_cons_self
    | false =>
      rw [hb] at h
      exact List.mem_cons_of_mem _ (pm_lk_mem h)
theorem pm_lk_has {G : pm_G} {ad : Nat → Nat} {ls : Array Slot} {nL i : Nat} {lv : pm_L} {v : Value} (h : lv_has ls nL (pm_lt G ad lv)) (hk : pm_lk i lv = some v) : ls[i]? = some (.val (pm_tv G ad v)) :=
  h.2.2 (i, pm_tv G ad v) (List.mem_map.mpr ⟨(i, v), pm_lk_mem hk, rfl⟩)
def pm_s1 (i : Nat) (v : Value) (lv : pm_L) : pm_L := (i, v) :: lv.filter (fun q => !(q.1 == i) && !(q.1 + 1 == i && q.2.category == 2))
def pm_s2 (i : Nat) (v : Value) (lv : pm_L) : pm_L := (i, v) :: lv.filter (fun q => !(q.1 == i) && (!(q.1 == i + 1) && !(q.1 + 1 == i && q.2.category == 2)))
theorem pm_s1_lt (G : pm_G) (ad : Nat → Nat) (i : Nat) (v : Value) (lv : pm_L) : (i, pm_tv G ad v) :: (pm_lt G ad lv).filter (fun q => !(q.1 == i) && !(q.1 + 1 == i && q.2.category == 2)) = pm_lt G ad (pm_s1 i v lv) := by
  unfold pm_s1 pm_lt
  rw [List.map_cons, List.filter_map]
  congr 2
  apply List.filter_congr
  intro q _
  simp [pm_cat]
theorem pm_s2_lt (G : pm_G) (ad : Nat → Nat) (i : Nat) (v : Value) (lv : pm_L) : (i, pm_tv G ad v) :: (pm_lt G ad lv).filter (fun q => !(q.1 == i) && (!(q.1 == i + 1) && !(q.1 + 1 == i && q.2.category == 2))) = pm_lt G ad (pm_s2 i v lv) := by
  unfold pm_s2 pm_lt
  rw [List.map_cons, List.filter_map]
  congr 2
  apply List.filter_congr
  intro q _
  simp [pm_cat]
end
section
/-! rows: an instruction each, over the picture -/
section PMR
variable {M : pm_M} {pc : Nat} {lv : pm_L} {st : List Value} {w : pm_W} {ca sl : Nat} {P : Option Value → pm_W → Prop}
/-- an instruction that touches no heap -/
theorem pm_step {pc' : Nat} {lv' : pm_L} {st' : List Value}
    (hs : ∀ (l : Launch) (p : Program) (e : Env) (s : State) (m : MethodId) (args : Array Value) (below : List Frame) (meth : Method) (c : Code) (G : pm_G) (ad : Nat → Nat) (H : Heap) (locs : List Loc) (ls : Array Slot) (Q : State → Prop), pm_ctx M p s m args meth c → lv_has ls M.2.2.1 (pm_lt G ad lv) →
      (∀ ls' : Array Slot, lv_has ls' M.2.2.1 (pm_lt G ad lv') → W p l e M.2.2.2.2 s m args below meth c H locs ca sl Q (F0 m pc' ls' (st'.map (pm_tv G ad)))) → W p l e M.2.2.2.2 s m args below meth c H locs ca sl Q (F0 m pc ls (st.map (pm_tv G ad))))
    (h : pm_Good M pc' lv' st' w ca sl P) : pm_Good M pc lv st w ca sl P := by
  intro l p e s m args below meth c G A ad0 ad n0 H locs ls h1 h2 h3 h4 h5 h6
  exact hs l p e s m args below meth c G ad H locs ls _ h1 h4 (fun ls' hl => h l p e s m args below meth c G A ad0 ad n0 H locs ls' h1 h2 h3 hl h5 h6)
/-- the instructions that touch the stack alone -/
def pm_op : Instr → List Value → Option (List Value)
  | .iconst n, st => some (.int (Int32.ofInt n) :: st)
  | .bipush n, st => some (.int (Int8.ofInt n).toInt32 :: st)
  | .sipush n, st => some (.int (Int16.ofInt n).toInt32 :: st)
  | .lconst n, st => some (.long (Int64.ofNat (n : Nat)) :: st)
  | .iadd, .int y :: .int x :: st => some (.int (x + y) :: st)
  | .isub, .int y :: .int x :: st => some (.int (x - y) :: st)
  | .imul, .int y :: .int x :: st => some (.int (x * y) :: st)
  | .iand, .int y :: .int x :: st => some (.int (x &&& y) :: st)
  | .ior, .int y :: .int x :: st => some (.int (x ||| y) :: st)
  | .ixor, .int y :: .int x :: st => some (.int (x ^^^ y) :: st)
  | .idiv, .int y :: .int x :: st => if y = 0 then none else some (.int (x / y) :: st)
  | .irem, .int y :: .int x :: st => if y = 0 then none else some (.int (x - x / y * y) :: st)
  | .ineg, .int x :: st => some (.int (-x) :: st)
  | .ishl, .int y :: .int x :: st => some (.int (x <<< (y &&& 31)) :: st)
  | .ishr, .int y :: .int x :: st => some (.int (x >>> (y &&& 31)) :: st)
  | .iushr, .int y :: .int x :: st => some (.int (x.toUInt32 >>> (y.toUInt32 &&& Int32.toUInt32 31)).toInt32 :: st)
  | .ladd, .long y :: .long x :: st => some (.long (x + y) :: st)
  | .lmul, .long y :: .long x :: st => some (.long (x * y) :: st)
  | .ldiv, .long y :: .long x :: st => if y = 0 then none else some (.long (x / y) :: st)
  | .lrem, .long y :: .long x :: st => if y = 0 then none else some (.long (x - x / y * y) :: st)
  | .i2l, .int x :: st => some (.long x.toInt64 :: st)
  | .l2i, .long x :: st => some (.int x.toInt32 :: st)
  | .i2c, .int x :: st => some (.int (x.toUInt32 % 65536).toInt32 :: st)
  | .dup, v :: st => if v.category = 1 then some (v :: v :: st) else none
  | .pop, v :: st => if v.category = 1 then some st else none
  | .dup2, v :: u :: st => if v.category = 1 ∧ u.category = 1 then some (v :: u :: v :: u :: st) else none
  | _, _ => none
/-- how long they are -/
def pm_len : Instr → Nat
  | .bipush _ => 2
  | .sipush _ => 3
  | _ => 1
set_option maxHeartbeats 4000000 in
theorem pm_op_ok {i : Instr} {st' : List Value} (hd : decode M.2.1 pc = .ok (i, pm_len i)) (ho : pm_op i st = some st') (h : pm_Good M (pc + pm_len i) lv st' w ca sl P) : pm_Good M pc lv st w ca sl P := by
  refine pm_step ?_ h
  intro l p e s m args below meth c G ad H locs ls Q hC hl hk
  have hk := hk ls hl
  obtain ⟨hx, hb, -⟩ := hC
  unfold pm_op at ho
  split at ho
  all_goals first
    | (cases ho)
    | skip
  all_goals simp only [pm_len] at hd hk
  · exact lv_iconst hx hb hd rfl hk
  · exact lv_bipush hx hb hd rfl hk
  · exact lv_sipush hx hb hd rfl hk
  · exact lv_lconst hx hb hd rfl hk
  · exact lv_iadd hx hb hd hk
  · exact lv_isub hx hb hd hk
  · exact lv_imul hx hb hd hk
  · exact lv_iand hx hb hd hk
  · exact lv_ior hx hb hd hk
  · exact lv_ixor hx hb hd hk
  · split at ho
    · cases ho
    · cases ho; exact lv_idiv hx hb hd (by assumption) hk
  · split at ho
    · cases ho
    · cases ho; exact lv_irem hx hb hd (by assumption) hk
  · exact lv_ineg hx hb hd hk
  · exact lv_ishl hx hb hd hk
  · exact lv_ishr hx hb hd hk
  · exact lv_iushr hx hb hd rfl hk
  · exact lv_ladd hx hb hd hk
  · exact lv_lmul hx hb hd hk
  · split at ho
    · cases ho
    · cases ho; exact lv_ldiv hx hb hd (by assumption) hk
  · split at ho
    · cases ho
    · cases ho; exact lv_lrem hx hb hd (by assumption) hk
  · exact lv_i2l hx hb hd rfl hk
  · exact lv_l2i hx hb hd rfl hk
  · exact lv_i2c hx hb hd rfl hk
  · split at ho
    · cases ho; exact lv_dup hx hb hd (by rw [pm_cat]; assumption) hk
    · cases ho
  · split at ho
    · cases ho; exact lv_pop hx hb hd (by rw [pm_cat]; assumption) hk
    · cases ho
  · split at ho
    · rename_i hcc
      cases ho; exact lv_dup2_11 hx hb hd (by rw [pm_cat]; exact hcc.1) (by rw [pm_cat]; exact hcc.2) hk
    · cases ho
/-- loads -/
def pm_ld : Instr → Option (Nat × Nat × Nat)
  | .iload_n k => some (k.val, 0, 1)
  | .iload i => some (i, 0, 2)
  | .lload_n k => some (k.val, 1, 1)
  | .lload i => some (i, 1, 2)
  | .aload_n k => some (k.val, 2, 1)
  | .aload i => some (i, 2, 2)
  | _ => none
def pm_kind : Value → Nat
  | .int _ => 0
  | .long _ => 1
  | .ref _ => 2
  | .retAddr 0 => 2
  | .retAddr 1 => 2
  | _ => 3
theorem pm_kind2 {v : Value} (h : pm_kind v = 2) (G : pm_G) (ad : Nat → Nat) : ∃ a, pm_tv G ad v = .ref a := by
  cases v with
  | ref k => exact ⟨_, rfl⟩
  | retAddr n =>
    match n, h with
    | 0, _ => exact ⟨_, rfl⟩
    | 1, _ => exact ⟨_, rfl⟩
    | n + 2, h => simp [pm_kind] at h
  | _ => simp [pm_kind] at h
theorem pm_kind0 {v : Value} (h : pm_kind v = 0) : ∃ x, v = .int x := by
  cases v with
  | int x => exact ⟨x, rfl⟩
  | retAddr n =>
    match n, h with
    | n + 2, h => simp [pm_kind] at h
  | _ => simp [pm_kind] at h
theorem pm_kind1 {v : Value} (h : pm_kind v = 1) : ∃ x, v = .long x := by
  cases v with
  | long x => exact ⟨x, rfl⟩
  | retAddr n =>
    match n, h with
    | n + 2, h => simp [pm_kind] at h
  | _ => simp [pm_kind] at h
theorem pm_ld_ok {i : Instr} {x k n : Nat} {v : Value} (hd : decode M.2.1 pc = .ok (i, n)) (ho : pm_ld i = some (x, k, n)) (hv : pm_lk x lv = some v) (hk : pm_kind v = k) (h : pm_Good M (pc + n) lv (v :: st) w ca sl P) : pm_Good M pc lv st w ca sl P := by
  refine pm_step ?_ h
  intro l p e s m args below meth c G ad H locs ls Q hC hl hk2
  have hk2 := hk2 ls hl
  have hg := pm_lk_has hl hv
  obtain ⟨hx, hb, -⟩ := hC
  unfold pm_ld at ho
  split at ho <;> first | (cases ho) | skip
  · obtain ⟨y, rfl⟩ := pm_kind0 hk
    exact lv_iload_n hx hb hd rfl hg hk2
  · obtain ⟨y, rfl⟩ := pm_kind0 hk
    exact lv_iload hx hb hd hg hk2
  · obtain ⟨y, rfl⟩ := pm_kind1 hk
    exact lv_lload_n hx hb hd rfl hg hk2
  · obtain ⟨y, rfl⟩ := pm_kind1 hk
    exact lv_lload hx hb hd hg hk2
  · obtain ⟨y, hy⟩ := pm_kind2 hk G ad
    rw [List.map_cons, hy] at hk2
    rw [hy] at hg
    exact lv_aload_n hx hb hd rfl hg hk2
  · obtain ⟨y, hy⟩ := pm_kind2 hk G ad
    rw [List.map_cons, hy] at hk2
    rw [hy] at hg
    exact lv_aload hx hb hd hg hk2
/-- stores of one word -/
def pm_sto : Instr → Option (Nat × Nat × Nat)
  | .istore_n k => some (k.val, 0, 1)
  | .istore i => some (i, 0, 2)
  | .astore_n k => some (k.val, 2, 1)
  | .astore i => some (i, 2, 2)
  | _ => none
theorem pm_sto_ok {i : Instr} {x k n : Nat} {v : Value} (hd : decode M.2.1 pc = .ok (i, n)) (ho : pm_sto i = some (x, k, n)) (hk : pm_kind v = k) (hn : x < M.2.2.1) (h : pm_Good M (pc + n) (pm_s1 x v lv) st w ca sl P) : pm_Good M pc lv (v :: st) w ca sl P := by
  refine pm_step ?_ h
  intro l p e s m args below meth c G ad H locs ls Q hC hl hk2
  obtain ⟨hx, hb, -⟩ := hC
  have e1 := pm_s1_lt G ad x v lv
  unfold pm_sto at ho
  split at ho <;> first | (cases ho) | skip
  · obtain ⟨y, rfl⟩ := pm_kind0 hk
    exact lv_istore_n hx hb hd rfl hl hn e1 hk2
  · obtain ⟨y, rfl⟩ := pm_kind0 hk
    exact lv_istore hx hb hd hl hn e1 hk2
  · obtain ⟨y, hy⟩ := pm_kind2 hk G ad
    rw [List.map_cons, hy]
    rw [hy] at e1
    exact lv_astore_n hx hb hd rfl hl hn e1 hk2
  · obtain ⟨y, hy⟩ := pm_kind2 hk G ad
    rw [List.map_cons, hy]
    rw [hy] at e1
    exact lv_astore hx hb hd hl hn e1 hk2
theorem pm_lst {i : Nat} {x : Int64} (hd : decode M.2.1 pc = .ok (.lstore i, 2)) (hn : i + 1 < M.2.2.1) (h : pm_Good M (pc + 2) (pm_s2 i (.long x) lv) st w ca sl P) : pm_Good M pc lv (.long x :: st) w ca sl P := by
  refine pm_step ?_ h
  intro l p e s m args below meth c G ad H locs ls Q hC hl hk2
  obtain ⟨hx, hb, -⟩ := hC
  exact lv_lstore hx hb hd hl hn (pm_s2_lt G ad i (.long x) lv) hk2
theorem pm_lstn {k : Fin 4} {x : Int64} (hd : decode M.2.1 pc = .ok (.lstore_n k, 1)) (hn : k.val + 1 < M.2.2.1) (h : pm_Good M (pc + 1) (pm_s2 k.val (.long x) lv) st w ca sl P) : pm_Good M pc lv (.long x :: st) w ca sl P := by
  refine pm_step ?_ h
  intro l p e s m args below meth c G ad H locs ls Q hC hl hk2
  obtain ⟨hx, hb, -⟩ := hC
  exact lv_lstore_n hx hb hd rfl hl hn (pm_s2_lt G ad k.val (.long x) lv) hk2
theorem pm_inc {i : Nat} {n : Int} {x : Int32} (hd : decode M.2.1 pc = .ok (.iinc i n, 3)) (hv : pm_lk i lv = some (.int x)) (hn : i < M.2.2.1) (h : pm_Good M (pc + 3) (pm_s1 i (.int (x + Int32.ofInt n)) lv) st w ca sl P) : pm_Good M pc lv st w ca sl P := by
  refine pm_step ?_ h
  intro l p e s m args below meth c G ad H locs ls Q hC hl hk2
  obtain ⟨hx, hb, -⟩ := hC
  have hm : (i, pm_tv G ad (.int x)) ∈ pm_lt G ad lv := List.mem_map.mpr ⟨(i, .int x), pm_lk_mem hv, rfl⟩
  obtain ⟨k, hk⟩ := List.getElem?_of_mem hm
  exact lv_iinc hx hb hd hl hk rfl hn (pm_s1_lt G ad i (.int (x + Int32.ofInt n)) lv) hk2
/-- branches -/
def pm_cmp : ClassFile.Cond → Int32 → Int32 → Bool
  | .eq, x, y => decide (x = y)
  | .ne, x, y => !decide (x = y)
  | .lt, x, y => decide (x < y)
  | .ge, x, y => decide (y ≤ x)
  | .gt, x, y => decide (y < x)
  | .le, x, y => decide (x ≤ y)
def pm_to (pc : Nat) (off : Int) : Nat := ((pc : Int) + off).toNat
theorem pm_to_ok {pc : Nat} {off : Int} (h : 0 ≤ (pc : Int) + off) : (pc : Int) + off = (pm_to pc off : Int) := (Int.toNat_of_nonneg h).symm
theorem pm_goto {off : Int} (hd : decode M.2.1 pc = .ok (.goto off, 3)) (ho : 0 ≤ (pc : Int) + off) (h : pm_Good M (pm_to pc off) lv st w ca sl P) : pm_Good M pc lv st w ca sl P := by
  refine pm_step ?_ h
  intro l p e s m args below meth c G ad H locs ls Q hC hl hk2
  obtain ⟨hx, hb, -⟩ := hC
  exact lv_goto hx hb hd (pm_to_ok ho) (hk2 ls hl)
theorem pm_br {c : ClassFile.Cond} {off : Int} {x : Int32} (hd : decode M.2.1 pc = .ok (.ifCond c off, 3)) (ho : 0 ≤ (pc : Int) + off) (ht : pm_cmp c x 0 = true → pm_Good M (pm_to pc off) lv st w ca sl P) (hf : pm_cmp c x 0 = false → pm_Good M (pc + 3) lv st w ca sl P) : pm_Good M pc lv (.int x :: st) w ca sl P := by
  intro l p e s m args below meth c9 G A ad0 ad n0 H locs ls h1 h2 h3 h4 h5 h6
  have ht := fun q => ht q l p e s m args below meth c9 G A ad0 ad n0 H locs ls h1 h2 h3 h4 h5 h6
  have hf := fun q => hf q l p e s m args below meth c9 G A ad0 ad n0 H locs ls h1 h2 h3 h4 h5 h6
  obtain ⟨hx, hb, -⟩ := h1
  have ho := pm_to_ok ho
  cases c
  · exact lv_if_eq hx hb hd ho (fun q => ht (by simp [pm_cmp, q])) (fun q => hf (by simp [pm_cmp, q]))
  · exact lv_if_ne hx hb hd ho (fun q => ht (by simp [pm_cmp, q])) (fun q => hf (by simpa [pm_cmp] using q))
  · exact lv_if_lt hx hb hd ho (fun q => ht (by simp [pm_cmp, q])) (fun q => hf (by simpa [pm_cmp] using q))
  · exact lv_if_ge hx hb hd ho (fun q => ht (by simp [pm_cmp, q])) (fun q => hf (by simpa [pm_cmp] using q))
  · exact lv_if_gt hx hb hd ho (fun q => ht (by simp [pm_cmp, q])) (fun q => hf (by simpa [pm_cmp] using q))
  · exact lv_if_le hx hb hd ho (fun q => ht (by simp [pm_cmp, q])) (fun q => hf (by simpa [pm_cmp] using q))
theorem pm_br2 {c : ClassFile.Cond} {off : Int} {x y : Int32} (hd : decode M.2.1 pc = .ok (.if_icmp c off, 3)) (ho : 0 ≤ (pc : Int) + off) (ht : pm_cmp c x y = true → pm_Good M (pm_to pc off) lv st w ca sl P) (hf : pm_cmp c x y = false → pm_Good M (pc + 3) lv st w ca sl P) : pm_Good M pc lv (.int y :: .int x :: st) w ca sl P := by
  intro l p e s m args below meth c9 G A ad0 ad n0 H locs ls h1 h2 h3 h4 h5 h6
  have ht := fun q => ht q l p e s m args below meth c9 G A ad0 ad n0 H locs ls h1 h2 h3 h4 h5 h6
  have hf := fun q => hf q l p e s m args below meth c9 G A ad0 ad n0 H locs ls h1 h2 h3 h4 h5 h6
  obtain ⟨hx, hb, -⟩ := h1
  have ho := pm_to_ok ho
  cases c
  · exact lv_icmp_eq hx hb hd ho (fun q => ht (by simp [pm_cmp, q])) (fun q => hf (by simp [pm_cmp, q]))
  · exact lv_icmp_ne hx hb hd ho (fun q => ht (by simp [pm_cmp, q])) (fun q => hf (by simpa [pm_cmp] using q))
  · exact lv_icmp_lt hx hb hd ho (fun q => ht (by simp [pm_cmp, q])) (fun q => hf (by simpa [pm_cmp] using q))
  · exact lv_icmp_ge hx hb hd ho (fun q => ht (by simp [pm_cmp, q])) (fun q => hf (by simpa [pm_cmp] using q))
  · exact lv_icmp_gt hx hb hd ho (fun q => ht (by simp [pm_cmp, q])) (fun q => hf (by simpa [pm_cmp] using q))
  · exact lv_icmp_le hx hb hd ho (fun q => ht (by simp [pm_cmp, q])) (fun q => hf (by simpa [pm_cmp] using q))
/-- where a switch goes -/
def pm_tsw (dflt lo hi : Int) (offs : Array Int) (x : Int32) : Option Int :=
  if x.toInt < lo ∨ hi < x.toInt then some dflt else offs[(x.toInt - lo).toNat]?
theorem pm_tab {dflt lo hi : Int} {offs : Array Int} {len : Nat} {x : Int32} {off : Int} (hd : decode M.2.1 pc = .ok (.tableswitch dflt lo hi offs, len)) (hs : pm_tsw dflt lo hi offs x = some off) (ho : 0 ≤ (pc : Int) + off) (h : pm_Good M (pm_to pc off) lv st w ca sl P) : pm_Good M pc lv (.int x :: st) w ca sl P := by
  refine pm_step ?_ h
  intro l p e s m args below meth c G ad H locs ls Q hC hl hk2
  obtain ⟨hx, hb, -⟩ := hC
  have ho := pm_to_ok ho
  unfold pm_tsw at hs
  split at hs
  · rename_i hc
    cases hs
    exact lv_tableOut hx hb hd hc ho (hk2 ls hl)
  · rename_i hc
    exact lv_tableIn hx hb hd (fun q => hc (Or.inl q)) (fun q => hc (Or.inr q)) hs ho (hk2 ls hl)
theorem pm_lkp {dflt : Int} {ps : Array (Int × Int)} {len : Nat} {x : Int32} {off : Int} (hd : decode M.2.1 pc = .ok (.lookupswitch dflt ps, len)) (hp : (ps.toList.zip (ps.toList.drop 1)).all (fun (a, next) => a.1 < next.1) = true) (hs : Op.lookupswitch.offset ps.toList dflt x.toInt = off) (ho : 0 ≤ (pc : Int) + off) (h : pm_Good M (pm_to pc off) lv st w ca sl P) : pm_Good M pc lv (.int x :: st) w ca sl P := by
  refine pm_step ?_ h
  intro l p e s m args below meth c G ad H locs ls Q hC hl hk2
  obtain ⟨hx, hb, -⟩ := hC
  exact lv_lookup hx hb hd hp hs (pm_to_ok ho) (hk2 ls hl)
/-- constants of the pool -/
theorem pm_ldc {idx : Nat} {v : Int32} (hd : decode M.2.1 pc = .ok (.ldc idx, 2)) (hc : Cond.constant M.1.cls idx v ∈ pm_T) (h : pm_Good M (pc + 2) lv (.int v :: st) w ca sl P) : pm_Good M pc lv st w ca sl P := by
  refine pm_step ?_ h
  intro l p e s m args below meth c G ad H locs ls Q hC hl hk2
  obtain ⟨hx, hb, -, -, hown, hts, -⟩ := hC
  exact lv_ldc hx hb hown (hts _ hc) hd (hk2 ls hl)
theorem pm_ldcw {idx : Nat} {v : Int32} (hd : decode M.2.1 pc = .ok (.ldc_w idx, 3)) (hc : Cond.constant M.1.cls idx v ∈ pm_T) (h : pm_Good M (pc + 3) lv (.int v :: st) w ca sl P) : pm_Good M pc lv st w ca sl P := by
  refine pm_step ?_ h
  intro l p e s m args below meth c G ad H locs ls Q hC hl hk2
  obtain ⟨hx, hb, -, -, hown, hts, -⟩ := hC
  exact lv_ldcw hx hb hown (hts _ hc) hd (hk2 ls hl)
theorem pm_ldc2 {idx : Nat} {v : Int64} (hd : decode M.2.1 pc = .ok (.ldc2_w idx, 3)) (hc : Cond.constantLong M.1.cls idx v ∈ pm_T) (h : pm_Good M (pc + 3) lv (.long v :: st) w ca sl P) : pm_Good M pc lv st w ca sl P := by
  refine pm_step ?_ h
  intro l p e s m args below meth c G ad H locs ls Q hC hl hk2
  obtain ⟨hx, hb, -, -, hown, hts, -⟩ := hC
  exact lv_ldc2 hx hb hown (hts _ hc) hd (hk2 ls hl)
theorem pm_ldcS (hd : decode M.2.1 pc = .ok (.ldc 68, 2)) (hM : M.1.cls = "CoincidenceBureau") (h : pm_Good M (pc + 2) lv (.retAddr 0 :: st) w ca sl P) : pm_Good M pc lv st w ca sl P := by
  intro l p e s m args below meth c9 G A ad0 ad n0 H locs ls h1 h2 h3 h4 h5 h6
  have hk := h l p e s m args below meth c9 G A ad0 ad n0 H locs ls h1 h2 h3 h4 h5 h6
  obtain ⟨hx, hb, -, -, hown, -⟩ := h1
  obtain ⟨-, -, -, -, -, -, hstr⟩ := h2
  rw [hM] at hown
  exact va_ldcS hx hb hown hstr.2.1 hd hk
/-- the String constant's fields and bytes, two statics -/
theorem pm_gsv {idx : Nat} (hd : decode M.2.1 pc = .ok (.getfield idx, 3)) (hlk : Cond.fieldLink M.1.cls idx "java/lang/String" "value" "[B" ∈ pm_T) (h : pm_Good M (pc + 3) lv (.retAddr 1 :: st) w ca sl P) : pm_Good M pc lv (.retAddr 0 :: st) w ca sl P := by
  intro l p e s m args below meth c9 G A ad0 ad n0 H locs ls h1 h2 h3 h4 h5 h6
  have hk := h l p e s m args below meth c9 G A ad0 ad n0 H locs ls h1 h2 h3 h4 h5 h6
  obtain ⟨hx, hb, -, -, hown, hts, -⟩ := h1
  obtain ⟨-, -, -, hS, -, -, hstr⟩ := h2
  exact vk_getf hx hb (hstr.1.1 0 (by decide)).2.2.1 hS hown (hts _ hlk) (fun _ h9 => h9) hd hk
theorem pm_gsc {idx : Nat} (hd : decode M.2.1 pc = .ok (.getfield idx, 3)) (hlk : Cond.fieldLink M.1.cls idx "java/lang/String" "coder" "B" ∈ pm_T) (h : pm_Good M (pc + 3) lv (.int 0 :: st) w ca sl P) : pm_Good M pc lv (.retAddr 0 :: st) w ca sl P := by
  intro l p e s m args below meth c9 G A ad0 ad n0 H locs ls h1 h2 h3 h4 h5 h6
  have hk := h l p e s m args below meth c9 G A ad0 ad n0 H locs ls h1 h2 h3 h4 h5 h6
  obtain ⟨hx, hb, -, -, hown, hts, -⟩ := h1
  obtain ⟨-, -, -, hS, -, -, hstr⟩ := h2
  exact vk_getf hx hb (hstr.1.1 0 (by decide)).2.1 hS hown (hts _ hlk) (fun _ h9 => h9) hd hk
theorem pm_gst {idx : Nat} (hd : decode M.2.1 pc = .ok (.getstatic idx, 3)) (hlk : Cond.fieldLink M.1.cls idx "java/lang/String" "COMPACT_STRINGS" "Z" ∈ pm_T) (h : pm_Good M (pc + 3) lv (.int 1 :: st) w ca sl P) : pm_Good M pc lv st w ca sl P := by
  intro l p e s m args below meth c9 G A ad0 ad n0 H locs ls h1 h2 h3 h4 h5 h6
  have hk := h l p e s m args below meth c9 G A ad0 ad n0 H locs ls h1 h2 h3 h4 h5 h6
  obtain ⟨hx, hb, -, -, hown, hts, -⟩ := h1
  obtain ⟨-, -, -, hS, -, -, hstr⟩ := h2
  exact va_gets hx hb hstr.2.2.1 hS hown (hts _ hlk) (fun _ h9 => h9) hd hk
theorem pm_gsf {idx : Nat} (hd : decode M.2.1 pc = .ok (.getstatic idx, 3)) (hlk : Cond.fieldLink M.1.cls idx "jdk/internal/util/Preconditions" "SIOOBE_FORMATTER" "Ljava/util/function/BiFunction;" ∈ pm_T) (h : pm_Good M (pc + 3) lv (.retAddr 2 :: st) w ca sl P) : pm_Good M pc lv st w ca sl P := by
  intro l p e s m args below meth c9 G A ad0 ad n0 H locs ls h1 h2 h3 h4 h5 h6
  have hk := h l p e s m args below meth c9 G A ad0 ad n0 H locs ls h1 h2 h3 h4 h5 h6
  obtain ⟨hx, hb, -, -, hown, hts, -⟩ := h1
  obtain ⟨-, -, -, hS, -, -, hstr⟩ := h2
  exact va_gets hx hb hstr.2.2.2 hS hown (hts _ hlk) (fun _ h9 => h9) hd hk
theorem pm_slen (hd : decode M.2.1 pc = .ok (.arraylength, 1)) (h : pm_Good M (pc + 1) lv (.int 117 :: st) w ca sl P) : pm_Good M pc lv (.retAddr 1 :: st) w ca sl P := by
  intro l p e s m args below meth c9 G A ad0 ad n0 H locs ls h1 h2 h3 h4 h5 h6
  have hk := h l p e s m args below meth c9 G A ad0 ad n0 H locs ls h1 h2 h3 h4 h5 h6
  obtain ⟨hx, hb, -, -, hown, hts, -⟩ := h1
  obtain ⟨-, -, -, hS, -, -, hstr⟩ := h2
  obtain ⟨cell, q1, q2, q3, q4, q5, q6, q7⟩ := (hstr.1.1 0 (by decide)).2.2.2
  exact W.alen (n := 117) hx hb (by rw [hS.2.1 _ (Array.getElem?_eq_some_iff.mp q1).1 q7]; exact q1) q2 q5 rfl rfl hd hk
theorem pm_sbl {i : Int32} (hd : decode M.2.1 pc = .ok (.baload, 1)) (hi : vp_in i 117) (h : pm_Good M (pc + 1) lv (.int (pm_bt.getD i.toNatClampNeg 0) :: st) w ca sl P) : pm_Good M pc lv (.int i :: .retAddr 1 :: st) w ca sl P := by
  intro l p e s m args below meth c9 G A ad0 ad n0 H locs ls h1 h2 h3 h4 h5 h6
  have hk := h l p e s m args below meth c9 G A ad0 ad n0 H locs ls h1 h2 h3 h4 h5 h6
  obtain ⟨hx, hb, -, -, hown, hts, -⟩ := h1
  obtain ⟨-, -, -, hS, -, -, hstr⟩ := h2
  have hZ := (hstr.1.1 0 (by decide)).2.2.2
  exact va_tb hx hb hZ hS hi rfl hd hk
/-- returns -/
theorem pm_ret (hd : decode M.2.1 pc = .ok (.return_, 1)) (hM : M.2.2.2.1 = none) (h : P none w) : pm_Good M pc lv [] w ca sl P := by
  intro l p e s m args below meth c9 G A ad0 ad n0 H locs ls h1 h2 h3 h4 h5 h6
  obtain ⟨hx, hb, hr, -, -, -, hlocks, -⟩ := h1
  obtain ⟨hK, hP, hD, hS, hA, -⟩ := h2
  refine W.widen h5 h6 ?_
  exact W.vret hx hb (hr.trans hM) (fun t ht hW => ⟨⟨ad, none, w, rfl, h, h3, by rw [ht]; exact hP, hD, va_K.moved hW.alike hK⟩, hS.F ht⟩) hS.2.2 hd
theorem pm_iret {ty : FieldType} {v : Int32} (hd : decode M.2.1 pc = .ok (.ireturn, 1)) (hM : M.2.2.2.1 = some ty) (hn : narrow ty (.int v) = .int v) (h : P (some (.int v)) w) : pm_Good M pc lv [.int v] w ca sl P := by
  intro l p e s m args below meth c9 G A ad0 ad n0 H locs ls h1 h2 h3 h4 h5 h6
  obtain ⟨hx, hb, hr, -, -, -, hlocks, -⟩ := h1
  obtain ⟨hK, hP, hD, hS, hA, -⟩ := h2
  refine W.widen h5 h6 ?_
  exact W.zret hx hb (hr.trans hM) hn (fun t ht hW => ⟨⟨ad, some (.int v), w, rfl, h, h3, by rw [ht]; exact hP, hD, va_K.moved hW.alike hK⟩, hS.F ht⟩) hS.2.2 hd
theorem pm_aret {n : String} {q : Nat} (hd : decode M.2.1 pc = .ok (.areturn, 1)) (hM : M.2.2.2.1 = some (.object n)) (h : P (some (.ref q)) w) : pm_Good M pc lv [.ref q] w ca sl P := by
  intro l p e s m args below meth c9 G A ad0 ad n0 H locs ls h1 h2 h3 h4 h5 h6
  obtain ⟨hx, hb, hr, -, -, -, hlocks, -⟩ := h1
  obtain ⟨hK, hP, hD, hS, hA, -⟩ := h2
  refine W.widen h5 h6 ?_
  exact W.aret hx hb (hr.trans hM) (Or.inl ⟨n, rfl⟩) (Or.inr ⟨_, rfl⟩) (fun t ht hW => ⟨⟨ad, some (.ref q), w, rfl, h, h3, by rw [ht]; exact hP, hD, va_K.moved hW.alike hK⟩, hS.F ht⟩) hS.2.2 hd
end PMR
end
section
/-! rows: fields, arrays, new cells -/
def pm_fty (r : vw_C) (k : Nat) : FieldType := (parseFieldDescriptor (r.2.1 k).2.2.1).getD .int
theorem pm_cl_w0 : ∀ r ∈ pm_cl, ∀ w ∈ u_ws r.1 r.2.1 r.2.2, w ∈ lw_tbl := by decide +kernel
theorem pm_cl_g0 : ∀ r ∈ pm_cl, ∀ w ∈ u_ws r.1 r.2.1 r.2.2, goodWord w = true := by decide +kernel
theorem pm_cl_t0 : ∀ r ∈ pm_cl, ∀ k, k < r.2.2 → parseFieldDescriptor (r.2.1 k).2.2.1 = some (pm_fty r k) := by decide +kernel
theorem pm_cl_n0 : ∀ r ∈ pm_cl, ∀ a, a < r.2.2 → ∀ b, b < r.2.2 → a ≠ b → (r.2.1 a).2.1 ≠ (r.2.1 b).2.1 := by decide +kernel
theorem pm_cl_w {ci : Nat} {r : vw_C} (h : pm_cl[ci]? = some r) : ∀ w ∈ u_ws r.1 r.2.1 r.2.2, w ∈ pm_T := fun w hw => List.mem_filter.mpr ⟨pm_cl_w0 r (List.mem_of_getElem? h) w hw, pm_cl_g0 r (List.mem_of_getElem? h) w hw⟩
theorem pm_upd_set {xs : List Int32} {i : Nat} (x : Int32) (h : i < xs.length) : upd (fun j => xs.getD j 0) i x = fun j => (xs.set i x).getD j 0 := by
  funext j
  unfold upd
  by_cases hj : j = i
  · subst hj
    rw [if_pos rfl]
    simp [List.getD, h]
  · rw [if_neg hj]
    simp [List.getD, List.getElem?_set, Ne.symm hj]
def pm_fit : FieldType → Value → Bool
  | .int, .int _ => true
  | .object _, .ref _ => true
  | .array _, .ref _ => true
  | _, _ => false
theorem pm_fit_ok {ty : FieldType} {v : Value} (G : pm_G) (ad : Nat → Nat) (h : pm_fit ty v = true) : narrow ty (pm_tv G ad v) = pm_tv G ad v ∧ fits ty (pm_tv G ad v) = true := by
  unfold pm_fit at h
  split at h
  · exact ⟨rfl, rfl⟩
  · exact ⟨rfl, rfl⟩
  · exact ⟨rfl, rfl⟩
  · cases h
/-- the references of a value, of a world, are cells that there are -/
def pm_wfv (n : Nat) : Value → Bool
  | .ref k => Nat.blt k n
  | _ => true
def pm_wfc (n : Nat) : pm_C → Bool
  | .inl _ => true
  | .inr o => o.2.all (pm_wfv n)
def pm_wfw (n : Nat) (w : pm_W) : Bool := w.all (pm_wfc n)
def pm_wfl (n : Nat) (lv : pm_L) : Bool := lv.all (fun q => pm_wfv n q.2)
theorem pm_tv_eq {n : Nat} {v : Value} {G : pm_G} {ad ad' : Nat → Nat} (ha : ∀ k, k < n → ad' k = ad k) (h : pm_wfv n v = true) : pm_tv G ad' v = pm_tv G ad v := by
  cases v with
  | ref k =>
    have hk : k < n := by simpa [pm_wfv, Nat.blt_eq] using h
    show Value.ref _ = Value.ref _
    rw [ha k hk]
  | retAddr k =>
    match k with
    | 0 => rfl
    | 1 => rfl
    | k + 2 => rfl
  | _ => rfl
theorem pm_st_eq {n : Nat} {st : List Value} {G : pm_G} {ad ad' : Nat → Nat} (ha : ∀ k, k < n → ad' k = ad k) (h : st.all (pm_wfv n) = true) : st.map (pm_tv G ad') = st.map (pm_tv G ad) := by
  apply List.map_congr_left
  intro v hv
  exact pm_tv_eq ha (List.all_eq_true.mp h v hv)
theorem pm_lt_eq {n : Nat} {lv : pm_L} {G : pm_G} {ad ad' : Nat → Nat} (ha : ∀ k, k < n → ad' k = ad k) (h : pm_wfl n lv = true) : pm_lt G ad' lv = pm_lt G ad lv := by
  unfold pm_lt
  apply List.map_congr_left
  intro q hq
  rw [pm_tv_eq ha (List.all_eq_true.mp h q hq)]
theorem pm_ce_r (G : pm_G) (ad : Nat → Nat) (ci : Nat) (fs : List Value) : pm_ce G ad (.inr (ci, fs)) = .inr (ci, fs.map (pm_tv G ad)) := rfl
theorem pm_ce_l (G : pm_G) (ad : Nat → Nat) (k : Nat) (xs : List Int32) : pm_ce G ad (.inl (k, xs)) = .inl (if k = 0 then G.2.1 else G.2.2.1, xs.length, .inl (fun j => xs.getD j 0)) := rfl
theorem pm_ce_eq {n : Nat} {c : pm_C} {G : pm_G} {ad ad' : Nat → Nat} (ha : ∀ k, k < n → ad' k = ad k) (h : pm_wfc n c = true) : pm_ce G ad' c = pm_ce G ad c := by
  cases c with
  | inl a => rfl
  | inr o =>
    show (Sum.inr (o.1, o.2.map (pm_tv G ad')) : va_E) = Sum.inr (o.1, o.2.map (pm_tv G ad))
    rw [pm_st_eq ha h]
theorem pm_cw_push {w : pm_W} {c : pm_C} {G : pm_G} {ad ad' : Nat → Nat} {q : Nat} (ha : ∀ k, k < w.length → ad' k = ad k) (hq : ad' w.length = q) (h : pm_wfw w.length w = true) (hc : pm_wfc w.length c = true) : pm_cw G ad' (w ++ [c]) = pm_cw G ad w ++ [(q, pm_ce G ad c)] := by
  unfold pm_cw
  rw [List.mapIdx_append]
  congr 1
  · apply List.ext_getElem?
    intro k
    rw [List.getElem?_mapIdx, List.getElem?_mapIdx]
    cases hk : w[k]? with
    | none => rfl
    | some c9 =>
      have hl : k < w.length := (List.getElem?_eq_some_iff.mp hk).1
      simp only [Option.map_some]
      rw [ha k hl, pm_ce_eq ha (List.all_eq_true.mp h c9 (List.mem_of_getElem? hk))]
  · simp [hq, pm_ce_eq ha hc]
section PMH
variable {M : pm_M} {pc : Nat} {lv : pm_L} {st : List Value} {w : pm_W} {ca sl : Nat} {P : Option Value → pm_W → Prop}
theorem pm_getf {idx q ci k : Nat} {fs : List Value} {r : vw_C} {v : Value} (hd : decode M.2.1 pc = .ok (.getfield idx, 3)) (hw : w[q]? = some (.inr (ci, fs))) (hc : pm_cl[ci]? = some r) (hk : k < r.2.2) (hlk : Cond.fieldLink M.1.cls idx (r.2.1 k).1 (r.2.1 k).2.1 (r.2.1 k).2.2.1 ∈ pm_T) (hv : fs[k]? = some v)
    (h : pm_Good M (pc + 3) lv (v :: st) w ca sl P) : pm_Good M pc lv (.ref q :: st) w ca sl P := by
  intro l p e s m args below meth c9 G A ad0 ad n0 H locs ls h1 h2 h3 h4 h5 h6
  have hk9 := h l p e s m args below meth c9 G A ad0 ad n0 H locs ls h1 h2 h3 h4 h5 h6
  obtain ⟨hx, hb, -, -, hown, hts, -⟩ := h1
  obtain ⟨hK, hP, -⟩ := h2
  exact va_get (D := G.1) (ci := ci) (v := pm_tv G ad v) (C := r.1) (T := r.2.1) (N := r.2.2) hx hb hts (pm_cl_w hc) hown hK hP q (pm_cw_at hw) hc k hk (hts _ hlk) (fun _ h9 => h9) (by rw [List.getElem?_map, hv]; rfl) hd hk9
theorem pm_putf {idx q ci k : Nat} {fs : List Value} {r : vw_C} {v : Value} (hd : decode M.2.1 pc = .ok (.putfield idx, 3)) (hw : w[q]? = some (.inr (ci, fs))) (hc : pm_cl[ci]? = some r) (hk : k < r.2.2) (hlk : Cond.fieldLink M.1.cls idx (r.2.1 k).1 (r.2.1 k).2.1 (r.2.1 k).2.2.1 ∈ pm_T)
    (hfin : (r.2.1 k).2.2.2 = false ∨ ((r.2.1 k).2.2.2 = true ∧ M.1.name = "<init>" ∧ (r.2.1 k).1 = M.1.cls)) (hfit : pm_fit (pm_fty r k) v = true) (hl : k < fs.length)
    (h : pm_Good M (pc + 3) lv st (w.set q (.inr (ci, fs.set k v))) ca sl P) : pm_Good M pc lv (v :: .ref q :: st) w ca sl P := by
  intro l p e s m args below meth c9 G A ad0 ad n0 H locs ls h1 h2 h3 h4 h5 h6
  have hk9 := fun H1 locs1 z => h l p e s m args below meth c9 G A ad0 ad n0 H1 locs1 ls h1 z (by rw [List.length_set]; exact h3) h4 h5 h6
  obtain ⟨hx, hb, -, -, hown, hts, -, hnm⟩ := h1
  obtain ⟨hK, hP, hD, hS, hA, hN, hT⟩ := h2
  have e1 : (pm_cw G ad w).set q (ad q, .inr (ci, (fs.map (pm_tv G ad)).set k (pm_tv G ad v))) = pm_cw G ad (w.set q (.inr (ci, fs.set k v))) := by
    rw [← pm_cw_set, pm_ce_r, List.map_set]
  have hm := List.mem_of_getElem? hc
  have hf := pm_fit_ok G ad hfit
  have hl9 : k < (fs.map (pm_tv G ad)).length := by rw [List.length_map]; exact hl
  rcases hfin with hfin | ⟨hfin, hi, ho⟩
  · refine va_put (D := G.1) (ci := ci) (v := pm_tv G ad v) (ty := pm_fty r k) (C := r.1) (T := r.2.1) (N := r.2.2) hx hb hts (pm_cl_w hc) (pm_fty r) (pm_cl_t0 r hm) (pm_cl_n0 r hm) hown hK hP hD hS q (pm_cw_at hw) hc k hk (hts _ hlk) (fun _ h9 => h9) hfin (pm_cl_t0 r hm k hk) hf.1 hf.2 hl9 hd (fun H1 locs1 a1 a2 a3 => ?_)
    exact hk9 H1 locs1 ⟨hK, e1 ▸ a1, e1 ▸ a2, a3, hA, hN, hT⟩
  · refine va_putF (D := G.1) (ci := ci) (v := pm_tv G ad v) (ty := pm_fty r k) (C := r.1) (T := r.2.1) (N := r.2.2) hx hb hts (pm_cl_w hc) (pm_fty r) (pm_cl_t0 r hm) (pm_cl_n0 r hm) hown hK hP hD hS q (pm_cw_at hw) hc k hk (hts _ hlk) (fun _ h9 => h9) hfin (hnm.trans hi) ho (pm_cl_t0 r hm k hk) hf.1 hf.2 hl9 hd (fun H1 locs1 a1 a2 a3 => ?_)
    exact hk9 H1 locs1 ⟨hK, e1 ▸ a1, e1 ▸ a2, a3, hA, hN, hT⟩
theorem pm_iald {q : Nat} {xs : List Int32} {i : Int32} (hd : decode M.2.1 pc = .ok (.iaload, 1)) (hw : w[q]? = some (.inl (0, xs))) (hi : vp_in i xs.length) (h : pm_Good M (pc + 1) lv (.int (xs.getD i.toNatClampNeg 0) :: st) w ca sl P) : pm_Good M pc lv (.int i :: .ref q :: st) w ca sl P := by
  intro l p e s m args below meth c9 G A ad0 ad n0 H locs ls h1 h2 h3 h4 h5 h6
  have hk9 := h l p e s m args below meth c9 G A ad0 ad n0 H locs ls h1 h2 h3 h4 h5 h6
  obtain ⟨hx, hb, -⟩ := h1
  obtain ⟨hK, hP, -⟩ := h2
  exact va_iald (D := G.1) hx hb hK hP q 0 (pm_cw_at hw) rfl hi hd hk9
theorem pm_cald {q k : Nat} {xs : List Int32} {i : Int32} (hd : decode M.2.1 pc = .ok (.caload, 1)) (hw : w[q]? = some (.inl (k + 1, xs))) (hi : vp_in i xs.length) (h : pm_Good M (pc + 1) lv (.int (xs.getD i.toNatClampNeg 0) :: st) w ca sl P) : pm_Good M pc lv (.int i :: .ref q :: st) w ca sl P := by
  intro l p e s m args below meth c9 G A ad0 ad n0 H locs ls h1 h2 h3 h4 h5 h6
  have hk9 := h l p e s m args below meth c9 G A ad0 ad n0 H locs ls h1 h2 h3 h4 h5 h6
  obtain ⟨hx, hb, -⟩ := h1
  obtain ⟨hK, hP, -⟩ := h2
  exact va_cald (D := G.1) hx hb hK hP q 1 (pm_cw_at hw) rfl hi hd hk9
theorem pm_in_lt {i : Int32} {n : Nat} (h : vp_in i n) : i.toNatClampNeg < n := Nat.not_le.mp fun q => h (Or.inr q)
theorem pm_iast {q : Nat} {xs : List Int32} {i x : Int32} (hd : decode M.2.1 pc = .ok (.iastore, 1)) (hw : w[q]? = some (.inl (0, xs))) (hi : vp_in i xs.length) (h : pm_Good M (pc + 1) lv st (w.set q (.inl (0, xs.set i.toNatClampNeg x))) ca sl P) : pm_Good M pc lv (.int x :: .int i :: .ref q :: st) w ca sl P := by
  intro l p e s m args below meth c9 G A ad0 ad n0 H locs ls h1 h2 h3 h4 h5 h6
  have hk9 := fun H1 locs1 z => h l p e s m args below meth c9 G A ad0 ad n0 H1 locs1 ls h1 z (by rw [List.length_set]; exact h3) h4 h5 h6
  obtain ⟨hx, hb, -⟩ := h1
  obtain ⟨hK, hP, hD, hS, hA, hN, hT⟩ := h2
  refine va_iast (D := G.1) hx hb hK hP hD hS q 0 (pm_cw_at hw) rfl hi hd (fun H1 locs1 a1 a2 a3 => ?_)
  have e1 : (pm_cw G ad w).set q (ad q, .inl (G.2.1, xs.length, .inl (upd (fun j => xs.getD j 0) i.toNatClampNeg x))) = pm_cw G ad (w.set q (.inl (0, xs.set i.toNatClampNeg x))) := by
    rw [← pm_cw_set, pm_upd_set x (pm_in_lt hi)]
    unfold pm_ce
    simp
  exact hk9 H1 locs1 ⟨hK, e1 ▸ a1, e1 ▸ a2, a3, hA, hN, hT⟩
theorem pm_cast {q k : Nat} {xs : List Int32} {i x : Int32} (hd : decode M.2.1 pc = .ok (.castore, 1)) (hw : w[q]? = some (.inl (k + 1, xs))) (hi : vp_in i xs.length) (h : pm_Good M (pc + 1) lv st (w.set q (.inl (k + 1, xs.set i.toNatClampNeg (vp_nar .char x)))) ca sl P) : pm_Good M pc lv (.int x :: .int i :: .ref q :: st) w ca sl P := by
  intro l p e s m args below meth c9 G A ad0 ad n0 H locs ls h1 h2 h3 h4 h5 h6
  have hk9 := fun H1 locs1 z => h l p e s m args below meth c9 G A ad0 ad n0 H1 locs1 ls h1 z (by rw [List.length_set]; exact h3) h4 h5 h6
  obtain ⟨hx, hb, -⟩ := h1
  obtain ⟨hK, hP, hD, hS, hA, hN, hT⟩ := h2
  refine va_cast (D := G.1) hx hb hK hP hD hS q 1 (pm_cw_at hw) rfl hi hd (fun H1 locs1 a1 a2 a3 => ?_)
  have e1 : (pm_cw G ad w).set q (ad q, .inl (G.2.2.1, xs.length, .inl (upd (fun j => xs.getD j 0) i.toNatClampNeg (vp_nar .char x)))) = pm_cw G ad (w.set q (.inl (k + 1, xs.set i.toNatClampNeg (vp_nar .char x)))) := by
    rw [← pm_cw_set, pm_upd_set (vp_nar .char x) (pm_in_lt hi)]
    unfold pm_ce
    simp
  exact hk9 H1 locs1 ⟨hK, e1 ▸ a1, e1 ▸ a2, a3, hA, hN, hT⟩
theorem pm_alen {q k : Nat} {xs : List Int32} (hd : decode M.2.1 pc = .ok (.arraylength, 1)) (hw : w[q]? = some (.inl (k, xs))) (h : pm_Good M (pc + 1) lv (.int (Int32.ofNat xs.length) :: st) w ca sl P) : pm_Good M pc lv (.ref q :: st) w ca sl P := by
  intro l p e s m args below meth c9 G A ad0 ad n0 H locs ls h1 h2 h3 h4 h5 h6
  have hk9 := h l p e s m args below meth c9 G A ad0 ad n0 H locs ls h1 h2 h3 h4 h5 h6
  obtain ⟨hx, hb, -⟩ := h1
  obtain ⟨hK, hP, -⟩ := h2
  by_cases hk0 : k = 0
  · have hw9 := pm_cw_at (G := G) (ad := ad) hw
    rw [pm_ce_l, if_pos hk0] at hw9
    exact va_alen (D := G.1) hx hb hK hP q 0 hw9 rfl rfl hd hk9
  · have hw9 := pm_cw_at (G := G) (ad := ad) hw
    rw [pm_ce_l, if_neg hk0] at hw9
    exact va_alen (D := G.1) hx hb hK hP q 1 hw9 rfl rfl hd hk9
theorem pm_rep (N : Nat) : (fun j => (List.replicate N (0 : Int32)).getD j 0) = fun _ => 0 := by
  funext j
  simp [List.getD, List.getElem?_replicate]
  split <;> rfl
theorem pm_newa {aty : ArrayType} {kd N : Nat} {n : Int32} (hd : decode M.2.1 pc = .ok (.newarray aty, 2)) (hty : (aty = .int ∧ kd = 0) ∨ (aty = .char ∧ kd = 1)) (harr : Cond.arrayClass (newarray.typeOf aty) ∈ pm_T) (hn : ¬ n < 0) (hN : n.toNatClampNeg = N) (hN2 : N ≤ 10000) (hca : ca + 1 ≤ M.2.2.2.2.cells) (hsl : sl + N ≤ M.2.2.2.2.slots)
    (hf1 : pm_wfw w.length w = true) (hf2 : pm_wfl w.length lv = true) (hf3 : st.all (pm_wfv w.length) = true) (h : pm_Good M (pc + 2) lv (.ref w.length :: st) (w ++ [.inl (kd, List.replicate N 0)]) (ca + 1) (sl + N) P) : pm_Good M pc lv (.int n :: st) w ca sl P := by
  intro l p e s m args below meth c9 G A ad0 ad n0 H locs ls h1 h2 h3 h4 h5 h6
  have h19 := id h1
  obtain ⟨hx, hb, -, -, -, hts, -⟩ := h1
  obtain ⟨hK, hP, hD, hS, hA, hNs, hT⟩ := h2
  have key : ∀ (ty : FieldType) (cI : ClassId), newarray.typeOf aty = ty → (cI, ty) ∈ pm_tys G → (ty = .int ∨ ty = .char) → pm_ce G ad (.inl (kd, List.replicate N 0)) = .inl (cI, N, .inl (fun _ => 0)) →
      W p l e M.2.2.2.2 s m args below meth c9 H locs ca sl (MQ below (pm_Q P G A ad0 n0) args s M.2.2.2.2.cells M.2.2.2.2.slots A) (F0 m pc ls ((Value.int n :: st).map (pm_tv G ad))) := by
    intro ty cI e1 hm hic hce
    refine va_newa (D := G.1) (ty := ty) (N' := N) (a0 := (N, .inl (fun _ => 0))) hx hb (hts _ harr) e1 hK hP hD hS hA ?_ hn hN ?_ hca hsl hd (fun q cA H1 b1 b2 b3 b4 => ?_)
    · intro cA
      rw [vp_cell_i]
      rcases hic with rfl | rfl <;> rfl
    · rcases hic with rfl | rfl <;> simp [componentBytes] <;> omega
    · have hcA : cA = cI := by
        obtain ⟨i, hi⟩ := List.getElem?_of_mem hm
        have g1 := (hK.2 i _ hi).2
        have g2 := (b1.2 2 (cA, ty) (by simp [pm_tys])).2
        rcases hic with rfl | rfl
        · exact Option.some.inj (g2.symm.trans g1)
        · exact Option.some.inj (g2.symm.trans g1)
      subst hcA
      have ha : ∀ k, k < w.length → (fun k => if k = w.length then q else ad k) k = ad k := fun k hk => if_neg (Nat.ne_of_lt hk)
      have e2 := pm_cw_push (G := G) (w := w) (c := .inl (kd, List.replicate N 0)) (q := q) ha (if_pos rfl) hf1 rfl
      rw [hce] at e2
      have hk9 := h l p e s m args below meth c9 G A ad0 (fun k => if k = w.length then q else ad k) n0 H1 locs ls h19 ⟨hK, by rw [e2]; exact b2, by rw [e2]; exact b3, b4, hA, hNs, hT⟩ ⟨by simp; have := h3.1; omega, fun k hk => by
        have hk2 : k < n0 ∨ w.length + 1 ≤ k := by simpa using hk
        have hne : k ≠ w.length := by have := h3.1; omega
        show (if k = w.length then q else ad k) = ad0 k
        rw [if_neg hne]
        exact h3.2 k (by omega)⟩ (by rw [pm_lt_eq ha hf2]; exact h4) hca hsl
      have e3 : ((Value.ref w.length :: st).map (pm_tv G (fun k => if k = w.length then q else ad k))) = Value.ref q :: st.map (pm_tv G ad) := by
        rw [List.map_cons, pm_st_eq ha hf3]
        show Value.ref (if w.length = w.length then q else _) :: _ = _
        rw [if_pos rfl]
      rw [e3] at hk9
      exact hk9
  rcases hty with ⟨rfl, rfl⟩ | ⟨rfl, rfl⟩
  · exact key .int G.2.1 rfl (by simp [pm_tys]) (Or.inl rfl) (by rw [pm_ce_l, pm_rep, List.length_replicate]; rfl)
  · exact key .char G.2.2.1 rfl (by simp [pm_tys]) (Or.inr rfl) (by rw [pm_ce_l, pm_rep, List.length_replicate]; rfl)
def pm_dfs (r : vw_C) : List Value := (List.range r.2.2).map (fun k => defaultValue (pm_fty r k))
theorem pm_dv (ty : FieldType) (G : pm_G) (ad : Nat → Nat) : pm_tv G ad (defaultValue ty) = defaultValue ty := by cases ty <;> rfl
theorem pm_dfs_tv (r : vw_C) (G : pm_G) (ad : Nat → Nat) : (pm_dfs r).map (pm_tv G ad) = pm_dfs r := by
  unfold pm_dfs
  rw [List.map_map]
  apply List.map_congr_left
  intro k _
  exact pm_dv _ G ad
theorem pm_dfs_wf (r : vw_C) (n : Nat) : (pm_dfs r).all (pm_wfv n) = true := by
  rw [List.all_eq_true]
  intro v hv
  unfold pm_dfs at hv
  obtain ⟨k, -, rfl⟩ := List.mem_map.mp hv
  cases pm_fty r k <;> rfl
theorem pm_new {idx ci : Nat} {r : vw_C} (hd : decode M.2.1 pc = .ok (.new idx, 3)) (hc : pm_cl[ci]? = some r) (hcl : Cond.classLink M.1.cls idx r.1 ∈ pm_T) (hins : Cond.instantiable r.1 r.2.2 ∈ pm_T) (hini : Cond.initialized r.1 ∈ pm_T) (hca : ca + 1 ≤ M.2.2.2.2.cells) (hsl : sl + r.2.2 ≤ M.2.2.2.2.slots)
    (hf1 : pm_wfw w.length w = true) (hf2 : pm_wfl w.length lv = true) (hf3 : st.all (pm_wfv w.length) = true) (h : pm_Good M (pc + 3) lv (.ref w.length :: st) (w ++ [.inr (ci, pm_dfs r)]) (ca + 1) (sl + r.2.2) P) : pm_Good M pc lv st w ca sl P := by
  intro l p e s m args below meth c9 G A ad0 ad n0 H locs ls h1 h2 h3 h4 h5 h6
  have h19 := id h1
  obtain ⟨hx, hb, -, -, hown, hts, -⟩ := h1
  obtain ⟨hK, hP, hD, hS, hA, hNs, hT⟩ := h2
  have hm := List.mem_of_getElem? hc
  refine va_new (D := G.1) (ci := ci) (fs := pm_dfs r) (C := r.1) (T := r.2.1) (N := r.2.2) hx hb hts (pm_cl_w hc) (pm_fty r) (pm_cl_t0 r hm) hown (hts _ hcl) (hts _ hins) (hts _ hini) hK hP hD hS hA hc ?_ hca hsl hd (fun q H1 b2 b3 b4 => ?_)
  · intro j hj
    simp [vp_V, pm_dfs, hj]
  · have ha : ∀ k, k < w.length → (fun k => if k = w.length then q else ad k) k = ad k := fun k hk => if_neg (Nat.ne_of_lt hk)
    have e2 := pm_cw_push (G := G) (w := w) (c := .inr (ci, pm_dfs r)) (q := q) ha (if_pos rfl) hf1 (pm_dfs_wf r _)
    have hce : pm_ce G ad (.inr (ci, pm_dfs r)) = .inr (ci, pm_dfs r) := by
      rw [pm_ce_r, pm_dfs_tv]
    rw [hce] at e2
    have hk9 := h l p e s m args below meth c9 G A ad0 (fun k => if k = w.length then q else ad k) n0 H1 locs ls h19 ⟨hK, by rw [e2]; exact b2, by rw [e2]; exact b3, b4, hA, hNs, hT⟩ ⟨by simp; have := h3.1; omega, fun k hk => by
      have hk2 : k < n0 ∨ w.length + 1 ≤ k := by simpa using hk
      have hne : k ≠ w.length := by have := h3.1; omega
      show (if k = w.length then q else ad k) = ad0 k
      rw [if_neg hne]
      exact h3.2 k (by omega)⟩ (by rw [pm_lt_eq ha hf2]; exact h4) hca hsl
    have e3 : ((Value.ref w.length :: st).map (pm_tv G (fun k => if k = w.length then q else ad k))) = Value.ref q :: st.map (pm_tv G ad) := by
      rw [List.map_cons, pm_st_eq ha hf3]
      show Value.ref (if w.length = w.length then q else _) :: _ = _
      rw [if_pos rfl]
    rw [e3] at hk9
    exact hk9
/-- Object's constructor -/
theorem pm_obj {idx q : Nat} (hd : decode M.2.1 pc = .ok (.invokespecial idx, 3)) (hlk : Cond.methodLink M.1.cls idx objectInit ∈ pm_T) (h8 : Cond.instanceMethod objectInit ∈ pm_T) (h9 : Cond.code objectInit ⟨#[0xb1]⟩ 1 none ∈ pm_T) (hfr : 1 ≤ M.2.2.2.2.frames) (hlo : (st.map fun v => v.category).sum + 12 ≤ M.2.2.2.2.locals) (h : pm_Good M (pc + 3) lv st w ca sl P) : pm_Good M pc lv (.ref q :: st) w ca sl P := by
  intro l p e s m args below meth c9 G A ad0 ad n0 H locs ls h1 h2 h3 h4 h5 h6
  have hk9 := h l p e s m args below meth c9 G A ad0 ad n0 H locs ls h1 h2 h3 h4 h5 h6
  obtain ⟨hx, hb, -, hml, hown, hts, -⟩ := h1
  refine W.objInit hx hb hown (hts _ hlk) (hts _ h8) (hts _ h9) rfl (by rw [hml]; exact h4.1) rfl hd hfr ?_ hk9
  rw [pm_cats]
  show 2 * 0 + _ + 12 ≤ _
  omega
/-- System.arraycopy over int arrays -/
def pm_cpy (xs ys : List Int32) (sp dp n : Nat) : List Int32 := (List.range ys.length).map (fun k => if dp ≤ k ∧ k < dp + n then xs.getD (sp + (k - dp)) 0 else ys.getD k 0)
theorem pm_cpy_fn {xs ys : List Int32} {sp dp n : Nat} (h : dp + n ≤ ys.length) : va_cpy (fun j => xs.getD j 0) (fun j => ys.getD j 0) sp dp n = fun j => (pm_cpy xs ys sp dp n).getD j 0 := by
  funext j
  unfold va_cpy pm_cpy
  by_cases hj : j < ys.length
  · simp [List.getD, hj]
  · have h1 : ¬ (dp ≤ j ∧ j < dp + n) := by omega
    rw [if_neg h1]
    simp [List.getD, hj, List.getElem?_eq_none (Nat.not_lt.mp hj)]
theorem pm_acp {idx q0 q1 : Nat} {xs ys : List Int32} {sp dp n : Int32} (hd : decode M.2.1 pc = .ok (.invokestatic idx, 3)) (hlk : Cond.methodLink M.1.cls idx arraycopyName ∈ pm_T) (hnat : Cond.native arraycopyName ∈ pm_T) (hstat : Cond.static arraycopyName ∈ pm_T) (hini : Cond.initialized "java/lang/System" ∈ pm_T)
    (hw0 : w[q0]? = some (.inl (0, xs))) (hw1 : w[q1]? = some (.inl (0, ys))) (h1 : ¬ sp < 0) (h2 : ¬ dp < 0) (h3 : ¬ n < 0) (h4 : sp.toNatClampNeg + n.toNatClampNeg ≤ xs.length) (h5 : dp.toNatClampNeg + n.toNatClampNeg ≤ ys.length) (hfr : 1 ≤ M.2.2.2.2.frames) (hlo : (st.map fun v => v.category).sum + 18 ≤ M.2.2.2.2.locals)
    (h : pm_Good M (pc + 3) lv st (w.set q1 (.inl (0, pm_cpy xs ys sp.toNatClampNeg dp.toNatClampNeg n.toNatClampNeg))) ca sl P) : pm_Good M pc lv (.int n :: .int dp :: .ref q1 :: .int sp :: .ref q0 :: st) w ca sl P := by
  intro l p e s m args below meth c9 G A ad0 ad n0 H locs ls g1 g2 g3 g4 g5 g6
  have hk9 := fun H1 locs1 z => h l p e s m args below meth c9 G A ad0 ad n0 H1 locs1 ls g1 z (by rw [List.length_set]; exact g3) g4 g5 g6
  obtain ⟨hx, hb, -, hml, hown, hts, -⟩ := g1
  obtain ⟨hK, hP, hD, hS, hA, hN, hT⟩ := g2
  refine va_copyi (D := G.1) (ty := .int) hx hb (by rw [hml]; exact g4.1.symm) hown (hts _ hlk) (hts _ hnat) (hts _ hstat) (hts _ hini) hK hP hD hS q0 q1 0 0 (pm_cw_at hw0) (pm_cw_at hw1) rfl rfl rfl h1 h2 h3 h4 h5 (fun _ _ => rfl) hfr ?_ hd (fun H1 locs1 a1 a2 a3 => ?_)
  · rw [pm_cats]
    have e0 : nativeFrameWords "java/lang/System" "arraycopy" 5 = 7 := by decide +kernel
    omega
  · have e1 : (pm_cw G ad w).set q1 (ad q1, .inl (G.2.1, ys.length, .inl (va_cpy (fun j => xs.getD j 0) (fun j => ys.getD j 0) sp.toNatClampNeg dp.toNatClampNeg n.toNatClampNeg))) = pm_cw G ad (w.set q1 (.inl (0, pm_cpy xs ys sp.toNatClampNeg dp.toNatClampNeg n.toNatClampNeg))) := by
      rw [← pm_cw_set, pm_cpy_fn h5]
      unfold pm_ce
      simp [pm_cpy]
    exact hk9 H1 locs1 ⟨hK, e1 ▸ a1, e1 ▸ a2, a3, hA, hN, hT⟩
end PMH
end
section
/-! rows: calls -/
def pm_ws (M : pm_M) : List Cond := Cond.code M.1 M.2.1 M.2.2.1 M.2.2.2.1 :: pm_T
/-- the world that a method begins with -/
def pm_Pc (As : List Value) (w : pm_W) (G : pm_G) (ad : Nat → Nat) (sz : Nat) : Array Value → State → Prop := va_Pc (As.map (pm_tv G ad)) (fun U => U.heap.size = sz ∧ va_P G.1 pm_cl (pm_cw G ad w) U.heap ∧ va_K G.1 pm_cl (pm_tys G) U ∧ va_D (fun _ => True) (pm_cw G ad w) ∧ pm_nest U ∧ pm_str G (va_A (pm_cw G ad w) sz) U U.heap)
theorem pm_args_tv (G : pm_G) (ad : Nat → Nat) : ∀ (As : List Value) (i : Nat), lv_args i (As.map (pm_tv G ad)) = pm_lt G ad (lv_args i As)
  | [], _ => rfl
  | v :: As, i => by
    rw [List.map_cons, lv_args, lv_args, pm_cat, pm_args_tv G ad As]
    rfl
theorem pm_sl_len (G : pm_G) (ad : Nat → Nat) : ∀ (As : List Value), (lg_sl (As.map (pm_tv G ad))).length = (lg_sl As).length
  | [] => rfl
  | v :: As => by
    have h := pm_sl_len G ad As
    unfold lg_sl at h ⊢
    rw [List.map_cons, List.flatMap_cons, List.flatMap_cons, List.length_append, List.length_append, h, pm_cat]
    split <;> rfl
theorem pm_met {M : pm_M} {As : List Value} {w : pm_W} {P : Option Value → pm_W → Prop} (hG : pm_GoodM M As w P) (hpl : plainName M.1.cls = true) (hlen : (lg_sl As).length ≤ M.2.2.1) (l : Launch) (G : pm_G) (ad : Nat → Nat) (sz : Nat) :
    Met l M.1 (pm_ws M) M.2.2.2.2 (pm_Pc As w G ad sz) (pm_Q P G (va_A (pm_cw G ad w) sz) ad w.length) M.2.2.2.2.cells M.2.2.2.2.slots (va_A (pm_cw G ad w) sz) := by
  refine Met.ofW (cc := M.2.1) (maxL := M.2.2.1) (ret := M.2.2.2.1) hpl rfl ?_
  intro p e s m args below meth c s₁ B hml hv
  obtain ⟨rfl, hsz, hP, hK, hD0, hN, hS⟩ := hv
  have hts := atoms_spec (ws := pm_ws M) B.pre
  have hown : s.vm.findClass M.1.cls = some m.cls := findClass_of_methodNamed B.named
  subst hsz
  rw [lg_entry_eq]
  have hl := lv_entry (As.map (pm_tv G ad)) (n := M.2.2.1) (by rw [pm_sl_len]; exact hlen)
  rw [pm_args_tv] at hl
  exact hG l p e s m _ below meth c G _ ad ad w.length s.heap [] _ ⟨B.exec, B.bytes, B.returns, hml, hown, fun w h => hts w (List.mem_cons_of_mem _ h), B.notSynchronized, (name_of_methodNamed B.named B.method).1⟩ ⟨hK, hP, hD0.self, va_S.rf, fun q h => Or.inr h, hN, hS⟩ ⟨Nat.le_refl _, fun _ _ => rfl⟩ hl (Nat.zero_le _) (Nat.zero_le _)
theorem pm_A1 {G : pm_G} {A : Nat → Prop} {ad : Nat → Nat} {w : pm_W} {s : State} {H : Heap} {locs : List Loc} (h : pm_at G A ad w s H locs) : ∀ q : Nat, va_A (pm_cw G ad w) H.size q → A q := by
  obtain ⟨hK, hP, hD, hS, hA, -⟩ := h
  intro q hq
  rcases hq with ⟨k, e, hk⟩ | hq
  · exact hD.2 k (q, e) hk
  · exact hA q (Nat.le_trans hS.1 hq)
theorem pm_blind (As : List Value) (w : pm_W) (G : pm_G) (ad : Nat → Nat) (sz : Nat) : FrameBlind (pm_Pc As w G ad sz) := by
  intro a U g mk q
  obtain ⟨q0, q1, qP, qK, qD, qN, qS⟩ := q
  exact ⟨q0, q1, qP, va_K.moved (u := U) (U := U.calling g mk a) (Vm.Alike.refl U.vm) qK, qD, pm_nest_same (s := U) (U := U.calling g mk a) rfl qN, pm_str_same (s := U) (U := U.calling g mk a) rfl qS⟩
theorem pm_pre {G : pm_G} {A : Nat → Prop} {ad : Nat → Nat} {w : pm_W} {s : State} {H : Heap} {locs : List Loc} (h : pm_at G A ad w s H locs) (As : List Value) : ∀ U : State, U.heap = H → s.WarmedH U.vm → pm_Pc As w G ad H.size (As.map (pm_tv G ad)).toArray U := by
  intro U hU hW
  have hA1 := pm_A1 h
  obtain ⟨hK, hP, hD, hS, hA, hN, hT⟩ := h
  exact ⟨rfl, by rw [hU], by rw [hU]; exact hP, va_K.moved hW.alike hK, hD.weaken (fun _ _ _ _ => trivial), pm_nest_warm hW hN, pm_str_to hW (fun a h1 h2 => by rw [hU]; exact hS.2.1 a h1 h2) hA1 hT⟩
section PMC
variable {M Mj : pm_M} {pc : Nat} {lv : pm_L} {w : pm_W} {ca sl : Nat} {P P1 : Option Value → pm_W → Prop}
theorem pm_after {p : Program} {l : Launch} {e : Env} {s : State} {m : MethodId} {args a : Array Value} {below : List Frame} {meth : Method} {c : Code} {G : pm_G} {A A1 : Nat → Prop} {ad0 ad : Nat → Nat} {n0 mc ms : Nat} {H : Heap} {locs : List Loc} {ls : Array Slot} {st0 rest : List Value}
    (hr : va_Run p l e M.2.2.2.2 s m args below meth c H locs ca sl mc ms (F0 m pc ls st0) (rest.map (pm_tv G ad)) (pm_Q P1 G A1 ad w.length a) A1) (h1 : pm_ctx M p s m args meth c) (h2 : pm_at G A ad w s H locs) (h3 : pm_ag ad0 ad n0 w.length) (h4 : lv_has ls M.2.2.1 (pm_lt G ad lv)) (hA1 : ∀ q : Nat, A1 q → A q)
    (hca : ca + mc ≤ M.2.2.2.2.cells) (hsl : sl + ms ≤ M.2.2.2.2.slots) (hwf : (∀ r w', P1 r w' → w'.length = w.length) ∨ (pm_wfl w.length lv = true ∧ rest.all (pm_wfv w.length) = true))
    (hk : ∀ r w', P1 r w' → pm_Good M (pc + 3) lv (r.toList ++ rest) w' (ca + mc) (sl + ms) P) :
    W p l e M.2.2.2.2 s m args below meth c H locs ca sl (MQ below (pm_Q P G A ad0 n0) args s M.2.2.2.2.cells M.2.2.2.2.slots A) (F0 m pc ls st0) := by
  intro T hT X
  obtain ⟨v, st₀, t, T', L, g0, X', hL, e1, e2, ⟨⟨ad9, r, w9, hv, hp, hag, hP9, hD9, hK9⟩, hF⟩, st⟩ := hr T hT X
  have hv : v = r.map (pm_tv G ad9) := by injection hv
  subst hv
  obtain ⟨hK, hP, hD, hS, hA, hN, hStr⟩ := h2
  rw [← g0] at hS
  have hle : ∀ k, k < w.length → ad9 k = ad k := fun k hk => hag.2 k (Or.inl hk)
  have e3 : pm_lt G ad9 lv = pm_lt G ad lv ∧ rest.map (pm_tv G ad9) = rest.map (pm_tv G ad) := by
    rcases hwf with hq | hq
    · have : ad9 = ad := by
        funext k
        apply hag.2 k
        rw [hq r w9 hp]
        omega
      rw [this]
      exact ⟨rfl, rfl⟩
    · exact ⟨pm_lt_eq hle hq.1, pm_st_eq hle hq.2⟩
  have e4 : ((r.toList ++ rest).map (pm_tv G ad9)) = (r.map (pm_tv G ad9)).toList ++ rest.map (pm_tv G ad) := by
    rw [List.map_append, e3.2]
    cases r <;> rfl
  have hk9 := hk r w9 hp l p e s m args below meth c G A ad0 ad9 n0 T'.heap (locs ++ L) ls h1 ⟨hK, by rw [e1]; exact hP9, hD9.weaken (fun _ q _ h => hA1 _ h), ⟨Nat.le_trans hS.1 (by rw [e1]; exact hF.1), fun q z1 z2 => by
      rw [e1, hF.2 q (Nat.lt_of_lt_of_le z1 hS.1) (fun z => z2 (hA1 q z))]
      exact hS.2.1 q z1 z2, fun q hq => by
      rcases List.mem_append.mp hq with h | h
      · exact hS.2.2 q h
      · exact hA1 _ (hL q h)⟩, hA, hN, hStr⟩ ⟨Nat.le_trans h3.1 hag.1, fun k hk => by
      have hl := hag.1
      have hl3 := h3.1
      rw [hag.2 k (by omega)]
      exact h3.2 k (by omega)⟩ (by rw [e3.1]; exact h4) hca hsl T' rfl X'
  obtain ⟨t2, a1, b1⟩ := hk9
  rw [e4] at a1
  exact ⟨t2, st t2 a1, b1⟩
/-- what the tables say of a method that is called -/
def pm_meth (Mj : pm_M) : Prop := Cond.code Mj.1 Mj.2.1 Mj.2.2.1 Mj.2.2.2.1 ∈ pm_T ∧ Cond.initialized Mj.1.cls ∈ pm_T ∧ (Mj.1.cls ≠ "java/lang/invoke/MethodHandle" ∧ Mj.1.cls ≠ "java/lang/invoke/VarHandle") ∧ plainName Mj.1.cls = true
def pm_np (Mj : pm_M) (n : Nat) : Prop := (parseMethodDescriptor Mj.1.desc).map (fun d => d.parameters.length) = some n
def pm_rm (M Mj : pm_M) : Prop := Mj.2.2.2.2.frames + 1 ≤ M.2.2.2.2.frames ∧ 8 + (Mj.2.2.1 + 11) + Mj.2.2.2.2.locals ≤ M.2.2.2.2.locals
theorem pm_goodIn (hc : Cond.code Mj.1 Mj.2.1 Mj.2.2.1 Mj.2.2.2.1 ∈ pm_T) : GoodIn pm_T (pm_ws Mj) := by
  intro w hw
  rcases List.mem_cons.mp hw with rfl | h
  · exact ⟨hc, good_of_word (pm_T_good _ hc)⟩
  · exact ⟨h, good_of_word (pm_T_good _ h)⟩
theorem pm_callV {As rest : List Value} {b ci idx : Nat} {fs : List Value} {r : vw_C} (hd : decode M.2.1 pc = .ok (.invokevirtual idx, 3)) (hm : pm_meth Mj) (hlk : Cond.methodLink M.1.cls idx Mj.1 ∈ pm_T) (hin : Cond.instanceMethod Mj.1 ∈ pm_T) (hse : Cond.selects Mj.1.cls Mj.1 Mj.1 ∈ pm_T) (hnp : pm_np Mj As.length) (hw : w[b]? = some (.inr (ci, fs))) (hc : pm_cl[ci]? = some r) (hrc : r.1 = Mj.1.cls)
    (hlen : (lg_sl (.ref b :: As)).length ≤ Mj.2.2.1) (hrm : pm_rm M Mj) (hcat : (rest.map fun v => v.category).sum ≤ 8) (hca : ca + Mj.2.2.2.2.cells ≤ M.2.2.2.2.cells) (hsl : sl + Mj.2.2.2.2.slots ≤ M.2.2.2.2.slots) (hwf : (∀ r w', P1 r w' → w'.length = w.length) ∨ (pm_wfl w.length lv = true ∧ rest.all (pm_wfv w.length) = true))
    (hG : pm_GoodM Mj (.ref b :: As) w P1) (hk : ∀ r w', P1 r w' → pm_Good M (pc + 3) lv (r.toList ++ rest) w' (ca + Mj.2.2.2.2.cells) (sl + Mj.2.2.2.2.slots) P) : pm_Good M pc lv (As.reverse ++ .ref b :: rest) w ca sl P := by
  intro l p e s m args below meth c9 G A ad0 ad n0 H locs ls h1 h2 h3 h4 h5 h6
  have hM := pm_met hG hm.2.2.2 hlen l G ad H.size
  obtain ⟨hx, hb, -, hml, hown, hts, -⟩ := id h1
  have cw : CallW M.2.2.2.2 s args M.1.cls Mj.1.cls idx Mj.1 Mj.2.1 Mj.2.2.1 Mj.2.2.2.1 (pm_ws Mj) Mj.2.2.2.2 Mj.2.2.2.2.cells Mj.2.2.2.2.slots As.length := ⟨callB_of As.length hts (pm_goodIn hm.1) rfl rfl rfl (hts _ hm.2.1) (hts _ hlk) ⟨hm.2.2.1.1, hm.2.2.1.2, hnp⟩ hrm, hts _ hin, hts _ hse⟩
  have hrecv := va_recv h2.1 h2.2.1 hc (pm_cw_at (G := G) (ad := ad) hw)
  rw [hrc] at hrecv
  refine pm_after (va_runV (As := As.map (pm_tv G ad)) (rest := rest.map (pm_tv G ad)) (b := ad b) ⟨hx, hb, hml, hown, hts⟩ hM cw ⟨pm_blind _ _ _ _ _, hrecv, pm_pre h2 (.ref b :: As)⟩ rfl (List.length_map ..) h4.1 ?_ (lv_room (by rw [pm_cats]; exact hcat)) hd ⟨hca, hsl⟩) h1 h2 h3 h4 (pm_A1 h2) hca hsl hwf hk
  simp [pm_tv]
theorem pm_callVN {As rest : List Value} {b ci idx : Nat} {fs : List Value} {r : vw_C} {host : String} (hd : decode M.2.1 pc = .ok (.invokevirtual idx, 3)) (hm : pm_meth Mj) (hlk : Cond.methodLinkNest M.1.cls idx Mj.1 host ∈ pm_N) (hin : Cond.instanceMethod Mj.1 ∈ pm_T) (hse : Cond.selects Mj.1.cls Mj.1 Mj.1 ∈ pm_T) (hnp : pm_np Mj As.length) (hw : w[b]? = some (.inr (ci, fs))) (hc : pm_cl[ci]? = some r) (hrc : r.1 = Mj.1.cls)
    (hlen : (lg_sl (.ref b :: As)).length ≤ Mj.2.2.1) (hrm : pm_rm M Mj) (hcat : (rest.map fun v => v.category).sum ≤ 8) (hca : ca + Mj.2.2.2.2.cells ≤ M.2.2.2.2.cells) (hsl : sl + Mj.2.2.2.2.slots ≤ M.2.2.2.2.slots) (hwf : (∀ r w', P1 r w' → w'.length = w.length) ∨ (pm_wfl w.length lv = true ∧ rest.all (pm_wfv w.length) = true))
    (hG : pm_GoodM Mj (.ref b :: As) w P1) (hk : ∀ r w', P1 r w' → pm_Good M (pc + 3) lv (r.toList ++ rest) w' (ca + Mj.2.2.2.2.cells) (sl + Mj.2.2.2.2.slots) P) : pm_Good M pc lv (As.reverse ++ .ref b :: rest) w ca sl P := by
  intro l p e s m args below meth c9 G A ad0 ad n0 H locs ls h1 h2 h3 h4 h5 h6
  have hM := pm_met hG hm.2.2.2 hlen l G ad H.size
  obtain ⟨hx, hb, -, hml, hown, hts, -⟩ := id h1
  have cw := va_cnB (R := M.2.2.2.2) (rm := Mj.2.2.2.2) (ws := pm_ws Mj) (bytes := Mj.2.1) (maxL := Mj.2.2.1) (ret := Mj.2.2.2.1) As.length hts (pm_goodIn hm.1) rfl rfl rfl (h2.2.2.2.2.2.1 _ hlk) (hts _ hm.2.1) ⟨hm.2.2.1.1, hm.2.2.1.2, hnp⟩ hrm
  have hrecv := va_recv h2.1 h2.2.1 hc (pm_cw_at (G := G) (ad := ad) hw)
  rw [hrc] at hrecv
  refine pm_after (va_runVN (As := As.map (pm_tv G ad)) (rest := rest.map (pm_tv G ad)) (b := ad b) ⟨hx, hb, hml, hown, hts⟩ hM ⟨cw, hts _ hin, hts _ hse⟩ ⟨pm_blind _ _ _ _ _, hrecv, pm_pre h2 (.ref b :: As)⟩ rfl (List.length_map ..) h4.1 ?_ (lv_room (by rw [pm_cats]; exact hcat)) hd ⟨hca, hsl⟩) h1 h2 h3 h4 (pm_A1 h2) hca hsl hwf hk
  simp [pm_tv]
/-- a method of the String constant -/
theorem pm_callVS {As rest : List Value} {idx : Nat} (hd : decode M.2.1 pc = .ok (.invokevirtual idx, 3)) (hm : pm_meth Mj) (hlk : Cond.methodLink M.1.cls idx Mj.1 ∈ pm_T) (hin : Cond.instanceMethod Mj.1 ∈ pm_T) (hse : Cond.selects Mj.1.cls Mj.1 Mj.1 ∈ pm_T) (hnp : pm_np Mj As.length) (hrc : Mj.1.cls = "java/lang/String")
    (hlen : (lg_sl (.retAddr 0 :: As)).length ≤ Mj.2.2.1) (hrm : pm_rm M Mj) (hcat : (rest.map fun v => v.category).sum ≤ 8) (hca : ca + Mj.2.2.2.2.cells ≤ M.2.2.2.2.cells) (hsl : sl + Mj.2.2.2.2.slots ≤ M.2.2.2.2.slots) (hwf : (∀ r w', P1 r w' → w'.length = w.length) ∨ (pm_wfl w.length lv = true ∧ rest.all (pm_wfv w.length) = true))
    (hG : pm_GoodM Mj (.retAddr 0 :: As) w P1) (hk : ∀ r w', P1 r w' → pm_Good M (pc + 3) lv (r.toList ++ rest) w' (ca + Mj.2.2.2.2.cells) (sl + Mj.2.2.2.2.slots) P) : pm_Good M pc lv (As.reverse ++ .retAddr 0 :: rest) w ca sl P := by
  intro l p e s m args below meth c9 G A ad0 ad n0 H locs ls h1 h2 h3 h4 h5 h6
  have hM := pm_met hG hm.2.2.2 hlen l G ad H.size
  obtain ⟨hx, hb, -, hml, hown, hts, -⟩ := id h1
  have cw : CallW M.2.2.2.2 s args M.1.cls Mj.1.cls idx Mj.1 Mj.2.1 Mj.2.2.1 Mj.2.2.2.1 (pm_ws Mj) Mj.2.2.2.2 Mj.2.2.2.2.cells Mj.2.2.2.2.slots As.length := ⟨callB_of As.length hts (pm_goodIn hm.1) rfl rfl rfl (hts _ hm.2.1) (hts _ hlk) ⟨hm.2.2.1.1, hm.2.2.1.2, hnp⟩ hrm, hts _ hin, hts _ hse⟩
  have hrecv := vk_recv h2.2.2.2.2.2.2.1 (i := 0) (by decide) h2.2.2.2.1
  rw [← hrc] at hrecv
  refine pm_after (va_runV (As := As.map (pm_tv G ad)) (rest := rest.map (pm_tv G ad)) (b := G.2.2.2.1) ⟨hx, hb, hml, hown, hts⟩ hM cw ⟨pm_blind _ _ _ _ _, hrecv, pm_pre h2 (.retAddr 0 :: As)⟩ rfl (List.length_map ..) h4.1 ?_ (lv_room (by rw [pm_cats]; exact hcat)) hd ⟨hca, hsl⟩) h1 h2 h3 h4 (pm_A1 h2) hca hsl hwf hk
  simp [pm_tv]
theorem pm_callS {As rest : List Value} {idx : Nat} (hd : decode M.2.1 pc = .ok (.invokestatic idx, 3)) (hm : pm_meth Mj) (hlk : Cond.methodLink M.1.cls idx Mj.1 ∈ pm_T) (hst : Cond.static Mj.1 ∈ pm_T) (hnp : pm_np Mj As.length)
    (hlen : (lg_sl As).length ≤ Mj.2.2.1) (hrm : pm_rm M Mj) (hcat : (rest.map fun v => v.category).sum ≤ 8) (hca : ca + Mj.2.2.2.2.cells ≤ M.2.2.2.2.cells) (hsl : sl + Mj.2.2.2.2.slots ≤ M.2.2.2.2.slots) (hwf : (∀ r w', P1 r w' → w'.length = w.length) ∨ (pm_wfl w.length lv = true ∧ rest.all (pm_wfv w.length) = true))
    (hG : pm_GoodM Mj As w P1) (hk : ∀ r w', P1 r w' → pm_Good M (pc + 3) lv (r.toList ++ rest) w' (ca + Mj.2.2.2.2.cells) (sl + Mj.2.2.2.2.slots) P) : pm_Good M pc lv (As.reverse ++ rest) w ca sl P := by
  intro l p e s m args below meth c9 G A ad0 ad n0 H locs ls h1 h2 h3 h4 h5 h6
  have hM := pm_met hG hm.2.2.2 hlen l G ad H.size
  obtain ⟨hx, hb, -, hml, hown, hts, -⟩ := id h1
  have cw : CallB M.2.2.2.2 s args M.1.cls idx Mj.1 Mj.2.1 Mj.2.2.1 Mj.2.2.2.1 (pm_ws Mj) Mj.2.2.2.2 Mj.2.2.2.2.cells Mj.2.2.2.2.slots As.length := callB_of As.length hts (pm_goodIn hm.1) rfl rfl rfl (hts _ hm.2.1) (hts _ hlk) ⟨hm.2.2.1.1, hm.2.2.1.2, hnp⟩ hrm
  refine pm_after (va_runS (As := As.map (pm_tv G ad)) (rest := rest.map (pm_tv G ad)) ⟨hx, hb, hml, hown, hts⟩ hM ⟨cw, hts _ hst⟩ ⟨pm_blind _ _ _ _ _, pm_pre h2 As⟩ rfl (List.length_map ..) h4.1 ?_ (lv_room (by rw [pm_cats]; exact hcat)) hd ⟨hca, hsl⟩) h1 h2 h3 h4 (pm_A1 h2) hca hsl hwf hk
  simp
theorem pm_callSN {As rest : List Value} {idx : Nat} {host : String} (hd : decode M.2.1 pc = .ok (.invokestatic idx, 3)) (hm : pm_meth Mj) (hlk : Cond.methodLinkNest M.1.cls idx Mj.1 host ∈ pm_N) (hst : Cond.static Mj.1 ∈ pm_T) (hnp : pm_np Mj As.length)
    (hlen : (lg_sl As).length ≤ Mj.2.2.1) (hrm : pm_rm M Mj) (hcat : (rest.map fun v => v.category).sum ≤ 8) (hca : ca + Mj.2.2.2.2.cells ≤ M.2.2.2.2.cells) (hsl : sl + Mj.2.2.2.2.slots ≤ M.2.2.2.2.slots) (hwf : (∀ r w', P1 r w' → w'.length = w.length) ∨ (pm_wfl w.length lv = true ∧ rest.all (pm_wfv w.length) = true))
    (hG : pm_GoodM Mj As w P1) (hk : ∀ r w', P1 r w' → pm_Good M (pc + 3) lv (r.toList ++ rest) w' (ca + Mj.2.2.2.2.cells) (sl + Mj.2.2.2.2.slots) P) : pm_Good M pc lv (As.reverse ++ rest) w ca sl P := by
  intro l p e s m args below meth c9 G A ad0 ad n0 H locs ls h1 h2 h3 h4 h5 h6
  have hM := pm_met hG hm.2.2.2 hlen l G ad H.size
  obtain ⟨hx, hb, -, hml, hown, hts, -⟩ := id h1
  have cw := va_cnB (R := M.2.2.2.2) (rm := Mj.2.2.2.2) (ws := pm_ws Mj) (bytes := Mj.2.1) (maxL := Mj.2.2.1) (ret := Mj.2.2.2.1) As.length hts (pm_goodIn hm.1) rfl rfl rfl (h2.2.2.2.2.2.1 _ hlk) (hts _ hm.2.1) ⟨hm.2.2.1.1, hm.2.2.1.2, hnp⟩ hrm
  refine pm_after (va_runSN (As := As.map (pm_tv G ad)) (rest := rest.map (pm_tv G ad)) ⟨hx, hb, hml, hown, hts⟩ hM ⟨cw, hts _ hst, trivial⟩ ⟨pm_blind _ _ _ _ _, pm_pre h2 As⟩ rfl (List.length_map ..) h4.1 ?_ (lv_room (by rw [pm_cats]; exact hcat)) hd ⟨hca, hsl⟩) h1 h2 h3 h4 (pm_A1 h2) hca hsl hwf hk
  simp
theorem pm_callI {As rest : List Value} {b idx : Nat} (hd : decode M.2.1 pc = .ok (.invokespecial idx, 3)) (hm : pm_meth Mj) (hlk : Cond.methodLink M.1.cls idx Mj.1 ∈ pm_T) (hin : Cond.instanceMethod Mj.1 ∈ pm_T) (hi : Mj.1.name = "<init>") (hrt : Mj.2.2.2.1 = none) (hnp : pm_np Mj As.length)
    (hlen : (lg_sl (.ref b :: As)).length ≤ Mj.2.2.1) (hrm : pm_rm M Mj) (hcat : (rest.map fun v => v.category).sum ≤ 8) (hca : ca + Mj.2.2.2.2.cells ≤ M.2.2.2.2.cells) (hsl : sl + Mj.2.2.2.2.slots ≤ M.2.2.2.2.slots) (hwf : (∀ r w', P1 r w' → w'.length = w.length) ∨ (pm_wfl w.length lv = true ∧ rest.all (pm_wfv w.length) = true))
    (hG : pm_GoodM Mj (.ref b :: As) w P1) (hk : ∀ r w', P1 r w' → pm_Good M (pc + 3) lv (r.toList ++ rest) w' (ca + Mj.2.2.2.2.cells) (sl + Mj.2.2.2.2.slots) P) : pm_Good M pc lv (As.reverse ++ .ref b :: rest) w ca sl P := by
  intro l p e s m args below meth c9 G A ad0 ad n0 H locs ls h1 h2 h3 h4 h5 h6
  have hM := pm_met hG hm.2.2.2 hlen l G ad H.size
  obtain ⟨hx, hb, -, hml, hown, hts, -⟩ := id h1
  have cw : CallB M.2.2.2.2 s args M.1.cls idx Mj.1 Mj.2.1 Mj.2.2.1 none (pm_ws Mj) Mj.2.2.2.2 Mj.2.2.2.2.cells Mj.2.2.2.2.slots As.length := callB_of As.length hts (pm_goodIn hm.1) (by rw [pm_ws, hrt]) rfl rfl (hts _ hm.2.1) (hts _ hlk) ⟨hm.2.2.1.1, hm.2.2.1.2, hnp⟩ hrm
  refine pm_after (va_runI (As := As.map (pm_tv G ad)) (rest := rest.map (pm_tv G ad)) (b := ad b) ⟨hx, hb, hml, hown, hts⟩ hM ⟨cw, hi, hts _ hin⟩ ⟨pm_blind _ _ _ _ _, pm_pre h2 (.ref b :: As)⟩ rfl (List.length_map ..) h4.1 ?_ (lv_room (by rw [pm_cats]; exact hcat)) hd ⟨hca, hsl⟩) h1 h2 h3 h4 (pm_A1 h2) hca hsl hwf hk
  simp [pm_tv]
theorem pm_callIN {As rest : List Value} {b idx : Nat} {host : String} (hd : decode M.2.1 pc = .ok (.invokespecial idx, 3)) (hm : pm_meth Mj) (hlk : Cond.methodLinkNest M.1.cls idx Mj.1 host ∈ pm_N) (hin : Cond.instanceMethod Mj.1 ∈ pm_T) (hi : Mj.1.name = "<init>") (hrt : Mj.2.2.2.1 = none) (hnp : pm_np Mj As.length)
    (hlen : (lg_sl (.ref b :: As)).length ≤ Mj.2.2.1) (hrm : pm_rm M Mj) (hcat : (rest.map fun v => v.category).sum ≤ 8) (hca : ca + Mj.2.2.2.2.cells ≤ M.2.2.2.2.cells) (hsl : sl + Mj.2.2.2.2.slots ≤ M.2.2.2.2.slots) (hwf : (∀ r w', P1 r w' → w'.length = w.length) ∨ (pm_wfl w.length lv = true ∧ rest.all (pm_wfv w.length) = true))
    (hG : pm_GoodM Mj (.ref b :: As) w P1) (hk : ∀ r w', P1 r w' → pm_Good M (pc + 3) lv (r.toList ++ rest) w' (ca + Mj.2.2.2.2.cells) (sl + Mj.2.2.2.2.slots) P) : pm_Good M pc lv (As.reverse ++ .ref b :: rest) w ca sl P := by
  intro l p e s m args below meth c9 G A ad0 ad n0 H locs ls h1 h2 h3 h4 h5 h6
  have hM := pm_met hG hm.2.2.2 hlen l G ad H.size
  obtain ⟨hx, hb, -, hml, hown, hts, -⟩ := id h1
  have cw := va_cnB (R := M.2.2.2.2) (rm := Mj.2.2.2.2) (ws := pm_ws Mj) (bytes := Mj.2.1) (maxL := Mj.2.2.1) (ret := none) As.length hts (pm_goodIn hm.1) (by rw [pm_ws, hrt]) rfl rfl (h2.2.2.2.2.2.1 _ hlk) (hts _ hm.2.1) ⟨hm.2.2.1.1, hm.2.2.1.2, hnp⟩ hrm
  refine pm_after (va_runIN (As := As.map (pm_tv G ad)) (rest := rest.map (pm_tv G ad)) (b := ad b) ⟨hx, hb, hml, hown, hts⟩ hM ⟨cw, hi, hts _ hin⟩ ⟨pm_blind _ _ _ _ _, pm_pre h2 (.ref b :: As)⟩ rfl (List.length_map ..) h4.1 ?_ (lv_room (by rw [pm_cats]; exact hcat)) hd ⟨hca, hsl⟩) h1 h2 h3 h4 (pm_A1 h2) hca hsl hwf hk
  simp [pm_tv]
end PMC
end
