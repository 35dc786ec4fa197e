-- ===== PART A: goes FIRST, ahead of the names: the tables' words, and 'selects' of the private methods out of them =====
/-- a private method of a class that the tables say can be made, by its rows of tables_1 -/
def lw_okq (q : MethodName × Nat) : Prop := (q.1.cls ≠ "java/lang/invoke/MethodHandle" ∧ q.1.cls ≠ "java/lang/invoke/VarHandle") ∧ Cond.instantiable q.1.cls q.2 ∈ tables_1 ∧ Cond.privateMethod q.1 ∈ tables_1 ∧ Cond.instanceMethod q.1 ∈ tables_1
theorem lw_p0 : lw_okq (⟨"CaptainTides", "record", "()V"⟩, 9) := ⟨⟨by decide +kernel, by decide +kernel⟩, List.mem_of_getElem? (i := 13) (by decide +kernel), List.mem_of_getElem? (i := 290) (by decide +kernel), List.mem_of_getElem? (i := 291) (by decide +kernel)⟩
theorem lw_p1 : lw_okq (⟨"CaptainTides$BeliefText", "takes", "(CLCaptainTides$State;)Z"⟩, 7) := ⟨⟨by decide +kernel, by decide +kernel⟩, List.mem_of_getElem? (i := 108) (by decide +kernel), List.mem_of_getElem? (i := 314) (by decide +kernel), List.mem_of_getElem? (i := 315) (by decide +kernel)⟩
theorem lw_p2 : lw_okq (⟨"CaptainTides$BeliefText", "takesCaptain", "(C)Z"⟩, 7) := ⟨⟨by decide +kernel, by decide +kernel⟩, List.mem_of_getElem? (i := 108) (by decide +kernel), List.mem_of_getElem? (i := 318) (by decide +kernel), List.mem_of_getElem? (i := 319) (by decide +kernel)⟩
theorem lw_p3 : lw_okq (⟨"CaptainTides$BeliefText", "takesLetter", "(C)Z"⟩, 7) := ⟨⟨by decide +kernel, by decide +kernel⟩, List.mem_of_getElem? (i := 108) (by decide +kernel), List.mem_of_getElem? (i := 326) (by decide +kernel), List.mem_of_getElem? (i := 327) (by decide +kernel)⟩
theorem lw_p4 : lw_okq (⟨"CaptainTides$BeliefText", "takesFirstDigit", "(CLCaptainTides$State;)Z"⟩, 7) := ⟨⟨by decide +kernel, by decide +kernel⟩, List.mem_of_getElem? (i := 108) (by decide +kernel), List.mem_of_getElem? (i := 333) (by decide +kernel), List.mem_of_getElem? (i := 334) (by decide +kernel)⟩
theorem lw_p5 : lw_okq (⟨"CaptainTides$BeliefText", "tellsNumber", "(LCaptainTides$State;)Z"⟩, 7) := ⟨⟨by decide +kernel, by decide +kernel⟩, List.mem_of_getElem? (i := 108) (by decide +kernel), List.mem_of_getElem? (i := 337) (by decide +kernel), List.mem_of_getElem? (i := 338) (by decide +kernel)⟩
theorem lw_p6 : lw_okq (⟨"CaptainTides$BeliefText", "takesBehindDigit", "(CLCaptainTides$State;)Z"⟩, 7) := ⟨⟨by decide +kernel, by decide +kernel⟩, List.mem_of_getElem? (i := 108) (by decide +kernel), List.mem_of_getElem? (i := 343) (by decide +kernel), List.mem_of_getElem? (i := 344) (by decide +kernel)⟩
theorem lw_p7 : lw_okq (⟨"CaptainTides$SailedDay", "givePier", "(II)V"⟩, 3) := ⟨⟨by decide +kernel, by decide +kernel⟩, List.mem_of_getElem? (i := 174) (by decide +kernel), List.mem_of_getElem? (i := 411) (by decide +kernel), List.mem_of_getElem? (i := 412) (by decide +kernel)⟩
theorem lw_p8 : lw_okq (⟨"CaptainTides$SailedDay", "drawLot", "(I)I"⟩, 3) := ⟨⟨by decide +kernel, by decide +kernel⟩, List.mem_of_getElem? (i := 174) (by decide +kernel), List.mem_of_getElem? (i := 423) (by decide +kernel), List.mem_of_getElem? (i := 424) (by decide +kernel)⟩
theorem lw_p9 : lw_okq (⟨"CaptainTides", "timetableOf", "(I)LCaptainTides$Timetable;"⟩, 9) := ⟨⟨by decide +kernel, by decide +kernel⟩, List.mem_of_getElem? (i := 13) (by decide +kernel), List.mem_of_getElem? (i := 497) (by decide +kernel), List.mem_of_getElem? (i := 498) (by decide +kernel)⟩
theorem lw_p10 : lw_okq (⟨"CaptainTides$Board", "noteUses", "(LCaptainTides$Timetable;I)V"⟩, 2) := ⟨⟨by decide +kernel, by decide +kernel⟩, List.mem_of_getElem? (i := 139) (by decide +kernel), List.mem_of_getElem? (i := 506) (by decide +kernel), List.mem_of_getElem? (i := 507) (by decide +kernel)⟩
theorem lw_p11 : lw_okq (⟨"CaptainTides$Board", "noteUse", "(II)V"⟩, 2) := ⟨⟨by decide +kernel, by decide +kernel⟩, List.mem_of_getElem? (i := 139) (by decide +kernel), List.mem_of_getElem? (i := 518) (by decide +kernel), List.mem_of_getElem? (i := 519) (by decide +kernel)⟩
theorem lw_p12 : lw_okq (⟨"CaptainTides$Board", "isClash", "(I)Z"⟩, 2) := ⟨⟨by decide +kernel, by decide +kernel⟩, List.mem_of_getElem? (i := 139) (by decide +kernel), List.mem_of_getElem? (i := 554) (by decide +kernel), List.mem_of_getElem? (i := 555) (by decide +kernel)⟩
theorem lw_p13 : lw_okq (⟨"CaptainTidesModel", "put", "(III)V"⟩, 16) := ⟨⟨by decide +kernel, by decide +kernel⟩, List.mem_of_getElem? (i := 610) (by decide +kernel), List.mem_of_getElem? (i := 616) (by decide +kernel), List.mem_of_getElem? (i := 617) (by decide +kernel)⟩
theorem lw_p14 : lw_okq (⟨"CaptainTidesModel", "of", "(II)I"⟩, 16) := ⟨⟨by decide +kernel, by decide +kernel⟩, List.mem_of_getElem? (i := 610) (by decide +kernel), List.mem_of_getElem? (i := 685) (by decide +kernel), List.mem_of_getElem? (i := 686) (by decide +kernel)⟩
theorem lw_p15 : lw_okq (⟨"CaptainTidesModel", "record", "()V"⟩, 16) := ⟨⟨by decide +kernel, by decide +kernel⟩, List.mem_of_getElem? (i := 610) (by decide +kernel), List.mem_of_getElem? (i := 689) (by decide +kernel), List.mem_of_getElem? (i := 690) (by decide +kernel)⟩
def lw_privs_1 : List (MethodName × Nat) := [(⟨"CaptainTides", "record", "()V"⟩, 9), (⟨"CaptainTides$BeliefText", "takes", "(CLCaptainTides$State;)Z"⟩, 7), (⟨"CaptainTides$BeliefText", "takesCaptain", "(C)Z"⟩, 7), (⟨"CaptainTides$BeliefText", "takesLetter", "(C)Z"⟩, 7), (⟨"CaptainTides$BeliefText", "takesFirstDigit", "(CLCaptainTides$State;)Z"⟩, 7), (⟨"CaptainTides$BeliefText", "tellsNumber", "(LCaptainTides$State;)Z"⟩, 7), (⟨"CaptainTides$BeliefText", "takesBehindDigit", "(CLCaptainTides$State;)Z"⟩, 7), (⟨"CaptainTides$SailedDay", "givePier", "(II)V"⟩, 3), (⟨"CaptainTides$SailedDay", "drawLot", "(I)I"⟩, 3), (⟨"CaptainTides", "timetableOf", "(I)LCaptainTides$Timetable;"⟩, 9), (⟨"CaptainTides$Board", "noteUses", "(LCaptainTides$Timetable;I)V"⟩, 2), (⟨"CaptainTides$Board", "noteUse", "(II)V"⟩, 2), (⟨"CaptainTides$Board", "isClash", "(I)Z"⟩, 2), (⟨"CaptainTidesModel", "put", "(III)V"⟩, 16), (⟨"CaptainTidesModel", "of", "(II)I"⟩, 16), (⟨"CaptainTidesModel", "record", "()V"⟩, 16)]
theorem lw_r1 : ∀ q ∈ lw_privs_1, lw_okq q := List.forall_mem_cons.mpr ⟨lw_p0, List.forall_mem_cons.mpr ⟨lw_p1, List.forall_mem_cons.mpr ⟨lw_p2, List.forall_mem_cons.mpr ⟨lw_p3, List.forall_mem_cons.mpr ⟨lw_p4, List.forall_mem_cons.mpr ⟨lw_p5, List.forall_mem_cons.mpr ⟨lw_p6, List.forall_mem_cons.mpr ⟨lw_p7, List.forall_mem_cons.mpr ⟨lw_p8, List.forall_mem_cons.mpr ⟨lw_p9, List.forall_mem_cons.mpr ⟨lw_p10, List.forall_mem_cons.mpr ⟨lw_p11, List.forall_mem_cons.mpr ⟨lw_p12, List.forall_mem_cons.mpr ⟨lw_p13, List.forall_mem_cons.mpr ⟨lw_p14, List.forall_mem_cons.mpr ⟨lw_p15, fun _ h => absurd h List.not_mem_nil⟩⟩⟩⟩⟩⟩⟩⟩⟩⟩⟩⟩⟩⟩⟩⟩
theorem lw_p16 : lw_okq (⟨"CaptainTidesModel", "change", "(II)I"⟩, 16) := ⟨⟨by decide +kernel, by decide +kernel⟩, List.mem_of_getElem? (i := 610) (by decide +kernel), List.mem_of_getElem? (i := 697) (by decide +kernel), List.mem_of_getElem? (i := 698) (by decide +kernel)⟩
theorem lw_p17 : lw_okq (⟨"CaptainTidesModel", "sumOf", "(I)I"⟩, 16) := ⟨⟨by decide +kernel, by decide +kernel⟩, List.mem_of_getElem? (i := 610) (by decide +kernel), List.mem_of_getElem? (i := 714) (by decide +kernel), List.mem_of_getElem? (i := 715) (by decide +kernel)⟩
theorem lw_p18 : lw_okq (⟨"CaptainTidesModel", "sailDay", "()V"⟩, 16) := ⟨⟨by decide +kernel, by decide +kernel⟩, List.mem_of_getElem? (i := 610) (by decide +kernel), List.mem_of_getElem? (i := 718) (by decide +kernel), List.mem_of_getElem? (i := 719) (by decide +kernel)⟩
theorem lw_p19 : lw_okq (⟨"CaptainTidesModel", "printAll", "()V"⟩, 16) := ⟨⟨by decide +kernel, by decide +kernel⟩, List.mem_of_getElem? (i := 610) (by decide +kernel), List.mem_of_getElem? (i := 722) (by decide +kernel), List.mem_of_getElem? (i := 723) (by decide +kernel)⟩
theorem lw_p20 : lw_okq (⟨"CaptainTidesModel", "print", "(I)V"⟩, 16) := ⟨⟨by decide +kernel, by decide +kernel⟩, List.mem_of_getElem? (i := 610) (by decide +kernel), List.mem_of_getElem? (i := 726) (by decide +kernel), List.mem_of_getElem? (i := 727) (by decide +kernel)⟩
theorem lw_p21 : lw_okq (⟨"CaptainTidesModel", "isEnough", "(III)Z"⟩, 16) := ⟨⟨by decide +kernel, by decide +kernel⟩, List.mem_of_getElem? (i := 610) (by decide +kernel), List.mem_of_getElem? (i := 730) (by decide +kernel), List.mem_of_getElem? (i := 731) (by decide +kernel)⟩
theorem lw_p22 : lw_okq (⟨"CaptainTidesModel", "goOn", "(I)V"⟩, 16) := ⟨⟨by decide +kernel, by decide +kernel⟩, List.mem_of_getElem? (i := 610) (by decide +kernel), List.mem_of_getElem? (i := 737) (by decide +kernel), List.mem_of_getElem? (i := 738) (by decide +kernel)⟩
theorem lw_p23 : lw_okq (⟨"CaptainTidesModel", "wants", "(II)Z"⟩, 16) := ⟨⟨by decide +kernel, by decide +kernel⟩, List.mem_of_getElem? (i := 610) (by decide +kernel), List.mem_of_getElem? (i := 741) (by decide +kernel), List.mem_of_getElem? (i := 742) (by decide +kernel)⟩
theorem lw_p24 : lw_okq (⟨"CaptainTidesModel", "hourOf", "(II)I"⟩, 16) := ⟨⟨by decide +kernel, by decide +kernel⟩, List.mem_of_getElem? (i := 610) (by decide +kernel), List.mem_of_getElem? (i := 745) (by decide +kernel), List.mem_of_getElem? (i := 746) (by decide +kernel)⟩
theorem lw_p25 : lw_okq (⟨"CaptainTidesModel", "more", "(III)V"⟩, 16) := ⟨⟨by decide +kernel, by decide +kernel⟩, List.mem_of_getElem? (i := 610) (by decide +kernel), List.mem_of_getElem? (i := 749) (by decide +kernel), List.mem_of_getElem? (i := 750) (by decide +kernel)⟩
theorem lw_p26 : lw_okq (⟨"CaptainTidesModel", "isThere", "(III)Z"⟩, 16) := ⟨⟨by decide +kernel, by decide +kernel⟩, List.mem_of_getElem? (i := 610) (by decide +kernel), List.mem_of_getElem? (i := 753) (by decide +kernel), List.mem_of_getElem? (i := 754) (by decide +kernel)⟩
theorem lw_p27 : lw_okq (⟨"CaptainTidesModel", "givePier", "(IZI)V"⟩, 16) := ⟨⟨by decide +kernel, by decide +kernel⟩, List.mem_of_getElem? (i := 610) (by decide +kernel), List.mem_of_getElem? (i := 757) (by decide +kernel), List.mem_of_getElem? (i := 758) (by decide +kernel)⟩
theorem lw_p28 : lw_okq (⟨"CaptainTidesModel", "draw", "(I)I"⟩, 16) := ⟨⟨by decide +kernel, by decide +kernel⟩, List.mem_of_getElem? (i := 610) (by decide +kernel), List.mem_of_getElem? (i := 764) (by decide +kernel), List.mem_of_getElem? (i := 765) (by decide +kernel)⟩
theorem lw_p29 : lw_okq (⟨"CaptainTidesModel", "depart", "(II)V"⟩, 16) := ⟨⟨by decide +kernel, by decide +kernel⟩, List.mem_of_getElem? (i := 610) (by decide +kernel), List.mem_of_getElem? (i := 769) (by decide +kernel), List.mem_of_getElem? (i := 770) (by decide +kernel)⟩
theorem lw_p30 : lw_okq (⟨"CaptainTidesModel", "learn", "()V"⟩, 16) := ⟨⟨by decide +kernel, by decide +kernel⟩, List.mem_of_getElem? (i := 610) (by decide +kernel), List.mem_of_getElem? (i := 773) (by decide +kernel), List.mem_of_getElem? (i := 774) (by decide +kernel)⟩
theorem lw_p31 : lw_okq (⟨"CaptainTidesModel", "readAll", "()I"⟩, 16) := ⟨⟨by decide +kernel, by decide +kernel⟩, List.mem_of_getElem? (i := 610) (by decide +kernel), List.mem_of_getElem? (i := 789) (by decide +kernel), List.mem_of_getElem? (i := 790) (by decide +kernel)⟩
def lw_privs_2 : List (MethodName × Nat) := [(⟨"CaptainTidesModel", "change", "(II)I"⟩, 16), (⟨"CaptainTidesModel", "sumOf", "(I)I"⟩, 16), (⟨"CaptainTidesModel", "sailDay", "()V"⟩, 16), (⟨"CaptainTidesModel", "printAll", "()V"⟩, 16), (⟨"CaptainTidesModel", "print", "(I)V"⟩, 16), (⟨"CaptainTidesModel", "isEnough", "(III)Z"⟩, 16), (⟨"CaptainTidesModel", "goOn", "(I)V"⟩, 16), (⟨"CaptainTidesModel", "wants", "(II)Z"⟩, 16), (⟨"CaptainTidesModel", "hourOf", "(II)I"⟩, 16), (⟨"CaptainTidesModel", "more", "(III)V"⟩, 16), (⟨"CaptainTidesModel", "isThere", "(III)Z"⟩, 16), (⟨"CaptainTidesModel", "givePier", "(IZI)V"⟩, 16), (⟨"CaptainTidesModel", "draw", "(I)I"⟩, 16), (⟨"CaptainTidesModel", "depart", "(II)V"⟩, 16), (⟨"CaptainTidesModel", "learn", "()V"⟩, 16), (⟨"CaptainTidesModel", "readAll", "()I"⟩, 16)]
theorem lw_r2 : ∀ q ∈ lw_privs_2, lw_okq q := List.forall_mem_cons.mpr ⟨lw_p16, List.forall_mem_cons.mpr ⟨lw_p17, List.forall_mem_cons.mpr ⟨lw_p18, List.forall_mem_cons.mpr ⟨lw_p19, List.forall_mem_cons.mpr ⟨lw_p20, List.forall_mem_cons.mpr ⟨lw_p21, List.forall_mem_cons.mpr ⟨lw_p22, List.forall_mem_cons.mpr ⟨lw_p23, List.forall_mem_cons.mpr ⟨lw_p24, List.forall_mem_cons.mpr ⟨lw_p25, List.forall_mem_cons.mpr ⟨lw_p26, List.forall_mem_cons.mpr ⟨lw_p27, List.forall_mem_cons.mpr ⟨lw_p28, List.forall_mem_cons.mpr ⟨lw_p29, List.forall_mem_cons.mpr ⟨lw_p30, List.forall_mem_cons.mpr ⟨lw_p31, fun _ h => absurd h List.not_mem_nil⟩⟩⟩⟩⟩⟩⟩⟩⟩⟩⟩⟩⟩⟩⟩⟩
theorem lw_p32 : lw_okq (⟨"CaptainTidesModel", "readPart", "(Z)Z"⟩, 16) := ⟨⟨by decide +kernel, by decide +kernel⟩, List.mem_of_getElem? (i := 610) (by decide +kernel), List.mem_of_getElem? (i := 793) (by decide +kernel), List.mem_of_getElem? (i := 794) (by decide +kernel)⟩
theorem lw_p33 : lw_okq (⟨"CaptainTidesModel", "number", "(II)I"⟩, 16) := ⟨⟨by decide +kernel, by decide +kernel⟩, List.mem_of_getElem? (i := 610) (by decide +kernel), List.mem_of_getElem? (i := 797) (by decide +kernel), List.mem_of_getElem? (i := 798) (by decide +kernel)⟩
theorem lw_p34 : lw_okq (⟨"CaptainTidesModel", "isNext", "(II)Z"⟩, 16) := ⟨⟨by decide +kernel, by decide +kernel⟩, List.mem_of_getElem? (i := 610) (by decide +kernel), List.mem_of_getElem? (i := 801) (by decide +kernel), List.mem_of_getElem? (i := 802) (by decide +kernel)⟩
theorem lw_p35 : lw_okq (⟨"CaptainTidesModel", "sign", "(I)Z"⟩, 16) := ⟨⟨by decide +kernel, by decide +kernel⟩, List.mem_of_getElem? (i := 610) (by decide +kernel), List.mem_of_getElem? (i := 805) (by decide +kernel), List.mem_of_getElem? (i := 806) (by decide +kernel)⟩
theorem lw_p36 : lw_okq (⟨"CaptainTidesModel", "aboutOf", "()I"⟩, 16) := ⟨⟨by decide +kernel, by decide +kernel⟩, List.mem_of_getElem? (i := 610) (by decide +kernel), List.mem_of_getElem? (i := 809) (by decide +kernel), List.mem_of_getElem? (i := 810) (by decide +kernel)⟩
theorem lw_p37 : lw_okq (⟨"CaptainTidesModel", "pierOf", "(II)I"⟩, 16) := ⟨⟨by decide +kernel, by decide +kernel⟩, List.mem_of_getElem? (i := 610) (by decide +kernel), List.mem_of_getElem? (i := 837) (by decide +kernel), List.mem_of_getElem? (i := 838) (by decide +kernel)⟩
theorem lw_p38 : lw_okq (⟨"CaptainTidesModel", "usesSet", "(II)I"⟩, 16) := ⟨⟨by decide +kernel, by decide +kernel⟩, List.mem_of_getElem? (i := 610) (by decide +kernel), List.mem_of_getElem? (i := 849) (by decide +kernel), List.mem_of_getElem? (i := 850) (by decide +kernel)⟩
theorem lw_p39 : lw_okq (⟨"CaptainTidesModel", "usesPier", "(III)Z"⟩, 16) := ⟨⟨by decide +kernel, by decide +kernel⟩, List.mem_of_getElem? (i := 610) (by decide +kernel), List.mem_of_getElem? (i := 853) (by decide +kernel), List.mem_of_getElem? (i := 854) (by decide +kernel)⟩
theorem lw_p40 : lw_okq (⟨"CaptainTidesModel", "clashes", "()I"⟩, 16) := ⟨⟨by decide +kernel, by decide +kernel⟩, List.mem_of_getElem? (i := 610) (by decide +kernel), List.mem_of_getElem? (i := 869) (by decide +kernel), List.mem_of_getElem? (i := 870) (by decide +kernel)⟩
theorem lw_p41 : lw_okq (⟨"CaptainTidesModel", "lay", "()V"⟩, 16) := ⟨⟨by decide +kernel, by decide +kernel⟩, List.mem_of_getElem? (i := 610) (by decide +kernel), List.mem_of_getElem? (i := 881) (by decide +kernel), List.mem_of_getElem? (i := 882) (by decide +kernel)⟩
theorem lw_p42 : lw_okq (⟨"CaptainTidesModel", "told", "(I)I"⟩, 16) := ⟨⟨by decide +kernel, by decide +kernel⟩, List.mem_of_getElem? (i := 610) (by decide +kernel), List.mem_of_getElem? (i := 885) (by decide +kernel), List.mem_of_getElem? (i := 886) (by decide +kernel)⟩
theorem lw_p43 : lw_okq (⟨"CaptainTidesModel", "takeBack", "()V"⟩, 16) := ⟨⟨by decide +kernel, by decide +kernel⟩, List.mem_of_getElem? (i := 610) (by decide +kernel), List.mem_of_getElem? (i := 889) (by decide +kernel), List.mem_of_getElem? (i := 890) (by decide +kernel)⟩
def lw_privs_3 : List (MethodName × Nat) := [(⟨"CaptainTidesModel", "readPart", "(Z)Z"⟩, 16), (⟨"CaptainTidesModel", "number", "(II)I"⟩, 16), (⟨"CaptainTidesModel", "isNext", "(II)Z"⟩, 16), (⟨"CaptainTidesModel", "sign", "(I)Z"⟩, 16), (⟨"CaptainTidesModel", "aboutOf", "()I"⟩, 16), (⟨"CaptainTidesModel", "pierOf", "(II)I"⟩, 16), (⟨"CaptainTidesModel", "usesSet", "(II)I"⟩, 16), (⟨"CaptainTidesModel", "usesPier", "(III)Z"⟩, 16), (⟨"CaptainTidesModel", "clashes", "()I"⟩, 16), (⟨"CaptainTidesModel", "lay", "()V"⟩, 16), (⟨"CaptainTidesModel", "told", "(I)I"⟩, 16), (⟨"CaptainTidesModel", "takeBack", "()V"⟩, 16)]
theorem lw_r3 : ∀ q ∈ lw_privs_3, lw_okq q := List.forall_mem_cons.mpr ⟨lw_p32, List.forall_mem_cons.mpr ⟨lw_p33, List.forall_mem_cons.mpr ⟨lw_p34, List.forall_mem_cons.mpr ⟨lw_p35, List.forall_mem_cons.mpr ⟨lw_p36, List.forall_mem_cons.mpr ⟨lw_p37, List.forall_mem_cons.mpr ⟨lw_p38, List.forall_mem_cons.mpr ⟨lw_p39, List.forall_mem_cons.mpr ⟨lw_p40, List.forall_mem_cons.mpr ⟨lw_p41, List.forall_mem_cons.mpr ⟨lw_p42, List.forall_mem_cons.mpr ⟨lw_p43, fun _ h => absurd h List.not_mem_nil⟩⟩⟩⟩⟩⟩⟩⟩⟩⟩⟩⟩
def lw_privs : List (MethodName × Nat) := lw_privs_1 ++ (lw_privs_2 ++ (lw_privs_3))
def lw_tbl : List Cond := k2_sels lw_privs ++ tables_1
theorem lw_privs_ok : ∀ q ∈ lw_privs, lw_okq q := by
  show ∀ q ∈ lw_privs_1 ++ (lw_privs_2 ++ (lw_privs_3)), lw_okq q
  exact List.forall_mem_append.mpr ⟨lw_r1, List.forall_mem_append.mpr ⟨lw_r2, lw_r3⟩⟩
/-- the streams that the claim lets the run draw from -/
abbrev lw_cs : List Choice := [Jvm.Choice.named "NaN.bits"]
theorem lw_bits : nanBits ∈ lw_cs := by first | decide | exact List.mem_cons_self | simp [lw_cs, nanBits]

def RX0 : String := "CaptainTides$BeliefText"
def TX0 : u_T := fun k => match k with
  | 0 => ("CaptainTides$BeliefText", "signs", "[C", true)
  | 1 => ("CaptainTides$BeliefText", "length", "I", false)
  | 2 => ("CaptainTides$BeliefText", "parts", "I", false)
  | 3 => ("CaptainTides$BeliefText", "place", "I", false)
  | 4 => ("CaptainTides$BeliefText", "captain", "I", false)
  | 5 => ("CaptainTides$BeliefText", "what", "I", false)
  | _ => ("CaptainTides$BeliefText", "number", "I", false)
def tyX0 : Nat → FieldType := fun k => match k with
  | 0 => .array .char
  | 1 => .int
  | 2 => .int
  | 3 => .int
  | 4 => .int
  | 5 => .int
  | _ => .int
theorem nmX0 : ∀ a, a < 7 → ∀ b, b < 7 → a ≠ b → (TX0 a).2.1 ≠ (TX0 b).2.1 := by decide +kernel
theorem tyX0_ok : ∀ k, k < 7 → parseFieldDescriptor (TX0 k).2.2.1 = some (tyX0 k) := by decide +kernel
abbrev cX0_init : ByteArray := prog_2_method_1_code
def yX0_init : MethodName := ⟨RX0, "<init>", "()V"⟩
abbrev cX0_append : ByteArray := prog_2_method_2_code
def yX0_append : MethodName := ⟨RX0, "append", "(C)Z"⟩
abbrev cX0_readInto : ByteArray := prog_2_method_3_code
def yX0_readInto : MethodName := ⟨RX0, "readInto", "(LCaptainTides$State;)I"⟩
abbrev cX0_takes : ByteArray := prog_2_method_4_code
def yX0_takes : MethodName := ⟨RX0, "takes", "(CLCaptainTides$State;)Z"⟩
abbrev cX0_takesCaptain : ByteArray := prog_2_method_5_code
def yX0_takesCaptain : MethodName := ⟨RX0, "takesCaptain", "(C)Z"⟩
abbrev cX0_takesLetter : ByteArray := prog_2_method_6_code
def yX0_takesLetter : MethodName := ⟨RX0, "takesLetter", "(C)Z"⟩
abbrev cX0_takesFirstDigit : ByteArray := prog_2_method_7_code
def yX0_takesFirstDigit : MethodName := ⟨RX0, "takesFirstDigit", "(CLCaptainTides$State;)Z"⟩
abbrev cX0_takesBehindDigit : ByteArray := prog_2_method_8_code
def yX0_takesBehindDigit : MethodName := ⟨RX0, "takesBehindDigit", "(CLCaptainTides$State;)Z"⟩
abbrev cX0_tellsNumber : ByteArray := prog_2_method_9_code
def yX0_tellsNumber : MethodName := ⟨RX0, "tellsNumber", "(LCaptainTides$State;)Z"⟩
abbrev cX0_digitOf : ByteArray := prog_2_method_10_code
def yX0_digitOf : MethodName := ⟨RX0, "digitOf", "(C)I"⟩
abbrev cX0_whatOf : ByteArray := prog_2_method_11_code
def yX0_whatOf : MethodName := ⟨RX0, "whatOf", "(C)I"⟩
def RX1 : String := "CaptainTides$Board"
def TX1 : u_T := fun k => match k with
  | 0 => ("CaptainTides$Board", "timetables", "[LCaptainTides$Timetable;", true)
  | _ => ("CaptainTides$Board", "users", "[I", true)
def tyX1 : Nat → FieldType := fun k => match k with
  | 0 => .array (.object "CaptainTides$Timetable")
  | _ => .array .int
theorem nmX1 : ∀ a, a < 2 → ∀ b, b < 2 → a ≠ b → (TX1 a).2.1 ≠ (TX1 b).2.1 := by decide +kernel
theorem tyX1_ok : ∀ k, k < 2 → parseFieldDescriptor (TX1 k).2.2.1 = some (tyX1 k) := by decide +kernel
abbrev cX1_init : ByteArray := prog_3_method_1_code
def yX1_init : MethodName := ⟨RX1, "<init>", "()V"⟩
abbrev cX1_placeOf : ByteArray := prog_3_method_2_code
def yX1_placeOf : MethodName := ⟨RX1, "placeOf", "(II)I"⟩
abbrev cX1_print : ByteArray := prog_3_method_3_code
def yX1_print : MethodName := ⟨RX1, "print", "(LCaptainTides$State;)V"⟩
abbrev cX1_noteUses : ByteArray := prog_3_method_4_code
def yX1_noteUses : MethodName := ⟨RX1, "noteUses", "(LCaptainTides$Timetable;I)V"⟩
abbrev cX1_noteUse : ByteArray := prog_3_method_5_code
def yX1_noteUse : MethodName := ⟨RX1, "noteUse", "(II)V"⟩
abbrev cX1_usersAt : ByteArray := prog_3_method_6_code
def yX1_usersAt : MethodName := ⟨RX1, "usersAt", "(I)I"⟩
abbrev cX1_isClash : ByteArray := prog_3_method_7_code
def yX1_isClash : MethodName := ⟨RX1, "isClash", "(I)Z"⟩
abbrev cX1_clashes : ByteArray := prog_3_method_8_code
def yX1_clashes : MethodName := ⟨RX1, "clashes", "()I"⟩
abbrev cX1_placeOfClash : ByteArray := prog_3_method_9_code
def yX1_placeOfClash : MethodName := ⟨RX1, "placeOfClash", "(I)I"⟩
abbrev cX1_crossings : ByteArray := prog_3_method_10_code
def yX1_crossings : MethodName := ⟨RX1, "crossings", "()I"⟩
def RX2 : String := "CaptainTides$Captain"
def TX2 : u_T := fun k => match k with
  | 0 => ("CaptainTides$Captain", "belief", "I", false)
  | 1 => ("CaptainTides$Captain", "draft", "I", false)
  | 2 => ("CaptainTides$Captain", "firstHour", "I", false)
  | 3 => ("CaptainTides$Captain", "home", "I", false)
  | 4 => ("CaptainTides$Captain", "crossingsMade", "I", false)
  | 5 => ("CaptainTides$Captain", "hoursAground", "I", false)
  | 6 => ("CaptainTides$Captain", "hoursLate", "I", false)
  | 7 => ("CaptainTides$Captain", "pardons", "I", false)
  | 8 => ("CaptainTides$Captain", "crossingsCancelled", "I", false)
  | _ => ("CaptainTides$Captain", "lessons", "I", false)
def tyX2 : Nat → FieldType := fun k => match k with
  | 0 => .int
  | 1 => .int
  | 2 => .int
  | 3 => .int
  | 4 => .int
  | 5 => .int
  | 6 => .int
  | 7 => .int
  | 8 => .int
  | _ => .int
theorem nmX2 : ∀ a, a < 10 → ∀ b, b < 10 → a ≠ b → (TX2 a).2.1 ≠ (TX2 b).2.1 := by decide +kernel
theorem tyX2_ok : ∀ k, k < 10 → parseFieldDescriptor (TX2 k).2.2.1 = some (tyX2 k) := by decide +kernel
abbrev cX2_init : ByteArray := prog_4_method_1_code
def yX2_init : MethodName := ⟨RX2, "<init>", "(I)V"⟩
abbrev cX2_tell : ByteArray := prog_4_method_2_code
def yX2_tell : MethodName := ⟨RX2, "tell", "(I)I"⟩
abbrev cX2_change : ByteArray := prog_4_method_3_code
def yX2_change : MethodName := ⟨RX2, "change", "(II)V"⟩
abbrev cX2_endDay : ByteArray := prog_4_method_4_code
def yX2_endDay : MethodName := ⟨RX2, "endDay", "(LCaptainTides$Ferry;)V"⟩
abbrev cX2_learn : ByteArray := prog_4_method_5_code
def yX2_learn : MethodName := ⟨RX2, "learn", "(I)V"⟩
abbrev cX2_copyFrom : ByteArray := prog_4_method_6_code
def yX2_copyFrom : MethodName := ⟨RX2, "copyFrom", "(LCaptainTides$Captain;)V"⟩
def RX3 : String := "CaptainTides$Ferry"
def TX3 : u_T := fun k => match k with
  | 0 => ("CaptainTides$Ferry", "timetable", "LCaptainTides$Timetable;", true)
  | 1 => ("CaptainTides$Ferry", "draft", "I", false)
  | 2 => ("CaptainTides$Ferry", "pier", "I", false)
  | 3 => ("CaptainTides$Ferry", "atSea", "Z", false)
  | 4 => ("CaptainTides$Ferry", "departure", "I", false)
  | 5 => ("CaptainTides$Ferry", "arrivedNow", "Z", false)
  | 6 => ("CaptainTides$Ferry", "wantsNow", "Z", false)
  | 7 => ("CaptainTides$Ferry", "crossingsMade", "I", false)
  | 8 => ("CaptainTides$Ferry", "hoursAground", "I", false)
  | 9 => ("CaptainTides$Ferry", "hoursLate", "I", false)
  | _ => ("CaptainTides$Ferry", "pardons", "I", false)
def tyX3 : Nat → FieldType := fun k => match k with
  | 0 => .object "CaptainTides$Timetable"
  | 1 => .int
  | 2 => .int
  | 3 => .boolean
  | 4 => .int
  | 5 => .boolean
  | 6 => .boolean
  | 7 => .int
  | 8 => .int
  | 9 => .int
  | _ => .int
theorem nmX3 : ∀ a, a < 11 → ∀ b, b < 11 → a ≠ b → (TX3 a).2.1 ≠ (TX3 b).2.1 := by decide +kernel
theorem tyX3_ok : ∀ k, k < 11 → parseFieldDescriptor (TX3 k).2.2.1 = some (tyX3 k) := by decide +kernel
abbrev cX3_init : ByteArray := prog_5_method_1_code
def yX3_init : MethodName := ⟨RX3, "<init>", "()V"⟩
abbrev cX3_beginDay : ByteArray := prog_5_method_2_code
def yX3_beginDay : MethodName := ⟨RX3, "beginDay", "(LCaptainTides$Captain;)V"⟩
abbrev cX3_beginHour : ByteArray := prog_5_method_3_code
def yX3_beginHour : MethodName := ⟨RX3, "beginHour", "(II)V"⟩
abbrev cX3_wantsFrom : ByteArray := prog_5_method_4_code
def yX3_wantsFrom : MethodName := ⟨RX3, "wantsFrom", "(I)Z"⟩
abbrev cX3_arrivedAt : ByteArray := prog_5_method_5_code
def yX3_arrivedAt : MethodName := ⟨RX3, "arrivedAt", "(I)Z"⟩
abbrev cX3_depart : ByteArray := prog_5_method_6_code
def yX3_depart : MethodName := ⟨RX3, "depart", "(I)V"⟩
abbrev cX3_stay : ByteArray := prog_5_method_7_code
def yX3_stay : MethodName := ⟨RX3, "stay", "(Z)V"⟩
abbrev cX3_crossingsLeft : ByteArray := prog_5_method_8_code
def yX3_crossingsLeft : MethodName := ⟨RX3, "crossingsLeft", "()I"⟩
abbrev cX3_isLesson : ByteArray := prog_5_method_9_code
def yX3_isLesson : MethodName := ⟨RX3, "isLesson", "(I)Z"⟩
abbrev cX3_tell : ByteArray := prog_5_method_10_code
def yX3_tell : MethodName := ⟨RX3, "tell", "(I)I"⟩
def RX4 : String := "CaptainTides$SailedDay"
def TX4 : u_T := fun k => match k with
  | 0 => ("CaptainTides$SailedDay", "ferries", "[LCaptainTides$Ferry;", true)
  | 1 => ("CaptainTides$SailedDay", "lot", "I", false)
  | _ => ("CaptainTides$SailedDay", "lotsDrawn", "I", false)
def tyX4 : Nat → FieldType := fun k => match k with
  | 0 => .array (.object "CaptainTides$Ferry")
  | 1 => .int
  | _ => .int
theorem nmX4 : ∀ a, a < 3 → ∀ b, b < 3 → a ≠ b → (TX4 a).2.1 ≠ (TX4 b).2.1 := by decide +kernel
theorem tyX4_ok : ∀ k, k < 3 → parseFieldDescriptor (TX4 k).2.2.1 = some (tyX4 k) := by decide +kernel
abbrev cX4_init : ByteArray := prog_6_method_1_code
def yX4_init : MethodName := ⟨RX4, "<init>", "()V"⟩
abbrev cX4_run : ByteArray := prog_6_method_2_code
def yX4_run : MethodName := ⟨RX4, "run", "(LCaptainTides$State;)V"⟩
abbrev cX4_givePier : ByteArray := prog_6_method_3_code
def yX4_givePier : MethodName := ⟨RX4, "givePier", "(II)V"⟩
abbrev cX4_drawLot : ByteArray := prog_6_method_4_code
def yX4_drawLot : MethodName := ⟨RX4, "drawLot", "(I)I"⟩
abbrev cX4_sumOf : ByteArray := prog_6_method_5_code
def yX4_sumOf : MethodName := ⟨RX4, "sumOf", "(I)I"⟩
abbrev cX4_learners : ByteArray := prog_6_method_6_code
def yX4_learners : MethodName := ⟨RX4, "learners", "(I)I"⟩
def RX5 : String := "CaptainTides$State"
def TX5 : u_T := fun k => match k with
  | 0 => ("CaptainTides$State", "captains", "[LCaptainTides$Captain;", true)
  | 1 => ("CaptainTides$State", "drift", "I", false)
  | 2 => ("CaptainTides$State", "hoursToLearn", "I", false)
  | 3 => ("CaptainTides$State", "phase", "I", false)
  | 4 => ("CaptainTides$State", "lot", "I", false)
  | 5 => ("CaptainTides$State", "lotsDrawn", "I", false)
  | _ => ("CaptainTides$State", "day", "I", false)
def tyX5 : Nat → FieldType := fun k => match k with
  | 0 => .array (.object "CaptainTides$Captain")
  | 1 => .int
  | 2 => .int
  | 3 => .int
  | 4 => .int
  | 5 => .int
  | _ => .int
theorem nmX5 : ∀ a, a < 7 → ∀ b, b < 7 → a ≠ b → (TX5 a).2.1 ≠ (TX5 b).2.1 := by decide +kernel
theorem tyX5_ok : ∀ k, k < 7 → parseFieldDescriptor (TX5 k).2.2.1 = some (tyX5 k) := by decide +kernel
abbrev cX5_init : ByteArray := prog_7_method_1_code
def yX5_init : MethodName := ⟨RX5, "<init>", "()V"⟩
abbrev cX5_sumOf : ByteArray := prog_7_method_2_code
def yX5_sumOf : MethodName := ⟨RX5, "sumOf", "(I)I"⟩
abbrev cX5_endDay : ByteArray := prog_7_method_3_code
def yX5_endDay : MethodName := ⟨RX5, "endDay", "(LCaptainTides$SailedDay;)V"⟩
abbrev cX5_tellSetting : ByteArray := prog_7_method_4_code
def yX5_tellSetting : MethodName := ⟨RX5, "tellSetting", "(I)I"⟩
abbrev cX5_changeSetting : ByteArray := prog_7_method_5_code
def yX5_changeSetting : MethodName := ⟨RX5, "changeSetting", "(II)V"⟩
abbrev cX5_copyFrom : ByteArray := prog_7_method_6_code
def yX5_copyFrom : MethodName := ⟨RX5, "copyFrom", "(LCaptainTides$State;)V"⟩
def RX6 : String := "CaptainTides$Timetable"
def TX6 : u_T := fun k => match k with
  | 0 => ("CaptainTides$Timetable", "hours", "[I", true)
  | 1 => ("CaptainTides$Timetable", "crossings", "I", false)
  | _ => ("CaptainTides$Timetable", "home", "I", false)
def tyX6 : Nat → FieldType := fun k => match k with
  | 0 => .array .int
  | 1 => .int
  | _ => .int
theorem nmX6 : ∀ a, a < 3 → ∀ b, b < 3 → a ≠ b → (TX6 a).2.1 ≠ (TX6 b).2.1 := by decide +kernel
theorem tyX6_ok : ∀ k, k < 3 → parseFieldDescriptor (TX6 k).2.2.1 = some (tyX6 k) := by decide +kernel
abbrev cX6_init : ByteArray := prog_8_method_1_code
def yX6_init : MethodName := ⟨RX6, "<init>", "()V"⟩
abbrev cX6_print : ByteArray := prog_8_method_2_code
def yX6_print : MethodName := ⟨RX6, "print", "(LCaptainTides$Captain;)V"⟩
abbrev cX6_has : ByteArray := prog_8_method_3_code
def yX6_has : MethodName := ⟨RX6, "has", "(I)Z"⟩
abbrev cX6_hourOf : ByteArray := prog_8_method_4_code
def yX6_hourOf : MethodName := ⟨RX6, "hourOf", "(I)I"⟩
abbrev cX6_pierOf : ByteArray := prog_8_method_5_code
def yX6_pierOf : MethodName := ⟨RX6, "pierOf", "(I)I"⟩
def RX7 : String := "CaptainTides"
def TX7 : u_T := fun k => match k with
  | 0 => ("CaptainTides", "now", "LCaptainTides$State;", true)
  | 1 => ("CaptainTides", "snapshot", "LCaptainTides$State;", true)
  | 2 => ("CaptainTides", "hasSnapshot", "Z", false)
  | 3 => ("CaptainTides", "history", "[LCaptainTides$State;", true)
  | 4 => ("CaptainTides", "recorded", "I", false)
  | 5 => ("CaptainTides", "text", "LCaptainTides$BeliefText;", true)
  | 6 => ("CaptainTides", "trial", "LCaptainTides$State;", true)
  | 7 => ("CaptainTides", "board", "LCaptainTides$Board;", true)
  | _ => ("CaptainTides", "sailed", "LCaptainTides$SailedDay;", true)
def tyX7 : Nat → FieldType := fun k => match k with
  | 0 => .object "CaptainTides$State"
  | 1 => .object "CaptainTides$State"
  | 2 => .boolean
  | 3 => .array (.object "CaptainTides$State")
  | 4 => .int
  | 5 => .object "CaptainTides$BeliefText"
  | 6 => .object "CaptainTides$State"
  | 7 => .object "CaptainTides$Board"
  | _ => .object "CaptainTides$SailedDay"
theorem nmX7 : ∀ a, a < 9 → ∀ b, b < 9 → a ≠ b → (TX7 a).2.1 ≠ (TX7 b).2.1 := by decide +kernel
theorem tyX7_ok : ∀ k, k < 9 → parseFieldDescriptor (TX7 k).2.2.1 = some (tyX7 k) := by decide +kernel
abbrev cX7_init : ByteArray := prog_1_method_1_code
def yX7_init : MethodName := ⟨RX7, "<init>", "()V"⟩
abbrev cX7_captain : ByteArray := prog_1_method_2_code
def yX7_captain : MethodName := ⟨RX7, "captain", "(III)I"⟩
abbrev cX7_captains : ByteArray := prog_1_method_3_code
def yX7_captains : MethodName := ⟨RX7, "captains", "()I"⟩
abbrev cX7_truth : ByteArray := prog_1_method_4_code
def yX7_truth : MethodName := ⟨RX7, "truth", "(I)I"⟩
abbrev cX7_set : ByteArray := prog_1_method_5_code
def yX7_set : MethodName := ⟨RX7, "set", "(II)I"⟩
abbrev cX7_lot : ByteArray := prog_1_method_6_code
def yX7_lot : MethodName := ⟨RX7, "lot", "(I)I"⟩
abbrev cX7_sail : ByteArray := prog_1_method_7_code
def yX7_sail : MethodName := ⟨RX7, "sail", "(I)I"⟩
abbrev cX7_type : ByteArray := prog_1_method_8_code
def yX7_type : MethodName := ⟨RX7, "type", "(C)I"⟩
abbrev cX7_clearText : ByteArray := prog_1_method_9_code
def yX7_clearText : MethodName := ⟨RX7, "clearText", "()I"⟩
abbrev cX7_fault : ByteArray := prog_1_method_10_code
def yX7_fault : MethodName := ⟨RX7, "fault", "()I"⟩
abbrev cX7_undo : ByteArray := prog_1_method_11_code
def yX7_undo : MethodName := ⟨RX7, "undo", "()I"⟩
abbrev cX7_keep : ByteArray := prog_1_method_12_code
def yX7_keep : MethodName := ⟨RX7, "keep", "()I"⟩
abbrev cX7_restore : ByteArray := prog_1_method_13_code
def yX7_restore : MethodName := ⟨RX7, "restore", "()I"⟩
abbrev cX7_captainOf : ByteArray := prog_1_method_14_code
def yX7_captainOf : MethodName := ⟨RX7, "captainOf", "(II)I"⟩
abbrev cX7_printed : ByteArray := prog_1_method_15_code
def yX7_printed : MethodName := ⟨RX7, "printed", "(III)I"⟩
abbrev cX7_level : ByteArray := prog_1_method_16_code
def yX7_level : MethodName := ⟨RX7, "level", "(III)I"⟩
abbrev cX7_uses : ByteArray := prog_1_method_17_code
def yX7_uses : MethodName := ⟨RX7, "uses", "(II)I"⟩
abbrev cX7_clash : ByteArray := prog_1_method_18_code
def yX7_clash : MethodName := ⟨RX7, "clash", "(II)I"⟩
abbrev cX7_hours : ByteArray := prog_1_method_19_code
def yX7_hours : MethodName := ⟨RX7, "hours", "(II)I"⟩
abbrev cX7_count : ByteArray := prog_1_method_20_code
def yX7_count : MethodName := ⟨RX7, "count", "(I)I"⟩
abbrev cX7_made : ByteArray := prog_1_method_21_code
def yX7_made : MethodName := ⟨RX7, "made", "()F"⟩
abbrev cX7_ifSailed : ByteArray := prog_1_method_22_code
def yX7_ifSailed : MethodName := ⟨RX7, "ifSailed", "(I)I"⟩
abbrev cX7_bestHour : ByteArray := prog_1_method_23_code
def yX7_bestHour : MethodName := ⟨RX7, "bestHour", "(I)I"⟩
abbrev cX7_bestPhase : ByteArray := prog_1_method_24_code
def yX7_bestPhase : MethodName := ⟨RX7, "bestPhase", "(I)I"⟩
abbrev cX7_isCaptain : ByteArray := prog_1_method_25_code
def yX7_isCaptain : MethodName := ⟨RX7, "isCaptain", "(I)Z"⟩
abbrev cX7_isValueOfCaptain : ByteArray := prog_1_method_26_code
def yX7_isValueOfCaptain : MethodName := ⟨RX7, "isValueOfCaptain", "(II)Z"⟩
abbrev cX7_isValueOfSetting : ByteArray := prog_1_method_27_code
def yX7_isValueOfSetting : MethodName := ⟨RX7, "isValueOfSetting", "(II)Z"⟩
abbrev cX7_isWithin : ByteArray := prog_1_method_28_code
def yX7_isWithin : MethodName := ⟨RX7, "isWithin", "([I[III)Z"⟩
abbrev cX7_levelAt : ByteArray := prog_1_method_29_code
def yX7_levelAt : MethodName := ⟨RX7, "levelAt", "(II)I"⟩
abbrev cX7_levelReached : ByteArray := prog_1_method_30_code
def yX7_levelReached : MethodName := ⟨RX7, "levelReached", "(II)I"⟩
abbrev cX7_hoursWithWater : ByteArray := prog_1_method_31_code
def yX7_hoursWithWater : MethodName := ⟨RX7, "hoursWithWater", "(II)I"⟩
abbrev cX7_timetableOf : ByteArray := prog_1_method_32_code
def yX7_timetableOf : MethodName := ⟨RX7, "timetableOf", "(I)LCaptainTides$Timetable;"⟩
abbrev cX7_record : ByteArray := prog_1_method_33_code
def yX7_record : MethodName := ⟨RX7, "record", "()V"⟩
def RX8 : String := "CaptainTidesModel"
def TX8 : u_T := fun k => match k with
  | 0 => ("CaptainTidesModel", "now", "[I", true)
  | 1 => ("CaptainTidesModel", "slot", "[I", true)
  | 2 => ("CaptainTidesModel", "beside", "[I", true)
  | 3 => ("CaptainTidesModel", "history", "[I", true)
  | 4 => ("CaptainTidesModel", "text", "[I", true)
  | 5 => ("CaptainTidesModel", "hour", "[I", true)
  | 6 => ("CaptainTidesModel", "many", "[I", true)
  | 7 => ("CaptainTidesModel", "pier", "[I", true)
  | 8 => ("CaptainTidesModel", "arrives", "[I", true)
  | 9 => ("CaptainTidesModel", "next", "[I", true)
  | 10 => ("CaptainTidesModel", "ground", "[I", true)
  | 11 => ("CaptainTidesModel", "at", "I", false)
  | 12 => ("CaptainTidesModel", "kept", "I", false)
  | 13 => ("CaptainTidesModel", "length", "I", false)
  | 14 => ("CaptainTidesModel", "isFilled", "Z", false)
  | _ => ("CaptainTidesModel", "learners", "I", false)
def tyX8 : Nat → FieldType := fun k => match k with
  | 0 => .array .int
  | 1 => .array .int
  | 2 => .array .int
  | 3 => .array .int
  | 4 => .array .int
  | 5 => .array .int
  | 6 => .array .int
  | 7 => .array .int
  | 8 => .array .int
  | 9 => .array .int
  | 10 => .array .int
  | 11 => .int
  | 12 => .int
  | 13 => .int
  | 14 => .boolean
  | _ => .int
theorem nmX8 : ∀ a, a < 16 → ∀ b, b < 16 → a ≠ b → (TX8 a).2.1 ≠ (TX8 b).2.1 := by decide +kernel
theorem tyX8_ok : ∀ k, k < 16 → parseFieldDescriptor (TX8 k).2.2.1 = some (tyX8 k) := by decide +kernel
abbrev cX8_init : ByteArray := prog_10_method_1_code
def yX8_init : MethodName := ⟨RX8, "<init>", "()V"⟩
abbrev cX8_in : ByteArray := prog_10_method_2_code
def yX8_in : MethodName := ⟨RX8, "in", "(III)Z"⟩
abbrev cX8_record : ByteArray := prog_10_method_3_code
def yX8_record : MethodName := ⟨RX8, "record", "()V"⟩
abbrev cX8_lay : ByteArray := prog_10_method_4_code
def yX8_lay : MethodName := ⟨RX8, "lay", "()V"⟩
abbrev cX8_takeBack : ByteArray := prog_10_method_5_code
def yX8_takeBack : MethodName := ⟨RX8, "takeBack", "()V"⟩
abbrev cX8_isCaptain : ByteArray := prog_10_method_6_code
def yX8_isCaptain : MethodName := ⟨RX8, "isCaptain", "(I)Z"⟩
abbrev cX8_of : ByteArray := prog_10_method_7_code
def yX8_of : MethodName := ⟨RX8, "of", "(II)I"⟩
abbrev cX8_put : ByteArray := prog_10_method_8_code
def yX8_put : MethodName := ⟨RX8, "put", "(III)V"⟩
abbrev cX8_more : ByteArray := prog_10_method_9_code
def yX8_more : MethodName := ⟨RX8, "more", "(III)V"⟩
abbrev cX8_sumOf : ByteArray := prog_10_method_10_code
def yX8_sumOf : MethodName := ⟨RX8, "sumOf", "(I)I"⟩
abbrev cX8_levelOf : ByteArray := prog_10_method_11_code
def yX8_levelOf : MethodName := ⟨RX8, "levelOf", "(II)I"⟩
abbrev cX8_isEnough : ByteArray := prog_10_method_12_code
def yX8_isEnough : MethodName := ⟨RX8, "isEnough", "(III)Z"⟩
abbrev cX8_print : ByteArray := prog_10_method_13_code
def yX8_print : MethodName := ⟨RX8, "print", "(I)V"⟩
abbrev cX8_printAll : ByteArray := prog_10_method_14_code
def yX8_printAll : MethodName := ⟨RX8, "printAll", "()V"⟩
abbrev cX8_hourOf : ByteArray := prog_10_method_15_code
def yX8_hourOf : MethodName := ⟨RX8, "hourOf", "(II)I"⟩
abbrev cX8_pierOf : ByteArray := prog_10_method_16_code
def yX8_pierOf : MethodName := ⟨RX8, "pierOf", "(II)I"⟩
abbrev cX8_usesPier : ByteArray := prog_10_method_17_code
def yX8_usesPier : MethodName := ⟨RX8, "usesPier", "(III)Z"⟩
abbrev cX8_usesSet : ByteArray := prog_10_method_18_code
def yX8_usesSet : MethodName := ⟨RX8, "usesSet", "(II)I"⟩
abbrev cX8_bits : ByteArray := prog_10_method_19_code
def yX8_bits : MethodName := ⟨RX8, "bits", "(I)I"⟩
abbrev cX8_clashes : ByteArray := prog_10_method_20_code
def yX8_clashes : MethodName := ⟨RX8, "clashes", "()I"⟩
abbrev cX8_isThere : ByteArray := prog_10_method_21_code
def yX8_isThere : MethodName := ⟨RX8, "isThere", "(III)Z"⟩
abbrev cX8_wants : ByteArray := prog_10_method_22_code
def yX8_wants : MethodName := ⟨RX8, "wants", "(II)Z"⟩
abbrev cX8_depart : ByteArray := prog_10_method_23_code
def yX8_depart : MethodName := ⟨RX8, "depart", "(II)V"⟩
abbrev cX8_draw : ByteArray := prog_10_method_24_code
def yX8_draw : MethodName := ⟨RX8, "draw", "(I)I"⟩
abbrev cX8_givePier : ByteArray := prog_10_method_25_code
def yX8_givePier : MethodName := ⟨RX8, "givePier", "(IZI)V"⟩
abbrev cX8_goOn : ByteArray := prog_10_method_26_code
def yX8_goOn : MethodName := ⟨RX8, "goOn", "(I)V"⟩
abbrev cX8_learn : ByteArray := prog_10_method_27_code
def yX8_learn : MethodName := ⟨RX8, "learn", "()V"⟩
abbrev cX8_sailDay : ByteArray := prog_10_method_28_code
def yX8_sailDay : MethodName := ⟨RX8, "sailDay", "()V"⟩
abbrev cX8_least : ByteArray := prog_10_method_29_code
def yX8_least : MethodName := ⟨RX8, "least", "(I)I"⟩
abbrev cX8_most : ByteArray := prog_10_method_30_code
def yX8_most : MethodName := ⟨RX8, "most", "(I)I"⟩
abbrev cX8_captain : ByteArray := prog_10_method_31_code
def yX8_captain : MethodName := ⟨RX8, "captain", "(III)I"⟩
abbrev cX8_change : ByteArray := prog_10_method_32_code
def yX8_change : MethodName := ⟨RX8, "change", "(II)I"⟩
abbrev cX8_truth : ByteArray := prog_10_method_33_code
def yX8_truth : MethodName := ⟨RX8, "truth", "(I)I"⟩
abbrev cX8_set : ByteArray := prog_10_method_34_code
def yX8_set : MethodName := ⟨RX8, "set", "(II)I"⟩
abbrev cX8_lot : ByteArray := prog_10_method_35_code
def yX8_lot : MethodName := ⟨RX8, "lot", "(I)I"⟩
abbrev cX8_sail : ByteArray := prog_10_method_36_code
def yX8_sail : MethodName := ⟨RX8, "sail", "(I)I"⟩
abbrev cX8_type : ByteArray := prog_10_method_37_code
def yX8_type : MethodName := ⟨RX8, "type", "(C)I"⟩
abbrev cX8_clearText : ByteArray := prog_10_method_38_code
def yX8_clearText : MethodName := ⟨RX8, "clearText", "()I"⟩
abbrev cX8_isNext : ByteArray := prog_10_method_39_code
def yX8_isNext : MethodName := ⟨RX8, "isNext", "(II)Z"⟩
abbrev cX8_sign : ByteArray := prog_10_method_40_code
def yX8_sign : MethodName := ⟨RX8, "sign", "(I)Z"⟩
abbrev cX8_number : ByteArray := prog_10_method_41_code
def yX8_number : MethodName := ⟨RX8, "number", "(II)I"⟩
abbrev cX8_aboutOf : ByteArray := prog_10_method_42_code
def yX8_aboutOf : MethodName := ⟨RX8, "aboutOf", "()I"⟩
abbrev cX8_readPart : ByteArray := prog_10_method_43_code
def yX8_readPart : MethodName := ⟨RX8, "readPart", "(Z)Z"⟩
abbrev cX8_readAll : ByteArray := prog_10_method_44_code
def yX8_readAll : MethodName := ⟨RX8, "readAll", "()I"⟩
abbrev cX8_fault : ByteArray := prog_10_method_45_code
def yX8_fault : MethodName := ⟨RX8, "fault", "()I"⟩
abbrev cX8_captains : ByteArray := prog_10_method_46_code
def yX8_captains : MethodName := ⟨RX8, "captains", "()I"⟩
abbrev cX8_undo : ByteArray := prog_10_method_47_code
def yX8_undo : MethodName := ⟨RX8, "undo", "()I"⟩
abbrev cX8_keep : ByteArray := prog_10_method_48_code
def yX8_keep : MethodName := ⟨RX8, "keep", "()I"⟩
abbrev cX8_restore : ByteArray := prog_10_method_49_code
def yX8_restore : MethodName := ⟨RX8, "restore", "()I"⟩
abbrev cX8_captainOf : ByteArray := prog_10_method_50_code
def yX8_captainOf : MethodName := ⟨RX8, "captainOf", "(II)I"⟩
abbrev cX8_printed : ByteArray := prog_10_method_51_code
def yX8_printed : MethodName := ⟨RX8, "printed", "(III)I"⟩
abbrev cX8_level : ByteArray := prog_10_method_52_code
def yX8_level : MethodName := ⟨RX8, "level", "(III)I"⟩
abbrev cX8_uses : ByteArray := prog_10_method_53_code
def yX8_uses : MethodName := ⟨RX8, "uses", "(II)I"⟩
abbrev cX8_clash : ByteArray := prog_10_method_54_code
def yX8_clash : MethodName := ⟨RX8, "clash", "(II)I"⟩
abbrev cX8_hours : ByteArray := prog_10_method_55_code
def yX8_hours : MethodName := ⟨RX8, "hours", "(II)I"⟩
abbrev cX8_count : ByteArray := prog_10_method_56_code
def yX8_count : MethodName := ⟨RX8, "count", "(I)I"⟩
abbrev cX8_made : ByteArray := prog_10_method_57_code
def yX8_made : MethodName := ⟨RX8, "made", "()F"⟩
abbrev cX8_told : ByteArray := prog_10_method_58_code
def yX8_told : MethodName := ⟨RX8, "told", "(I)I"⟩
abbrev cX8_ifSailed : ByteArray := prog_10_method_59_code
def yX8_ifSailed : MethodName := ⟨RX8, "ifSailed", "(I)I"⟩
abbrev cX8_bestHour : ByteArray := prog_10_method_60_code
def yX8_bestHour : MethodName := ⟨RX8, "bestHour", "(I)I"⟩
abbrev cX8_bestPhase : ByteArray := prog_10_method_61_code
def yX8_bestPhase : MethodName := ⟨RX8, "bestPhase", "(I)I"⟩
def RJ6 : String := "java/lang/Integer"
def TJ6 : u_T := fun k => match k with
  | _ => ("", "", "", false)
def tyJ6 : Nat → FieldType := fun k => match k with
  | _ => .int
theorem nmJ6 : ∀ a, a < 0 → ∀ b, b < 0 → a ≠ b → (TJ6 a).2.1 ≠ (TJ6 b).2.1 := by decide +kernel
theorem tyJ6_ok : ∀ k, k < 0 → parseFieldDescriptor (TJ6 k).2.2.1 = some (tyJ6 k) := by decide +kernel
abbrev cJ6_bitCount_0f7a4 : ByteArray := prog_11_method_49_code
def yJ6_bitCount_0f7a4 : MethodName := ⟨RJ6, "bitCount", "(I)I"⟩
def RJ9 : String := "java/lang/Math"
def TJ9 : u_T := fun k => match k with
  | _ => ("", "", "", false)
def tyJ9 : Nat → FieldType := fun k => match k with
  | _ => .int
theorem nmJ9 : ∀ a, a < 0 → ∀ b, b < 0 → a ≠ b → (TJ9 a).2.1 ≠ (TJ9 b).2.1 := by decide +kernel
theorem tyJ9_ok : ∀ k, k < 0 → parseFieldDescriptor (TJ9 k).2.2.1 = some (tyJ9 k) := by decide +kernel
abbrev cJ9_abs_0f7a4 : ByteArray := prog_12_method_59_code
def yJ9_abs_0f7a4 : MethodName := ⟨RJ9, "abs", "(I)I"⟩
def RL : String := "CaptainTidesLaw"
abbrev cL_law : ByteArray := code
def yL_law : MethodName := ⟨RL, "law", "([I)Z"⟩
abbrev vwCl : List vw_C := [(RX0, TX0, 7), (RX1, TX1, 2), (RX2, TX2, 10), (RX3, TX3, 11), (RX4, TX4, 3), (RX5, TX5, 7), (RX6, TX6, 3), (RX7, TX7, 9), (RX8, TX8, 16)]
