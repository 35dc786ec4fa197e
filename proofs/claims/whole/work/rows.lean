section
-- ===== PART A: goes FIRST, ahead of the names: the tables' words, and 'selects' of the private methods out of them =====
/-- a private method of a class that the tables say can be made, by its rows of tables_1 -/
def lw_okq (q : MethodName × Nat) : Prop := (q.1.cls ≠ "java/lang/invoke/MethodHandle" ∧ q.1.cls ≠ "java/lang/invoke/VarHandle") ∧ Cond.instantiable q.1.cls q.2 ∈ tables_1 ∧ Cond.privateMethod q.1 ∈ tables_1 ∧ Cond.instanceMethod q.1 ∈ tables_1
theorem lw_p0 : lw_okq (⟨"CaptainTides", "record", "()V"⟩, 9) := ⟨⟨by decide +kernel, by decide +kernel⟩, List.mem_of_getElem? (i := 13) (by decide +kernel), List.mem_of_getElem? (i := 290) (by decide +kernel), List.mem_of_getElem? (i := 291) (by decide +kernel)⟩
theorem lw_p1 : lw_okq (⟨"CaptainTides$BeliefText", "takes", "(CLCaptainTides$State;)Z"⟩, 7) := ⟨⟨by decide +kernel, by decide +kernel⟩, List.mem_of_getElem? (i := 108) (by decide +kernel), List.mem_of_getElem? (i := 314) (by decide +kernel), List.mem_of_getElem? (i := 315) (by decide +kernel)⟩
theorem lw_p2 : lw_okq (⟨"CaptainTides$BeliefText", "takesCaptain", "(C)Z"⟩, 7) := ⟨⟨by decide +kernel, by decide +kernel⟩, List.mem_of_getElem? (i := 108) (by decide +kernel), List.mem_of_getElem? (i := 318) (by decide +kernel), List.mem_of_getElem? (i := 319) (by decide +kernel)⟩
theorem lw_p3 : lw_okq (⟨"CaptainTides$BeliefText", "takesLetter", "(C)Z"⟩, 7) := ⟨⟨by decide +kernel, by decide +kernel⟩, List.mem_of_getElem? (i := 108) (by decide +kernel), List.mem_of_getElem? (i := 326) (by decide +kernel), List.mem_of_getElem? (i := 327) (by decide +kernel)⟩
theorem lw_p4 : lw_okq (⟨"CaptainTides$BeliefText", "takesFirstDigit", "(CLCaptainTides$State;)Z"⟩, 7) := ⟨⟨by decide +kernel, by decide +kernel⟩, List.mem_of_getElem? (i := 108) (by decide +kernel), List.mem_of_getElem? (i := 333) (by decide +kernel), List.mem_of_getElem? (i := 334) (by decide +kernel)⟩
theorem lw_p5 : lw_okq (⟨"CaptainTides$BeliefText", "tellsNumber", "(LCaptainTides$State;)Z"⟩, 7) := ⟨⟨by decide +kernel, by decide +kernel⟩, List.mem_of_getElem? (i := 108) (by decide +kernel), List.mem_of_getElem? (i := 337) (by decide +kernel), List.mem_of_getElem? (i := 338) (by decide +kernel)⟩
theorem lw_p6 : lw_okq (⟨"CaptainTides$BeliefText", "takesBehindDigit", "(CLCaptainTides$State;)Z"⟩, 7) := ⟨⟨by decide +kernel, by decide +kernel⟩, List.mem_of_getElem? (i := 108) (by decide +kernel), List.mem_of_getElem? (i := 343) (by decide +kernel), List.mem_of_getElem? (i := 344) (by decide +kernel)⟩
theorem lw_p7 : lw_okq (⟨"CaptainTides$SailedDay", "givePier", "(II)V"⟩, 3) := ⟨⟨by decide +kernel, by decide +kernel⟩, List.mem_of_getElem? (i := 174) (by decide +kernel), List.mem_of_getElem? (i := 411) (by decide +kernel), List.mem_of_getElem? (i := 412) (by decide +kernel)⟩
theorem lw_p8 : lw_okq (⟨"CaptainTides$SailedDay", "drawLot", "(I)I"⟩, 3) := ⟨⟨by decide +kernel, by decide +kernel⟩, List.mem_of_getElem? (i := 174) (by decide +kernel), List.mem_of_getElem? (i := 423) (by decide +kernel), List.mem_of_getElem? (i := 424) (by decide +kernel)⟩
theorem lw_p9 : lw_okq (⟨"CaptainTides", "timetableOf", "(I)LCaptainTides$Timetable;"⟩, 9) := ⟨⟨by decide +kernel, by decide +kernel⟩, List.mem_of_getElem? (i := 13) (by decide +kernel), List.mem_of_getElem? (i := 497) (by decide +kernel), List.mem_of_getElem? (i := 498) (by decide +kernel)⟩
theorem lw_p10 : lw_okq (⟨"CaptainTides$Board", "noteUses", "(LCaptainTides$Timetable;I)V"⟩, 2) := ⟨⟨by decide +kernel, by decide +kernel⟩, List.mem_of_getElem? (i := 139) (by decide +kernel), List.mem_of_getElem? (i := 506) (by decide +kernel), List.mem_of_getElem? (i := 507) (by decide +kernel)⟩
theorem lw_p11 : lw_okq (⟨"CaptainTides$Board", "noteUse", "(II)V"⟩, 2) := ⟨⟨by decide +kernel, by decide +kernel⟩, List.mem_of_getElem? (i := 139) (by decide +kernel), List.mem_of_getElem? (i := 518) (by decide +kernel), List.mem_of_getElem? (i := 519) (by decide +kernel)⟩
theorem lw_p12 : lw_okq (⟨"CaptainTides$Board", "isClash", "(I)Z"⟩, 2) := ⟨⟨by decide +kernel, by decide +kernel⟩, List.mem_of_getElem? (i := 139) (by decide +kernel), List.mem_of_getElem? (i := 554) (by decide +kernel), List.mem_of_getElem? (i := 555) (by decide +kernel)⟩
theorem lw_p13 : lw_okq (⟨"CaptainTidesModel", "put", "(III)V"⟩, 16) := ⟨⟨by decide +kernel, by decide +kernel⟩, List.mem_of_getElem? (i := 610) (by decide +kernel), List.mem_of_getElem? (i := 616) (by decide +kernel), List.mem_of_getElem? (i := 617) (by decide +kernel)⟩
theorem lw_p14 : lw_okq (⟨"CaptainTidesModel", "of", "(II)I"⟩, 16) := ⟨⟨by decide +kernel, by decide +kernel⟩, List.mem_of_getElem? (i := 610) (by decide +kernel), List.mem_of_getElem? (i := 685) (by decide +kernel), List.mem_of_getElem? (i := 686) (by decide +kernel)⟩
theorem lw_p15 : lw_okq (⟨"CaptainTidesModel", "record", "()V"⟩, 16) := ⟨⟨by decide +kernel, by decide +kernel⟩, List.mem_of_getElem? (i := 610) (by decide +kernel), List.mem_of_getElem? (i := 689) (by decide +kernel), List.mem_of_getElem? (i := 690) (by decide +kernel)⟩
def lw_privs_1 : List (MethodName × Nat) := [(⟨"CaptainTides", "record", "()V"⟩, 9), (⟨"CaptainTides$BeliefText", "takes", "(CLCaptainTides$State;)Z"⟩, 7), (⟨"CaptainTides$BeliefText", "takesCaptain", "(C)Z"⟩, 7), (⟨"CaptainTides$BeliefText", "takesLetter", "(C)Z"⟩, 7), (⟨"CaptainTides$BeliefText", "takesFirstDigit", "(CLCaptainTides$State;)Z"⟩, 7), (⟨"CaptainTides$BeliefText", "tellsNumber", "(LCaptainTides$State;)Z"⟩, 7), (⟨"CaptainTides$BeliefText", "takesBehindDigit", "(CLCaptainTides$State;)Z"⟩, 7), (⟨"CaptainTides$SailedDay", "givePier", "(II)V"⟩, 3), (⟨"CaptainTides$SailedDay", "drawLot", "(I)I"⟩, 3), (⟨"CaptainTides", "timetableOf", "(I)LCaptainTides$Timetable;"⟩, 9), (⟨"CaptainTides$Board", "noteUses", "(LCaptainTides$Timetable;I)V"⟩, 2), (⟨"CaptainTides$Board", "noteUse", "(II)V"⟩, 2), (⟨"CaptainTides$Board", "isClash", "(I)Z"⟩, 2), (⟨"CaptainTidesModel", "put", "(III)V"⟩, 16), (⟨"CaptainTidesModel", "of", "(II)I"⟩, 16), (⟨"CaptainTidesModel", "record", "()V"⟩, 16)]
theorem lw_r1 : ∀ q ∈ lw_privs_1, lw_okq q := List.forall_mem_cons.mpr ⟨lw_p0, List.forall_mem_cons.mpr ⟨lw_p1, List.forall_mem_cons.mpr ⟨lw_p2, List.forall_mem_cons.mpr ⟨lw_p3, List.forall_mem_cons.mpr ⟨lw_p4, List.forall_mem_cons.mpr ⟨lw_p5, List.forall_mem_cons.mpr ⟨lw_p6, List.forall_mem_cons.mpr ⟨lw_p7, List.forall_mem_cons.mpr ⟨lw_p8, List.forall_mem_cons.mpr ⟨lw_p9, List.forall_mem_cons.mpr ⟨lw_p10, List.forall_mem_cons.mpr ⟨lw_p11, List.forall_mem_cons.mpr ⟨lw_p12, List.forall_mem_cons.mpr ⟨lw_p13, List.forall_mem_cons.mpr ⟨lw_p14, List.forall_mem_cons.mpr ⟨lw_p15, fun _ h => absurd h List.not_mem_nil⟩⟩⟩⟩⟩⟩⟩⟩⟩⟩⟩⟩⟩⟩⟩⟩
theorem lw_p16 : lw_okq (⟨"CaptainTidesModel", "change", "(II)I"⟩, 16) := ⟨⟨by decide +kernel, by decide +kernel⟩, List.mem_of_getElem? (i := 610) (by decide +kernel), List.mem_of_getElem? (i := 697) (by decide +kernel), List.mem_of_getElem? (i := 698) (by decide +kernel)⟩
theorem lw_p17 : lw_okq (⟨"CaptainTidesModel", "sumOf", "(I)I"⟩, 16) := ⟨⟨by decide +kernel, by decide +kernel⟩, List.mem_of_getElem? (i := 610) (by decide +kernel), List.mem_of_getElem? (i := 714) (by decide +kernel), List.mem_of_getElem? (i := 715) (by decide +kernel)⟩
theorem lw_p18 : lw_okq (⟨"CaptainTidesModel", "sailDay", "()V"⟩, 16) := ⟨⟨by decide +kernel, by decide +kernel⟩, List.mem_of_getElem? (i := 610) (by decide +kernel), List.mem_of_getElem? (i := 718) (by decide +kernel), List.mem_of_getElem? (i := 719) (by decide +kernel)⟩
theorem lw_p19 : lw_okq (⟨"CaptainTidesModel", "printAll", "()V"⟩, 16) := ⟨⟨by decide +kernel, by decide +kernel⟩, List.mem_of_getElem? (i := 610) (by decide +kernel), List.mem_of_getElem? (i := 722) (by decide +kernel), List.mem_of_getElem? (i := 723) (by decide +kernel)⟩
theorem lw_p20 : lw_okq (⟨"CaptainTidesModel", "print", "(I)V"⟩, 16) := ⟨⟨by decide +kernel, by decide +kernel⟩, List.mem_of_getElem? (i := 610) (by decide +kernel), List.mem_of_getElem? (i := 726) (by decide +kernel), List.mem_of_getElem? (i := 727) (by decide +kernel)⟩
theorem lw_p21 : lw_okq (⟨"CaptainTidesModel", "isEnough", "(III)Z"⟩, 16) := ⟨⟨by decide +kernel, by decide +kernel⟩, List.mem_of_getElem? (i := 610) (by decide +kernel), List.mem_of_getElem? (i := 730) (by decide +kernel), List.mem_of_getElem? (i := 731) (by decide +kernel)⟩
theorem lw_p22 : lw_okq (⟨"CaptainTidesModel", "goOn", "(I)V"⟩, 16) := ⟨⟨by decide +kernel, by decide +kernel⟩, List.mem_of_getElem? (i := 610) (by decide +kernel), List.mem_of_getElem? (i := 737) (by decide +kernel), List.mem_of_getElem? (i := 738) (by decide +kernel)⟩
theorem lw_p23 : lw_okq (⟨"CaptainTidesModel", "wants", "(II)Z"⟩, 16) := ⟨⟨by decide +kernel, by decide +kernel⟩, List.mem_of_getElem? (i := 610) (by decide +kernel), List.mem_of_getElem? (i := 741) (by decide +kernel), List.mem_of_getElem? (i := 742) (by decide +kernel)⟩
theorem lw_p24 : lw_okq (⟨"CaptainTidesModel", "hourOf", "(II)I"⟩, 16) := ⟨⟨by decide +kernel, by decide +kernel⟩, List.mem_of_getElem? (i := 610) (by decide +kernel), List.mem_of_getElem? (i := 745) (by decide +kernel), List.mem_of_getElem? (i := 746) (by decide +kernel)⟩
theorem lw_p25 : lw_okq (⟨"CaptainTidesModel", "more", "(III)V"⟩, 16) := ⟨⟨by decide +kernel, by decide +kernel⟩, List.mem_of_getElem? (i := 610) (by decide +kernel), List.mem_of_getElem? (i := 749) (by decide +kernel), List.mem_of_getElem? (i := 750) (by decide +kernel)⟩
theorem lw_p26 : lw_okq (⟨"CaptainTidesModel", "isThere", "(III)Z"⟩, 16) := ⟨⟨by decide +kernel, by decide +kernel⟩, List.mem_of_getElem? (i := 610) (by decide +kernel), List.mem_of_getElem? (i := 753) (by decide +kernel), List.mem_of_getElem? (i := 754) (by decide +kernel)⟩
theorem lw_p27 : lw_okq (⟨"CaptainTidesModel", "givePier", "(IZI)V"⟩, 16) := ⟨⟨by decide +kernel, by decide +kernel⟩, List.mem_of_getElem? (i := 610) (by decide +kernel), List.mem_of_getElem? (i := 757) (by decide +kernel), List.mem_of_getElem? (i := 758) (by decide +kernel)⟩
theorem lw_p28 : lw_okq (⟨"CaptainTidesModel", "draw", "(I)I"⟩, 16) := ⟨⟨by decide +kernel, by decide +kernel⟩, List.mem_of_getElem? (i := 610) (by decide +kernel), List.mem_of_getElem? (i := 764) (by decide +kernel), List.mem_of_getElem? (i := 765) (by decide +kernel)⟩
theorem lw_p29 : lw_okq (⟨"CaptainTidesModel", "depart", "(II)V"⟩, 16) := ⟨⟨by decide +kernel, by decide +kernel⟩, List.mem_of_getElem? (i := 610) (by decide +kernel), List.mem_of_getElem? (i := 769) (by decide +kernel), List.mem_of_getElem? (i := 770) (by decide +kernel)⟩
theorem lw_p30 : lw_okq (⟨"CaptainTidesModel", "learn", "()V"⟩, 16) := ⟨⟨by decide +kernel, by decide +kernel⟩, List.mem_of_getElem? (i := 610) (by decide +kernel), List.mem_of_getElem? (i := 773) (by decide +kernel), List.mem_of_getElem? (i := 774) (by decide +kernel)⟩
theorem lw_p31 : lw_okq (⟨"CaptainTidesModel", "readAll", "()I"⟩, 16) := ⟨⟨by decide +kernel, by decide +kernel⟩, List.mem_of_getElem? (i := 610) (by decide +kernel), List.mem_of_getElem? (i := 789) (by decide +kernel), List.mem_of_getElem? (i := 790) (by decide +kernel)⟩
def lw_privs_2 : List (MethodName × Nat) := [(⟨"CaptainTidesModel", "change", "(II)I"⟩, 16), (⟨"CaptainTidesModel", "sumOf", "(I)I"⟩, 16), (⟨"CaptainTidesModel", "sailDay", "()V"⟩, 16), (⟨"CaptainTidesModel", "printAll", "()V"⟩, 16), (⟨"CaptainTidesModel", "print", "(I)V"⟩, 16), (⟨"CaptainTidesModel", "isEnough", "(III)Z"⟩, 16), (⟨"CaptainTidesModel", "goOn", "(I)V"⟩, 16), (⟨"CaptainTidesModel", "wants", "(II)Z"⟩, 16), (⟨"CaptainTidesModel", "hourOf", "(II)I"⟩, 16), (⟨"CaptainTidesModel", "more", "(III)V"⟩, 16), (⟨"CaptainTidesModel", "isThere", "(III)Z"⟩, 16), (⟨"CaptainTidesModel", "givePier", "(IZI)V"⟩, 16), (⟨"CaptainTidesModel", "draw", "(I)I"⟩, 16), (⟨"CaptainTidesModel", "depart", "(II)V"⟩, 16), (⟨"CaptainTidesModel", "learn", "()V"⟩, 16), (⟨"CaptainTidesModel", "readAll", "()I"⟩, 16)]
theorem lw_r2 : ∀ q ∈ lw_privs_2, lw_okq q := List.forall_mem_cons.mpr ⟨lw_p16, List.forall_mem_cons.mpr ⟨lw_p17, List.forall_mem_cons.mpr ⟨lw_p18, List.forall_mem_cons.mpr ⟨lw_p19, List.forall_mem_cons.mpr ⟨lw_p20, List.forall_mem_cons.mpr ⟨lw_p21, List.forall_mem_cons.mpr ⟨lw_p22, List.forall_mem_cons.mpr ⟨lw_p23, List.forall_mem_cons.mpr ⟨lw_p24, List.forall_mem_cons.mpr ⟨lw_p25, List.forall_mem_cons.mpr ⟨lw_p26, List.forall_mem_cons.mpr ⟨lw_p27, List.forall_mem_cons.mpr ⟨lw_p28, List.forall_mem_cons.mpr ⟨lw_p29, List.forall_mem_cons.mpr ⟨lw_p30, List.forall_mem_cons.mpr ⟨lw_p31, fun _ h => absurd h List.not_mem_nil⟩⟩⟩⟩⟩⟩⟩⟩⟩⟩⟩⟩⟩⟩⟩⟩
theorem lw_p32 : lw_okq (⟨"CaptainTidesModel", "readPart", "(Z)Z"⟩, 16) := ⟨⟨by decide +kernel, by decide +kernel⟩, List.mem_of_getElem? (i := 610) (by decide +kernel), List.mem_of_getElem? (i := 793) (by decide +kernel), List.mem_of_getElem? (i := 794) (by decide +kernel)⟩
theorem lw_p33 : lw_okq (⟨"CaptainTidesModel", "number", "(II)I"⟩, 16) := ⟨⟨by decide +kernel, by decide +kernel⟩, List.mem_of_getElem? (i := 610) (by decide +kernel), List.mem_of_getElem? (i := 797) (by decide +kernel), List.mem_of_getElem? (i := 798) (by decide +kernel)⟩
theorem lw_p34 : lw_okq (⟨"CaptainTidesModel", "isNext", "(II)Z"⟩, 16) := ⟨⟨by decide +kernel, by decide +kernel⟩, List.mem_of_getElem? (i := 610) (by decide +kernel), List.mem_of_getElem? (i := 801) (by decide +kernel), List.mem_of_getElem? (i := 802) (by decide +kernel)⟩
theorem lw_p35 : lw_okq (⟨"CaptainTidesModel", "sign", "(I)Z"⟩, 16) := ⟨⟨by decide +kernel, by decide +kernel⟩, List.mem_of_getElem? (i := 610) (by decide +kernel), List.mem_of_getElem? (i := 805) (by decide +kernel), List.mem_of_getElem? (i := 806) (by decide +kernel)⟩
theorem lw_p36 : lw_okq (⟨"CaptainTidesModel", "aboutOf", "()I"⟩, 16) := ⟨⟨by decide +kernel, by decide +kernel⟩, List.mem_of_getElem? (i := 610) (by decide +kernel), List.mem_of_getElem? (i := 809) (by decide +kernel), List.mem_of_getElem? (i := 810) (by decide +kernel)⟩
theorem lw_p37 : lw_okq (⟨"CaptainTidesModel", "pierOf", "(II)I"⟩, 16) := ⟨⟨by decide +kernel, by decide +kernel⟩, List.mem_of_getElem? (i := 610) (by decide +kernel), List.mem_of_getElem? (i := 837) (by decide +kernel), List.mem_of_getElem? (i := 838) (by decide +kernel)⟩
theorem lw_p38 : lw_okq (⟨"CaptainTidesModel", "usesSet", "(II)I"⟩, 16) := ⟨⟨by decide +kernel, by decide +kernel⟩, List.mem_of_getElem? (i := 610) (by decide +kernel), List.mem_of_getElem? (i := 849) (by decide +kernel), List.mem_of_getElem? (i := 850) (by decide +kernel)⟩
theorem lw_p39 : lw_okq (⟨"CaptainTidesModel", "usesPier", "(III)Z"⟩, 16) := ⟨⟨by decide +kernel, by decide +kernel⟩, List.mem_of_getElem? (i := 610) (by decide +kernel), List.mem_of_getElem? (i := 853) (by decide +kernel), List.mem_of_getElem? (i := 854) (by decide +kernel)⟩
theorem lw_p40 : lw_okq (⟨"CaptainTidesModel", "clashes", "()I"⟩, 16) := ⟨⟨by decide +kernel, by decide +kernel⟩, List.mem_of_getElem? (i := 610) (by decide +kernel), List.mem_of_getElem? (i := 869) (by decide +kernel), List.mem_of_getElem? (i := 870) (by decide +kernel)⟩
theorem lw_p41 : lw_okq (⟨"CaptainTidesModel", "lay", "()V"⟩, 16) := ⟨⟨by decide +kernel, by decide +kernel⟩, List.mem_of_getElem? (i := 610) (by decide +kernel), List.mem_of_getElem? (i := 881) (by decide +kernel), List.mem_of_getElem? (i := 882) (by decide +kernel)⟩
theorem lw_p42 : lw_okq (⟨"CaptainTidesModel", "told", "(I)I"⟩, 16) := ⟨⟨by decide +kernel, by decide +kernel⟩, List.mem_of_getElem? (i := 610) (by decide +kernel), List.mem_of_getElem? (i := 885) (by decide +kernel), List.mem_of_getElem? (i := 886) (by decide +kernel)⟩
theorem lw_p43 : lw_okq (⟨"CaptainTidesModel", "takeBack", "()V"⟩, 16) := ⟨⟨by decide +kernel, by decide +kernel⟩, List.mem_of_getElem? (i := 610) (by decide +kernel), List.mem_of_getElem? (i := 889) (by decide +kernel), List.mem_of_getElem? (i := 890) (by decide +kernel)⟩
def lw_privs_3 : List (MethodName × Nat) := [(⟨"CaptainTidesModel", "readPart", "(Z)Z"⟩, 16), (⟨"CaptainTidesModel", "number", "(II)I"⟩, 16), (⟨"CaptainTidesModel", "isNext", "(II)Z"⟩, 16), (⟨"CaptainTidesModel", "sign", "(I)Z"⟩, 16), (⟨"CaptainTidesModel", "aboutOf", "()I"⟩, 16), (⟨"CaptainTidesModel", "pierOf", "(II)I"⟩, 16), (⟨"CaptainTidesModel", "usesSet", "(II)I"⟩, 16), (⟨"CaptainTidesModel", "usesPier", "(III)Z"⟩, 16), (⟨"CaptainTidesModel", "clashes", "()I"⟩, 16), (⟨"CaptainTidesModel", "lay", "()V"⟩, 16), (⟨"CaptainTidesModel", "told", "(I)I"⟩, 16), (⟨"CaptainTidesModel", "takeBack", "()V"⟩, 16)]
theorem lw_r3 : ∀ q ∈ lw_privs_3, lw_okq q := List.forall_mem_cons.mpr ⟨lw_p32, List.forall_mem_cons.mpr ⟨lw_p33, List.forall_mem_cons.mpr ⟨lw_p34, List.forall_mem_cons.mpr ⟨lw_p35, List.forall_mem_cons.mpr ⟨lw_p36, List.forall_mem_cons.mpr ⟨lw_p37, List.forall_mem_cons.mpr ⟨lw_p38, List.forall_mem_cons.mpr ⟨lw_p39, List.forall_mem_cons.mpr ⟨lw_p40, List.forall_mem_cons.mpr ⟨lw_p41, List.forall_mem_cons.mpr ⟨lw_p42, List.forall_mem_cons.mpr ⟨lw_p43, fun _ h => absurd h List.not_mem_nil⟩⟩⟩⟩⟩⟩⟩⟩⟩⟩⟩⟩
def lw_privs : List (MethodName × Nat) := lw_privs_1 ++ (lw_privs_2 ++ (lw_privs_3))
def lw_tbl : List Cond := k2_sels lw_privs ++ tables_1
theorem lw_privs_ok : ∀ q ∈ lw_privs, lw_okq q := by
  show ∀ q ∈ lw_privs_1 ++ (lw_privs_2 ++ (lw_privs_3)), lw_okq q
  exact List.forall_mem_append.mpr ⟨lw_r1, List.forall_mem_append.mpr ⟨lw_r2, lw_r3⟩⟩
/-- the streams that the claim lets the run draw from -/
abbrev lw_cs : List Choice := [Jvm.Choice.named "NaN.bits"]
theorem lw_bits : nanBits ∈ lw_cs := by first | decide | exact List.mem_cons_self | simp [lw_cs, nanBits]

def RX0 : String := "CaptainTides$BeliefText"
def TX0 : u_T := fun k => match k with
  | 0 => ("CaptainTides$BeliefText", "signs", "[C", true)
  | 1 => ("CaptainTides$BeliefText", "length", "I", false)
  | 2 => ("CaptainTides$BeliefText", "parts", "I", false)
  | 3 => ("CaptainTides$BeliefText", "place", "I", false)
  | 4 => ("CaptainTides$BeliefText", "captain", "I", false)
  | 5 => ("CaptainTides$BeliefText", "what", "I", false)
  | _ => ("CaptainTides$BeliefText", "number", "I", false)
def tyX0 : Nat → FieldType := fun k => match k with
  | 0 => .array .char
  | 1 => .int
  | 2 => .int
  | 3 => .int
  | 4 => .int
  | 5 => .int
  | _ => .int
theorem nmX0 : ∀ a, a < 7 → ∀ b, b < 7 → a ≠ b → (TX0 a).2.1 ≠ (TX0 b).2.1 := by decide +kernel
theorem tyX0_ok : ∀ k, k < 7 → parseFieldDescriptor (TX0 k).2.2.1 = some (tyX0 k) := by decide +kernel
abbrev cX0_init : ByteArray := prog_2_method_1_code
def yX0_init : MethodName := ⟨RX0, "<init>", "()V"⟩
abbrev cX0_append : ByteArray := prog_2_method_2_code
def yX0_append : MethodName := ⟨RX0, "append", "(C)Z"⟩
abbrev cX0_readInto : ByteArray := prog_2_method_3_code
def yX0_readInto : MethodName := ⟨RX0, "readInto", "(LCaptainTides$State;)I"⟩
abbrev cX0_takes : ByteArray := prog_2_method_4_code
def yX0_takes : MethodName := ⟨RX0, "takes", "(CLCaptainTides$State;)Z"⟩
abbrev cX0_takesCaptain : ByteArray := prog_2_method_5_code
def yX0_takesCaptain : MethodName := ⟨RX0, "takesCaptain", "(C)Z"⟩
abbrev cX0_takesLetter : ByteArray := prog_2_method_6_code
def yX0_takesLetter : MethodName := ⟨RX0, "takesLetter", "(C)Z"⟩
abbrev cX0_takesFirstDigit : ByteArray := prog_2_method_7_code
def yX0_takesFirstDigit : MethodName := ⟨RX0, "takesFirstDigit", "(CLCaptainTides$State;)Z"⟩
abbrev cX0_takesBehindDigit : ByteArray := prog_2_method_8_code
def yX0_takesBehindDigit : MethodName := ⟨RX0, "takesBehindDigit", "(CLCaptainTides$State;)Z"⟩
abbrev cX0_tellsNumber : ByteArray := prog_2_method_9_code
def yX0_tellsNumber : MethodName := ⟨RX0, "tellsNumber", "(LCaptainTides$State;)Z"⟩
abbrev cX0_digitOf : ByteArray := prog_2_method_10_code
def yX0_digitOf : MethodName := ⟨RX0, "digitOf", "(C)I"⟩
abbrev cX0_whatOf : ByteArray := prog_2_method_11_code
def yX0_whatOf : MethodName := ⟨RX0, "whatOf", "(C)I"⟩
def RX1 : String := "CaptainTides$Board"
def TX1 : u_T := fun k => match k with
  | 0 => ("CaptainTides$Board", "timetables", "[LCaptainTides$Timetable;", true)
  | _ => ("CaptainTides$Board", "users", "[I", true)
def tyX1 : Nat → FieldType := fun k => match k with
  | 0 => .array (.object "CaptainTides$Timetable")
  | _ => .array .int
theorem nmX1 : ∀ a, a < 2 → ∀ b, b < 2 → a ≠ b → (TX1 a).2.1 ≠ (TX1 b).2.1 := by decide +kernel
theorem tyX1_ok : ∀ k, k < 2 → parseFieldDescriptor (TX1 k).2.2.1 = some (tyX1 k) := by decide +kernel
abbrev cX1_init : ByteArray := prog_3_method_1_code
def yX1_init : MethodName := ⟨RX1, "<init>", "()V"⟩
abbrev cX1_placeOf : ByteArray := prog_3_method_2_code
def yX1_placeOf : MethodName := ⟨RX1, "placeOf", "(II)I"⟩
abbrev cX1_print : ByteArray := prog_3_method_3_code
def yX1_print : MethodName := ⟨RX1, "print", "(LCaptainTides$State;)V"⟩
abbrev cX1_noteUses : ByteArray := prog_3_method_4_code
def yX1_noteUses : MethodName := ⟨RX1, "noteUses", "(LCaptainTides$Timetable;I)V"⟩
abbrev cX1_noteUse : ByteArray := prog_3_method_5_code
def yX1_noteUse : MethodName := ⟨RX1, "noteUse", "(II)V"⟩
abbrev cX1_usersAt : ByteArray := prog_3_method_6_code
def yX1_usersAt : MethodName := ⟨RX1, "usersAt", "(I)I"⟩
abbrev cX1_isClash : ByteArray := prog_3_method_7_code
def yX1_isClash : MethodName := ⟨RX1, "isClash", "(I)Z"⟩
abbrev cX1_clashes : ByteArray := prog_3_method_8_code
def yX1_clashes : MethodName := ⟨RX1, "clashes", "()I"⟩
abbrev cX1_placeOfClash : ByteArray := prog_3_method_9_code
def yX1_placeOfClash : MethodName := ⟨RX1, "placeOfClash", "(I)I"⟩
abbrev cX1_crossings : ByteArray := prog_3_method_10_code
def yX1_crossings : MethodName := ⟨RX1, "crossings", "()I"⟩
def RX2 : String := "CaptainTides$Captain"
def TX2 : u_T := fun k => match k with
  | 0 => ("CaptainTides$Captain", "belief", "I", false)
  | 1 => ("CaptainTides$Captain", "draft", "I", false)
  | 2 => ("CaptainTides$Captain", "firstHour", "I", false)
  | 3 => ("CaptainTides$Captain", "home", "I", false)
  | 4 => ("CaptainTides$Captain", "crossingsMade", "I", false)
  | 5 => ("CaptainTides$Captain", "hoursAground", "I", false)
  | 6 => ("CaptainTides$Captain", "hoursLate", "I", false)
  | 7 => ("CaptainTides$Captain", "pardons", "I", false)
  | 8 => ("CaptainTides$Captain", "crossingsCancelled", "I", false)
  | _ => ("CaptainTides$Captain", "lessons", "I", false)
def tyX2 : Nat → FieldType := fun k => match k with
  | 0 => .int
  | 1 => .int
  | 2 => .int
  | 3 => .int
  | 4 => .int
  | 5 => .int
  | 6 => .int
  | 7 => .int
  | 8 => .int
  | _ => .int
theorem nmX2 : ∀ a, a < 10 → ∀ b, b < 10 → a ≠ b → (TX2 a).2.1 ≠ (TX2 b).2.1 := by decide +kernel
theorem tyX2_ok : ∀ k, k < 10 → parseFieldDescriptor (TX2 k).2.2.1 = some (tyX2 k) := by decide +kernel
abbrev cX2_init : ByteArray := prog_4_method_1_code
def yX2_init : MethodName := ⟨RX2, "<init>", "(I)V"⟩
abbrev cX2_tell : ByteArray := prog_4_method_2_code
def yX2_tell : MethodName := ⟨RX2, "tell", "(I)I"⟩
abbrev cX2_change : ByteArray := prog_4_method_3_code
def yX2_change : MethodName := ⟨RX2, "change", "(II)V"⟩
abbrev cX2_endDay : ByteArray := prog_4_method_4_code
def yX2_endDay : MethodName := ⟨RX2, "endDay", "(LCaptainTides$Ferry;)V"⟩
abbrev cX2_learn : ByteArray := prog_4_method_5_code
def yX2_learn : MethodName := ⟨RX2, "learn", "(I)V"⟩
abbrev cX2_copyFrom : ByteArray := prog_4_method_6_code
def yX2_copyFrom : MethodName := ⟨RX2, "copyFrom", "(LCaptainTides$Captain;)V"⟩
def RX3 : String := "CaptainTides$Ferry"
def TX3 : u_T := fun k => match k with
  | 0 => ("CaptainTides$Ferry", "timetable", "LCaptainTides$Timetable;", true)
  | 1 => ("CaptainTides$Ferry", "draft", "I", false)
  | 2 => ("CaptainTides$Ferry", "pier", "I", false)
  | 3 => ("CaptainTides$Ferry", "atSea", "Z", false)
  | 4 => ("CaptainTides$Ferry", "departure", "I", false)
  | 5 => ("CaptainTides$Ferry", "arrivedNow", "Z", false)
  | 6 => ("CaptainTides$Ferry", "wantsNow", "Z", false)
  | 7 => ("CaptainTides$Ferry", "crossingsMade", "I", false)
  | 8 => ("CaptainTides$Ferry", "hoursAground", "I", false)
  | 9 => ("CaptainTides$Ferry", "hoursLate", "I", false)
  | _ => ("CaptainTides$Ferry", "pardons", "I", false)
def tyX3 : Nat → FieldType := fun k => match k with
  | 0 => .object "CaptainTides$Timetable"
  | 1 => .int
  | 2 => .int
  | 3 => .boolean
  | 4 => .int
  | 5 => .boolean
  | 6 => .boolean
  | 7 => .int
  | 8 => .int
  | 9 => .int
  | _ => .int
theorem nmX3 : ∀ a, a < 11 → ∀ b, b < 11 → a ≠ b → (TX3 a).2.1 ≠ (TX3 b).2.1 := by decide +kernel
theorem tyX3_ok : ∀ k, k < 11 → parseFieldDescriptor (TX3 k).2.2.1 = some (tyX3 k) := by decide +kernel
abbrev cX3_init : ByteArray := prog_5_method_1_code
def yX3_init : MethodName := ⟨RX3, "<init>", "()V"⟩
abbrev cX3_beginDay : ByteArray := prog_5_method_2_code
def yX3_beginDay : MethodName := ⟨RX3, "beginDay", "(LCaptainTides$Captain;)V"⟩
abbrev cX3_beginHour : ByteArray := prog_5_method_3_code
def yX3_beginHour : MethodName := ⟨RX3, "beginHour", "(II)V"⟩
abbrev cX3_wantsFrom : ByteArray := prog_5_method_4_code
def yX3_wantsFrom : MethodName := ⟨RX3, "wantsFrom", "(I)Z"⟩
abbrev cX3_arrivedAt : ByteArray := prog_5_method_5_code
def yX3_arrivedAt : MethodName := ⟨RX3, "arrivedAt", "(I)Z"⟩
abbrev cX3_depart : ByteArray := prog_5_method_6_code
def yX3_depart : MethodName := ⟨RX3, "depart", "(I)V"⟩
abbrev cX3_stay : ByteArray := prog_5_method_7_code
def yX3_stay : MethodName := ⟨RX3, "stay", "(Z)V"⟩
abbrev cX3_crossingsLeft : ByteArray := prog_5_method_8_code
def yX3_crossingsLeft : MethodName := ⟨RX3, "crossingsLeft", "()I"⟩
abbrev cX3_isLesson : ByteArray := prog_5_method_9_code
def yX3_isLesson : MethodName := ⟨RX3, "isLesson", "(I)Z"⟩
abbrev cX3_tell : ByteArray := prog_5_method_10_code
def yX3_tell : MethodName := ⟨RX3, "tell", "(I)I"⟩
def RX4 : String := "CaptainTides$SailedDay"
def TX4 : u_T := fun k => match k with
  | 0 => ("CaptainTides$SailedDay", "ferries", "[LCaptainTides$Ferry;", true)
  | 1 => ("CaptainTides$SailedDay", "lot", "I", false)
  | _ => ("CaptainTides$SailedDay", "lotsDrawn", "I", false)
def tyX4 : Nat → FieldType := fun k => match k with
  | 0 => .array (.object "CaptainTides$Ferry")
  | 1 => .int
  | _ => .int
theorem nmX4 : ∀ a, a < 3 → ∀ b, b < 3 → a ≠ b → (TX4 a).2.1 ≠ (TX4 b).2.1 := by decide +kernel
theorem tyX4_ok : ∀ k, k < 3 → parseFieldDescriptor (TX4 k).2.2.1 = some (tyX4 k) := by decide +kernel
abbrev cX4_init : ByteArray := prog_6_method_1_code
def yX4_init : MethodName := ⟨RX4, "<init>", "()V"⟩
abbrev cX4_run : ByteArray := prog_6_method_2_code
def yX4_run : MethodName := ⟨RX4, "run", "(LCaptainTides$State;)V"⟩
abbrev cX4_givePier : ByteArray := prog_6_method_3_code
def yX4_givePier : MethodName := ⟨RX4, "givePier", "(II)V"⟩
abbrev cX4_drawLot : ByteArray := prog_6_method_4_code
def yX4_drawLot : MethodName := ⟨RX4, "drawLot", "(I)I"⟩
abbrev cX4_sumOf : ByteArray := prog_6_method_5_code
def yX4_sumOf : MethodName := ⟨RX4, "sumOf", "(I)I"⟩
abbrev cX4_learners : ByteArray := prog_6_method_6_code
def yX4_learners : MethodName := ⟨RX4, "learners", "(I)I"⟩
def RX5 : String := "CaptainTides$State"
def TX5 : u_T := fun k => match k with
  | 0 => ("CaptainTides$State", "captains", "[LCaptainTides$Captain;", true)
  | 1 => ("CaptainTides$State", "drift", "I", false)
  | 2 => ("CaptainTides$State", "hoursToLearn", "I", false)
  | 3 => ("CaptainTides$State", "phase", "I", false)
  | 4 => ("CaptainTides$State", "lot", "I", false)
  | 5 => ("CaptainTides$State", "lotsDrawn", "I", false)
  | _ => ("CaptainTides$State", "day", "I", false)
def tyX5 : Nat → FieldType := fun k => match k with
  | 0 => .array (.object "CaptainTides$Captain")
  | 1 => .int
  | 2 => .int
  | 3 => .int
  | 4 => .int
  | 5 => .int
  | _ => .int
theorem nmX5 : ∀ a, a < 7 → ∀ b, b < 7 → a ≠ b → (TX5 a).2.1 ≠ (TX5 b).2.1 := by decide +kernel
theorem tyX5_ok : ∀ k, k < 7 → parseFieldDescriptor (TX5 k).2.2.1 = some (tyX5 k) := by decide +kernel
abbrev cX5_init : ByteArray := prog_7_method_1_code
def yX5_init : MethodName := ⟨RX5, "<init>", "()V"⟩
abbrev cX5_sumOf : ByteArray := prog_7_method_2_code
def yX5_sumOf : MethodName := ⟨RX5, "sumOf", "(I)I"⟩
abbrev cX5_endDay : ByteArray := prog_7_method_3_code
def yX5_endDay : MethodName := ⟨RX5, "endDay", "(LCaptainTides$SailedDay;)V"⟩
abbrev cX5_tellSetting : ByteArray := prog_7_method_4_code
def yX5_tellSetting : MethodName := ⟨RX5, "tellSetting", "(I)I"⟩
abbrev cX5_changeSetting : ByteArray := prog_7_method_5_code
def yX5_changeSetting : MethodName := ⟨RX5, "changeSetting", "(II)V"⟩
abbrev cX5_copyFrom : ByteArray := prog_7_method_6_code
def yX5_copyFrom : MethodName := ⟨RX5, "copyFrom", "(LCaptainTides$State;)V"⟩
def RX6 : String := "CaptainTides$Timetable"
def TX6 : u_T := fun k => match k with
  | 0 => ("CaptainTides$Timetable", "hours", "[I", true)
  | 1 => ("CaptainTides$Timetable", "crossings", "I", false)
  | _ => ("CaptainTides$Timetable", "home", "I", false)
def tyX6 : Nat → FieldType := fun k => match k with
  | 0 => .array .int
  | 1 => .int
  | _ => .int
theorem nmX6 : ∀ a, a < 3 → ∀ b, b < 3 → a ≠ b → (TX6 a).2.1 ≠ (TX6 b).2.1 := by decide +kernel
theorem tyX6_ok : ∀ k, k < 3 → parseFieldDescriptor (TX6 k).2.2.1 = some (tyX6 k) := by decide +kernel
abbrev cX6_init : ByteArray := prog_8_method_1_code
def yX6_init : MethodName := ⟨RX6, "<init>", "()V"⟩
abbrev cX6_print : ByteArray := prog_8_method_2_code
def yX6_print : MethodName := ⟨RX6, "print", "(LCaptainTides$Captain;)V"⟩
abbrev cX6_has : ByteArray := prog_8_method_3_code
def yX6_has : MethodName := ⟨RX6, "has", "(I)Z"⟩
abbrev cX6_hourOf : ByteArray := prog_8_method_4_code
def yX6_hourOf : MethodName := ⟨RX6, "hourOf", "(I)I"⟩
abbrev cX6_pierOf : ByteArray := prog_8_method_5_code
def yX6_pierOf : MethodName := ⟨RX6, "pierOf", "(I)I"⟩
def RX7 : String := "CaptainTides"
def TX7 : u_T := fun k => match k with
  | 0 => ("CaptainTides", "now", "LCaptainTides$State;", true)
  | 1 => ("CaptainTides", "snapshot", "LCaptainTides$State;", true)
  | 2 => ("CaptainTides", "hasSnapshot", "Z", false)
  | 3 => ("CaptainTides", "history", "[LCaptainTides$State;", true)
  | 4 => ("CaptainTides", "recorded", "I", false)
  | 5 => ("CaptainTides", "text", "LCaptainTides$BeliefText;", true)
  | 6 => ("CaptainTides", "trial", "LCaptainTides$State;", true)
  | 7 => ("CaptainTides", "board", "LCaptainTides$Board;", true)
  | _ => ("CaptainTides", "sailed", "LCaptainTides$SailedDay;", true)
def tyX7 : Nat → FieldType := fun k => match k with
  | 0 => .object "CaptainTides$State"
  | 1 => .object "CaptainTides$State"
  | 2 => .boolean
  | 3 => .array (.object "CaptainTides$State")
  | 4 => .int
  | 5 => .object "CaptainTides$BeliefText"
  | 6 => .object "CaptainTides$State"
  | 7 => .object "CaptainTides$Board"
  | _ => .object "CaptainTides$SailedDay"
theorem nmX7 : ∀ a, a < 9 → ∀ b, b < 9 → a ≠ b → (TX7 a).2.1 ≠ (TX7 b).2.1 := by decide +kernel
theorem tyX7_ok : ∀ k, k < 9 → parseFieldDescriptor (TX7 k).2.2.1 = some (tyX7 k) := by decide +kernel
abbrev cX7_init : ByteArray := prog_1_method_1_code
def yX7_init : MethodName := ⟨RX7, "<init>", "()V"⟩
abbrev cX7_captain : ByteArray := prog_1_method_2_code
def yX7_captain : MethodName := ⟨RX7, "captain", "(III)I"⟩
abbrev cX7_captains : ByteArray := prog_1_method_3_code
def yX7_captains : MethodName := ⟨RX7, "captains", "()I"⟩
abbrev cX7_truth : ByteArray := prog_1_method_4_code
def yX7_truth : MethodName := ⟨RX7, "truth", "(I)I"⟩
abbrev cX7_set : ByteArray := prog_1_method_5_code
def yX7_set : MethodName := ⟨RX7, "set", "(II)I"⟩
abbrev cX7_lot : ByteArray := prog_1_method_6_code
def yX7_lot : MethodName := ⟨RX7, "lot", "(I)I"⟩
abbrev cX7_sail : ByteArray := prog_1_method_7_code
def yX7_sail : MethodName := ⟨RX7, "sail", "(I)I"⟩
abbrev cX7_type : ByteArray := prog_1_method_8_code
def yX7_type : MethodName := ⟨RX7, "type", "(C)I"⟩
abbrev cX7_clearText : ByteArray := prog_1_method_9_code
def yX7_clearText : MethodName := ⟨RX7, "clearText", "()I"⟩
abbrev cX7_fault : ByteArray := prog_1_method_10_code
def yX7_fault : MethodName := ⟨RX7, "fault", "()I"⟩
abbrev cX7_undo : ByteArray := prog_1_method_11_code
def yX7_undo : MethodName := ⟨RX7, "undo", "()I"⟩
abbrev cX7_keep : ByteArray := prog_1_method_12_code
def yX7_keep : MethodName := ⟨RX7, "keep", "()I"⟩
abbrev cX7_restore : ByteArray := prog_1_method_13_code
def yX7_restore : MethodName := ⟨RX7, "restore", "()I"⟩
abbrev cX7_captainOf : ByteArray := prog_1_method_14_code
def yX7_captainOf : MethodName := ⟨RX7, "captainOf", "(II)I"⟩
abbrev cX7_printed : ByteArray := prog_1_method_15_code
def yX7_printed : MethodName := ⟨RX7, "printed", "(III)I"⟩
abbrev cX7_level : ByteArray := prog_1_method_16_code
def yX7_level : MethodName := ⟨RX7, "level", "(III)I"⟩
abbrev cX7_uses : ByteArray := prog_1_method_17_code
def yX7_uses : MethodName := ⟨RX7, "uses", "(II)I"⟩
abbrev cX7_clash : ByteArray := prog_1_method_18_code
def yX7_clash : MethodName := ⟨RX7, "clash", "(II)I"⟩
abbrev cX7_hours : ByteArray := prog_1_method_19_code
def yX7_hours : MethodName := ⟨RX7, "hours", "(II)I"⟩
abbrev cX7_count : ByteArray := prog_1_method_20_code
def yX7_count : MethodName := ⟨RX7, "count", "(I)I"⟩
abbrev cX7_made : ByteArray := prog_1_method_21_code
def yX7_made : MethodName := ⟨RX7, "made", "()F"⟩
abbrev cX7_ifSailed : ByteArray := prog_1_method_22_code
def yX7_ifSailed : MethodName := ⟨RX7, "ifSailed", "(I)I"⟩
abbrev cX7_bestHour : ByteArray := prog_1_method_23_code
def yX7_bestHour : MethodName := ⟨RX7, "bestHour", "(I)I"⟩
abbrev cX7_bestPhase : ByteArray := prog_1_method_24_code
def yX7_bestPhase : MethodName := ⟨RX7, "bestPhase", "(I)I"⟩
abbrev cX7_isCaptain : ByteArray := prog_1_method_25_code
def yX7_isCaptain : MethodName := ⟨RX7, "isCaptain", "(I)Z"⟩
abbrev cX7_isValueOfCaptain : ByteArray := prog_1_method_26_code
def yX7_isValueOfCaptain : MethodName := ⟨RX7, "isValueOfCaptain", "(II)Z"⟩
abbrev cX7_isValueOfSetting : ByteArray := prog_1_method_27_code
def yX7_isValueOfSetting : MethodName := ⟨RX7, "isValueOfSetting", "(II)Z"⟩
abbrev cX7_isWithin : ByteArray := prog_1_method_28_code
def yX7_isWithin : MethodName := ⟨RX7, "isWithin", "([I[III)Z"⟩
abbrev cX7_levelAt : ByteArray := prog_1_method_29_code
def yX7_levelAt : MethodName := ⟨RX7, "levelAt", "(II)I"⟩
abbrev cX7_levelReached : ByteArray := prog_1_method_30_code
def yX7_levelReached : MethodName := ⟨RX7, "levelReached", "(II)I"⟩
abbrev cX7_hoursWithWater : ByteArray := prog_1_method_31_code
def yX7_hoursWithWater : MethodName := ⟨RX7, "hoursWithWater", "(II)I"⟩
abbrev cX7_timetableOf : ByteArray := prog_1_method_32_code
def yX7_timetableOf : MethodName := ⟨RX7, "timetableOf", "(I)LCaptainTides$Timetable;"⟩
abbrev cX7_record : ByteArray := prog_1_method_33_code
def yX7_record : MethodName := ⟨RX7, "record", "()V"⟩
def RX8 : String := "CaptainTidesModel"
def TX8 : u_T := fun k => match k with
  | 0 => ("CaptainTidesModel", "now", "[I", true)
  | 1 => ("CaptainTidesModel", "slot", "[I", true)
  | 2 => ("CaptainTidesModel", "beside", "[I", true)
  | 3 => ("CaptainTidesModel", "history", "[I", true)
  | 4 => ("CaptainTidesModel", "text", "[I", true)
  | 5 => ("CaptainTidesModel", "hour", "[I", true)
  | 6 => ("CaptainTidesModel", "many", "[I", true)
  | 7 => ("CaptainTidesModel", "pier", "[I", true)
  | 8 => ("CaptainTidesModel", "arrives", "[I", true)
  | 9 => ("CaptainTidesModel", "next", "[I", true)
  | 10 => ("CaptainTidesModel", "ground", "[I", true)
  | 11 => ("CaptainTidesModel", "at", "I", false)
  | 12 => ("CaptainTidesModel", "kept", "I", false)
  | 13 => ("CaptainTidesModel", "length", "I", false)
  | 14 => ("CaptainTidesModel", "isFilled", "Z", false)
  | _ => ("CaptainTidesModel", "learners", "I", false)
def tyX8 : Nat → FieldType := fun k => match k with
  | 0 => .array .int
  | 1 => .array .int
  | 2 => .array .int
  | 3 => .array .int
  | 4 => .array .int
  | 5 => .array .int
  | 6 => .array .int
  | 7 => .array .int
  | 8 => .array .int
  | 9 => .array .int
  | 10 => .array .int
  | 11 => .int
  | 12 => .int
  | 13 => .int
  | 14 => .boolean
  | _ => .int
theorem nmX8 : ∀ a, a < 16 → ∀ b, b < 16 → a ≠ b → (TX8 a).2.1 ≠ (TX8 b).2.1 := by decide +kernel
theorem tyX8_ok : ∀ k, k < 16 → parseFieldDescriptor (TX8 k).2.2.1 = some (tyX8 k) := by decide +kernel
abbrev cX8_init : ByteArray := prog_10_method_1_code
def yX8_init : MethodName := ⟨RX8, "<init>", "()V"⟩
abbrev cX8_in : ByteArray := prog_10_method_2_code
def yX8_in : MethodName := ⟨RX8, "in", "(III)Z"⟩
abbrev cX8_record : ByteArray := prog_10_method_3_code
def yX8_record : MethodName := ⟨RX8, "record", "()V"⟩
abbrev cX8_lay : ByteArray := prog_10_method_4_code
def yX8_lay : MethodName := ⟨RX8, "lay", "()V"⟩
abbrev cX8_takeBack : ByteArray := prog_10_method_5_code
def yX8_takeBack : MethodName := ⟨RX8, "takeBack", "()V"⟩
abbrev cX8_isCaptain : ByteArray := prog_10_method_6_code
def yX8_isCaptain : MethodName := ⟨RX8, "isCaptain", "(I)Z"⟩
abbrev cX8_of : ByteArray := prog_10_method_7_code
def yX8_of : MethodName := ⟨RX8, "of", "(II)I"⟩
abbrev cX8_put : ByteArray := prog_10_method_8_code
def yX8_put : MethodName := ⟨RX8, "put", "(III)V"⟩
abbrev cX8_more : ByteArray := prog_10_method_9_code
def yX8_more : MethodName := ⟨RX8, "more", "(III)V"⟩
abbrev cX8_sumOf : ByteArray := prog_10_method_10_code
def yX8_sumOf : MethodName := ⟨RX8, "sumOf", "(I)I"⟩
abbrev cX8_levelOf : ByteArray := prog_10_method_11_code
def yX8_levelOf : MethodName := ⟨RX8, "levelOf", "(II)I"⟩
abbrev cX8_isEnough : ByteArray := prog_10_method_12_code
def yX8_isEnough : MethodName := ⟨RX8, "isEnough", "(III)Z"⟩
abbrev cX8_print : ByteArray := prog_10_method_13_code
def yX8_print : MethodName := ⟨RX8, "print", "(I)V"⟩
abbrev cX8_printAll : ByteArray := prog_10_method_14_code
def yX8_printAll : MethodName := ⟨RX8, "printAll", "()V"⟩
abbrev cX8_hourOf : ByteArray := prog_10_method_15_code
def yX8_hourOf : MethodName := ⟨RX8, "hourOf", "(II)I"⟩
abbrev cX8_pierOf : ByteArray := prog_10_method_16_code
def yX8_pierOf : MethodName := ⟨RX8, "pierOf", "(II)I"⟩
abbrev cX8_usesPier : ByteArray := prog_10_method_17_code
def yX8_usesPier : MethodName := ⟨RX8, "usesPier", "(III)Z"⟩
abbrev cX8_usesSet : ByteArray := prog_10_method_18_code
def yX8_usesSet : MethodName := ⟨RX8, "usesSet", "(II)I"⟩
abbrev cX8_bits : ByteArray := prog_10_method_19_code
def yX8_bits : MethodName := ⟨RX8, "bits", "(I)I"⟩
abbrev cX8_clashes : ByteArray := prog_10_method_20_code
def yX8_clashes : MethodName := ⟨RX8, "clashes", "()I"⟩
abbrev cX8_isThere : ByteArray := prog_10_method_21_code
def yX8_isThere : MethodName := ⟨RX8, "isThere", "(III)Z"⟩
abbrev cX8_wants : ByteArray := prog_10_method_22_code
def yX8_wants : MethodName := ⟨RX8, "wants", "(II)Z"⟩
abbrev cX8_depart : ByteArray := prog_10_method_23_code
def yX8_depart : MethodName := ⟨RX8, "depart", "(II)V"⟩
abbrev cX8_draw : ByteArray := prog_10_method_24_code
def yX8_draw : MethodName := ⟨RX8, "draw", "(I)I"⟩
abbrev cX8_givePier : ByteArray := prog_10_method_25_code
def yX8_givePier : MethodName := ⟨RX8, "givePier", "(IZI)V"⟩
abbrev cX8_goOn : ByteArray := prog_10_method_26_code
def yX8_goOn : MethodName := ⟨RX8, "goOn", "(I)V"⟩
abbrev cX8_learn : ByteArray := prog_10_method_27_code
def yX8_learn : MethodName := ⟨RX8, "learn", "()V"⟩
abbrev cX8_sailDay : ByteArray := prog_10_method_28_code
def yX8_sailDay : MethodName := ⟨RX8, "sailDay", "()V"⟩
abbrev cX8_least : ByteArray := prog_10_method_29_code
def yX8_least : MethodName := ⟨RX8, "least", "(I)I"⟩
abbrev cX8_most : ByteArray := prog_10_method_30_code
def yX8_most : MethodName := ⟨RX8, "most", "(I)I"⟩
abbrev cX8_captain : ByteArray := prog_10_method_31_code
def yX8_captain : MethodName := ⟨RX8, "captain", "(III)I"⟩
abbrev cX8_change : ByteArray := prog_10_method_32_code
def yX8_change : MethodName := ⟨RX8, "change", "(II)I"⟩
abbrev cX8_truth : ByteArray := prog_10_method_33_code
def yX8_truth : MethodName := ⟨RX8, "truth", "(I)I"⟩
abbrev cX8_set : ByteArray := prog_10_method_34_code
def yX8_set : MethodName := ⟨RX8, "set", "(II)I"⟩
abbrev cX8_lot : ByteArray := prog_10_method_35_code
def yX8_lot : MethodName := ⟨RX8, "lot", "(I)I"⟩
abbrev cX8_sail : ByteArray := prog_10_method_36_code
def yX8_sail : MethodName := ⟨RX8, "sail", "(I)I"⟩
abbrev cX8_type : ByteArray := prog_10_method_37_code
def yX8_type : MethodName := ⟨RX8, "type", "(C)I"⟩
abbrev cX8_clearText : ByteArray := prog_10_method_38_code
def yX8_clearText : MethodName := ⟨RX8, "clearText", "()I"⟩
abbrev cX8_isNext : ByteArray := prog_10_method_39_code
def yX8_isNext : MethodName := ⟨RX8, "isNext", "(II)Z"⟩
abbrev cX8_sign : ByteArray := prog_10_method_40_code
def yX8_sign : MethodName := ⟨RX8, "sign", "(I)Z"⟩
abbrev cX8_number : ByteArray := prog_10_method_41_code
def yX8_number : MethodName := ⟨RX8, "number", "(II)I"⟩
abbrev cX8_aboutOf : ByteArray := prog_10_method_42_code
def yX8_aboutOf : MethodName := ⟨RX8, "aboutOf", "()I"⟩
abbrev cX8_readPart : ByteArray := prog_10_method_43_code
def yX8_readPart : MethodName := ⟨RX8, "readPart", "(Z)Z"⟩
abbrev cX8_readAll : ByteArray := prog_10_method_44_code
def yX8_readAll : MethodName := ⟨RX8, "readAll", "()I"⟩
abbrev cX8_fault : ByteArray := prog_10_method_45_code
def yX8_fault : MethodName := ⟨RX8, "fault", "()I"⟩
abbrev cX8_captains : ByteArray := prog_10_method_46_code
def yX8_captains : MethodName := ⟨RX8, "captains", "()I"⟩
abbrev cX8_undo : ByteArray := prog_10_method_47_code
def yX8_undo : MethodName := ⟨RX8, "undo", "()I"⟩
abbrev cX8_keep : ByteArray := prog_10_method_48_code
def yX8_keep : MethodName := ⟨RX8, "keep", "()I"⟩
abbrev cX8_restore : ByteArray := prog_10_method_49_code
def yX8_restore : MethodName := ⟨RX8, "restore", "()I"⟩
abbrev cX8_captainOf : ByteArray := prog_10_method_50_code
def yX8_captainOf : MethodName := ⟨RX8, "captainOf", "(II)I"⟩
abbrev cX8_printed : ByteArray := prog_10_method_51_code
def yX8_printed : MethodName := ⟨RX8, "printed", "(III)I"⟩
abbrev cX8_level : ByteArray := prog_10_method_52_code
def yX8_level : MethodName := ⟨RX8, "level", "(III)I"⟩
abbrev cX8_uses : ByteArray := prog_10_method_53_code
def yX8_uses : MethodName := ⟨RX8, "uses", "(II)I"⟩
abbrev cX8_clash : ByteArray := prog_10_method_54_code
def yX8_clash : MethodName := ⟨RX8, "clash", "(II)I"⟩
abbrev cX8_hours : ByteArray := prog_10_method_55_code
def yX8_hours : MethodName := ⟨RX8, "hours", "(II)I"⟩
abbrev cX8_count : ByteArray := prog_10_method_56_code
def yX8_count : MethodName := ⟨RX8, "count", "(I)I"⟩
abbrev cX8_made : ByteArray := prog_10_method_57_code
def yX8_made : MethodName := ⟨RX8, "made", "()F"⟩
abbrev cX8_told : ByteArray := prog_10_method_58_code
def yX8_told : MethodName := ⟨RX8, "told", "(I)I"⟩
abbrev cX8_ifSailed : ByteArray := prog_10_method_59_code
def yX8_ifSailed : MethodName := ⟨RX8, "ifSailed", "(I)I"⟩
abbrev cX8_bestHour : ByteArray := prog_10_method_60_code
def yX8_bestHour : MethodName := ⟨RX8, "bestHour", "(I)I"⟩
abbrev cX8_bestPhase : ByteArray := prog_10_method_61_code
def yX8_bestPhase : MethodName := ⟨RX8, "bestPhase", "(I)I"⟩
def RJ6 : String := "java/lang/Integer"
def TJ6 : u_T := fun k => match k with
  | _ => ("", "", "", false)
def tyJ6 : Nat → FieldType := fun k => match k with
  | _ => .int
theorem nmJ6 : ∀ a, a < 0 → ∀ b, b < 0 → a ≠ b → (TJ6 a).2.1 ≠ (TJ6 b).2.1 := by decide +kernel
theorem tyJ6_ok : ∀ k, k < 0 → parseFieldDescriptor (TJ6 k).2.2.1 = some (tyJ6 k) := by decide +kernel
abbrev cJ6_bitCount_0f7a4 : ByteArray := prog_11_method_49_code
def yJ6_bitCount_0f7a4 : MethodName := ⟨RJ6, "bitCount", "(I)I"⟩
def RJ9 : String := "java/lang/Math"
def TJ9 : u_T := fun k => match k with
  | _ => ("", "", "", false)
def tyJ9 : Nat → FieldType := fun k => match k with
  | _ => .int
theorem nmJ9 : ∀ a, a < 0 → ∀ b, b < 0 → a ≠ b → (TJ9 a).2.1 ≠ (TJ9 b).2.1 := by decide +kernel
theorem tyJ9_ok : ∀ k, k < 0 → parseFieldDescriptor (TJ9 k).2.2.1 = some (tyJ9 k) := by decide +kernel
abbrev cJ9_abs_0f7a4 : ByteArray := prog_12_method_59_code
def yJ9_abs_0f7a4 : MethodName := ⟨RJ9, "abs", "(I)I"⟩
def RL : String := "CaptainTidesLaw"
abbrev cL_law : ByteArray := code
def yL_law : MethodName := ⟨RL, "law", "([I)Z"⟩
abbrev vwCl : List vw_C := [(RX0, TX0, 7), (RX1, TX1, 2), (RX2, TX2, 10), (RX3, TX3, 11), (RX4, TX4, 3), (RX5, TX5, 7), (RX6, TX6, 3), (RX7, TX7, 9), (RX8, TX8, 16)]
end
section
theorem dX0_init_0 : decode cX0_init 0 = .ok (.aload_n 0, 1) := by decide +kernel
theorem dX0_init_1 : decode cX0_init 1 = .ok (.invokespecial 3, 3) := by decide +kernel
theorem dX0_init_4 : decode cX0_init 4 = .ok (.aload_n 0, 1) := by decide +kernel
theorem dX0_init_5 : decode cX0_init 5 = .ok (.bipush 60, 2) := by decide +kernel
theorem dX0_init_7 : decode cX0_init 7 = .ok (.newarray .char, 2) := by decide +kernel
theorem dX0_init_9 : decode cX0_init 9 = .ok (.putfield 9, 3) := by decide +kernel
theorem dX0_init_12 : decode cX0_init 12 = .ok (.aload_n 0, 1) := by decide +kernel
theorem dX0_init_13 : decode cX0_init 13 = .ok (.iconst 0, 1) := by decide +kernel
theorem dX0_init_14 : decode cX0_init 14 = .ok (.putfield 15, 3) := by decide +kernel
theorem dX0_init_17 : decode cX0_init 17 = .ok (.aload_n 0, 1) := by decide +kernel
theorem dX0_init_18 : decode cX0_init 18 = .ok (.iconst 0, 1) := by decide +kernel
theorem dX0_init_19 : decode cX0_init 19 = .ok (.putfield 19, 3) := by decide +kernel
theorem dX0_init_22 : decode cX0_init 22 = .ok (.aload_n 0, 1) := by decide +kernel
theorem dX0_init_23 : decode cX0_init 23 = .ok (.iconst 0, 1) := by decide +kernel
theorem dX0_init_24 : decode cX0_init 24 = .ok (.putfield 22, 3) := by decide +kernel
theorem dX0_init_27 : decode cX0_init 27 = .ok (.aload_n 0, 1) := by decide +kernel
theorem dX0_init_28 : decode cX0_init 28 = .ok (.iconst 0, 1) := by decide +kernel
theorem dX0_init_29 : decode cX0_init 29 = .ok (.putfield 25, 3) := by decide +kernel
theorem dX0_init_32 : decode cX0_init 32 = .ok (.aload_n 0, 1) := by decide +kernel
theorem dX0_init_33 : decode cX0_init 33 = .ok (.iconst 0, 1) := by decide +kernel
theorem dX0_init_34 : decode cX0_init 34 = .ok (.putfield 28, 3) := by decide +kernel
theorem dX0_init_37 : decode cX0_init 37 = .ok (.aload_n 0, 1) := by decide +kernel
theorem dX0_init_38 : decode cX0_init 38 = .ok (.iconst 0, 1) := by decide +kernel
theorem dX0_init_39 : decode cX0_init 39 = .ok (.putfield 31, 3) := by decide +kernel
theorem dX0_init_42 : decode cX0_init 42 = .ok (.return_, 1) := by decide +kernel
theorem dX0_append_0 : decode cX0_append 0 = .ok (.aload_n 0, 1) := by decide +kernel
theorem dX0_append_1 : decode cX0_append 1 = .ok (.getfield 15, 3) := by decide +kernel
theorem dX0_append_4 : decode cX0_append 4 = .ok (.ifCond .lt 15, 3) := by decide +kernel
theorem dX0_append_7 : decode cX0_append 7 = .ok (.aload_n 0, 1) := by decide +kernel
theorem dX0_append_8 : decode cX0_append 8 = .ok (.getfield 15, 3) := by decide +kernel
theorem dX0_append_11 : decode cX0_append 11 = .ok (.aload_n 0, 1) := by decide +kernel
theorem dX0_append_12 : decode cX0_append 12 = .ok (.getfield 9, 3) := by decide +kernel
theorem dX0_append_15 : decode cX0_append 15 = .ok (.arraylength, 1) := by decide +kernel
theorem dX0_append_16 : decode cX0_append 16 = .ok (.if_icmp .lt 5, 3) := by decide +kernel
theorem dX0_append_19 : decode cX0_append 19 = .ok (.iconst 0, 1) := by decide +kernel
theorem dX0_append_20 : decode cX0_append 20 = .ok (.ireturn, 1) := by decide +kernel
theorem dX0_append_21 : decode cX0_append 21 = .ok (.aload_n 0, 1) := by decide +kernel
theorem dX0_append_22 : decode cX0_append 22 = .ok (.getfield 9, 3) := by decide +kernel
theorem dX0_append_25 : decode cX0_append 25 = .ok (.aload_n 0, 1) := by decide +kernel
theorem dX0_append_26 : decode cX0_append 26 = .ok (.getfield 15, 3) := by decide +kernel
theorem dX0_append_29 : decode cX0_append 29 = .ok (.iload_n 1, 1) := by decide +kernel
theorem dX0_append_30 : decode cX0_append 30 = .ok (.castore, 1) := by decide +kernel
theorem dX0_append_31 : decode cX0_append 31 = .ok (.aload_n 0, 1) := by decide +kernel
theorem dX0_append_32 : decode cX0_append 32 = .ok (.dup, 1) := by decide +kernel
theorem dX0_append_33 : decode cX0_append 33 = .ok (.getfield 15, 3) := by decide +kernel
theorem dX0_append_36 : decode cX0_append 36 = .ok (.iconst 1, 1) := by decide +kernel
theorem dX0_append_37 : decode cX0_append 37 = .ok (.iadd, 1) := by decide +kernel
theorem dX0_append_38 : decode cX0_append 38 = .ok (.putfield 15, 3) := by decide +kernel
theorem dX0_append_41 : decode cX0_append 41 = .ok (.iconst 1, 1) := by decide +kernel
theorem dX0_append_42 : decode cX0_append 42 = .ok (.ireturn, 1) := by decide +kernel
theorem dX0_readInto_0 : decode cX0_readInto 0 = .ok (.aload_n 0, 1) := by decide +kernel
theorem dX0_readInto_1 : decode cX0_readInto 1 = .ok (.iconst 0, 1) := by decide +kernel
theorem dX0_readInto_2 : decode cX0_readInto 2 = .ok (.putfield 22, 3) := by decide +kernel
theorem dX0_readInto_5 : decode cX0_readInto 5 = .ok (.aload_n 0, 1) := by decide +kernel
theorem dX0_readInto_6 : decode cX0_readInto 6 = .ok (.iconst 0, 1) := by decide +kernel
theorem dX0_readInto_7 : decode cX0_readInto 7 = .ok (.putfield 19, 3) := by decide +kernel
theorem dX0_readInto_10 : decode cX0_readInto 10 = .ok (.iconst 0, 1) := by decide +kernel
theorem dX0_readInto_11 : decode cX0_readInto 11 = .ok (.istore_n 2, 1) := by decide +kernel
theorem dX0_readInto_12 : decode cX0_readInto 12 = .ok (.iload_n 2, 1) := by decide +kernel
theorem dX0_readInto_13 : decode cX0_readInto 13 = .ok (.aload_n 0, 1) := by decide +kernel
theorem dX0_readInto_14 : decode cX0_readInto 14 = .ok (.getfield 15, 3) := by decide +kernel
theorem dX0_readInto_17 : decode cX0_readInto 17 = .ok (.if_icmp .ge 34, 3) := by decide +kernel
theorem dX0_readInto_20 : decode cX0_readInto 20 = .ok (.iload_n 2, 1) := by decide +kernel
theorem dX0_readInto_21 : decode cX0_readInto 21 = .ok (.aload_n 0, 1) := by decide +kernel
theorem dX0_readInto_22 : decode cX0_readInto 22 = .ok (.getfield 9, 3) := by decide +kernel
theorem dX0_readInto_25 : decode cX0_readInto 25 = .ok (.arraylength, 1) := by decide +kernel
theorem dX0_readInto_26 : decode cX0_readInto 26 = .ok (.if_icmp .ge 25, 3) := by decide +kernel
theorem dX0_readInto_29 : decode cX0_readInto 29 = .ok (.aload_n 0, 1) := by decide +kernel
theorem dX0_readInto_30 : decode cX0_readInto 30 = .ok (.aload_n 0, 1) := by decide +kernel
theorem dX0_readInto_31 : decode cX0_readInto 31 = .ok (.getfield 9, 3) := by decide +kernel
theorem dX0_readInto_34 : decode cX0_readInto 34 = .ok (.iload_n 2, 1) := by decide +kernel
theorem dX0_readInto_35 : decode cX0_readInto 35 = .ok (.caload, 1) := by decide +kernel
theorem dX0_readInto_36 : decode cX0_readInto 36 = .ok (.aload_n 1, 1) := by decide +kernel
theorem dX0_readInto_37 : decode cX0_readInto 37 = .ok (.invokevirtual 34, 3) := by decide +kernel
theorem dX0_readInto_40 : decode cX0_readInto 40 = .ok (.ifCond .ne 5, 3) := by decide +kernel
theorem dX0_readInto_43 : decode cX0_readInto 43 = .ok (.iload_n 2, 1) := by decide +kernel
theorem dX0_readInto_44 : decode cX0_readInto 44 = .ok (.ireturn, 1) := by decide +kernel
theorem dX0_readInto_45 : decode cX0_readInto 45 = .ok (.iinc 2 1, 3) := by decide +kernel
theorem dX0_readInto_48 : decode cX0_readInto 48 = .ok (.goto (-36), 3) := by decide +kernel
theorem dX0_readInto_51 : decode cX0_readInto 51 = .ok (.aload_n 0, 1) := by decide +kernel
theorem dX0_readInto_52 : decode cX0_readInto 52 = .ok (.getfield 22, 3) := by decide +kernel
theorem dX0_readInto_55 : decode cX0_readInto 55 = .ok (.iconst 4, 1) := by decide +kernel
theorem dX0_readInto_56 : decode cX0_readInto 56 = .ok (.if_icmp .ne 8, 3) := by decide +kernel
theorem dX0_readInto_59 : decode cX0_readInto 59 = .ok (.bipush (-5), 2) := by decide +kernel
theorem dX0_readInto_61 : decode cX0_readInto 61 = .ok (.goto 7, 3) := by decide +kernel
theorem dX0_readInto_64 : decode cX0_readInto 64 = .ok (.aload_n 0, 1) := by decide +kernel
theorem dX0_readInto_65 : decode cX0_readInto 65 = .ok (.getfield 15, 3) := by decide +kernel
theorem dX0_readInto_68 : decode cX0_readInto 68 = .ok (.ireturn, 1) := by decide +kernel
theorem dX0_takes_0 : decode cX0_takes 0 = .ok (.aload_n 0, 1) := by decide +kernel
theorem dX0_takes_1 : decode cX0_takes 1 = .ok (.getfield 22, 3) := by decide +kernel
theorem dX0_takes_4 : decode cX0_takes 4 = .ok (.tableswitch 68 0 3 #[32, 38, 55, 61], 32) := by decide +kernel
theorem dX0_takes_36 : decode cX0_takes 36 = .ok (.aload_n 0, 1) := by decide +kernel
theorem dX0_takes_37 : decode cX0_takes 37 = .ok (.iload_n 1, 1) := by decide +kernel
theorem dX0_takes_38 : decode cX0_takes 38 = .ok (.invokevirtual 38, 3) := by decide +kernel
theorem dX0_takes_41 : decode cX0_takes 41 = .ok (.ireturn, 1) := by decide +kernel
theorem dX0_takes_42 : decode cX0_takes 42 = .ok (.aload_n 0, 1) := by decide +kernel
theorem dX0_takes_43 : decode cX0_takes 43 = .ok (.iconst 2, 1) := by decide +kernel
theorem dX0_takes_44 : decode cX0_takes 44 = .ok (.putfield 22, 3) := by decide +kernel
theorem dX0_takes_47 : decode cX0_takes 47 = .ok (.iload_n 1, 1) := by decide +kernel
theorem dX0_takes_48 : decode cX0_takes 48 = .ok (.bipush 58, 2) := by decide +kernel
theorem dX0_takes_50 : decode cX0_takes 50 = .ok (.if_icmp .ne 7, 3) := by decide +kernel
theorem dX0_takes_53 : decode cX0_takes 53 = .ok (.iconst 1, 1) := by decide +kernel
theorem dX0_takes_54 : decode cX0_takes 54 = .ok (.goto 4, 3) := by decide +kernel
theorem dX0_takes_57 : decode cX0_takes 57 = .ok (.iconst 0, 1) := by decide +kernel
theorem dX0_takes_58 : decode cX0_takes 58 = .ok (.ireturn, 1) := by decide +kernel
theorem dX0_takes_59 : decode cX0_takes 59 = .ok (.aload_n 0, 1) := by decide +kernel
theorem dX0_takes_60 : decode cX0_takes 60 = .ok (.iload_n 1, 1) := by decide +kernel
theorem dX0_takes_61 : decode cX0_takes 61 = .ok (.invokevirtual 42, 3) := by decide +kernel
theorem dX0_takes_64 : decode cX0_takes 64 = .ok (.ireturn, 1) := by decide +kernel
theorem dX0_takes_65 : decode cX0_takes 65 = .ok (.aload_n 0, 1) := by decide +kernel
theorem dX0_takes_66 : decode cX0_takes 66 = .ok (.iload_n 1, 1) := by decide +kernel
theorem dX0_takes_67 : decode cX0_takes 67 = .ok (.aload_n 2, 1) := by decide +kernel
theorem dX0_takes_68 : decode cX0_takes 68 = .ok (.invokevirtual 45, 3) := by decide +kernel
theorem dX0_takes_71 : decode cX0_takes 71 = .ok (.ireturn, 1) := by decide +kernel
theorem dX0_takes_72 : decode cX0_takes 72 = .ok (.aload_n 0, 1) := by decide +kernel
theorem dX0_takes_73 : decode cX0_takes 73 = .ok (.iload_n 1, 1) := by decide +kernel
theorem dX0_takes_74 : decode cX0_takes 74 = .ok (.aload_n 2, 1) := by decide +kernel
theorem dX0_takes_75 : decode cX0_takes 75 = .ok (.invokevirtual 48, 3) := by decide +kernel
theorem dX0_takes_78 : decode cX0_takes 78 = .ok (.ireturn, 1) := by decide +kernel
theorem dX0_takesCaptain_0 : decode cX0_takesCaptain 0 = .ok (.aload_n 0, 1) := by decide +kernel
theorem dX0_takesCaptain_1 : decode cX0_takesCaptain 1 = .ok (.iload_n 1, 1) := by decide +kernel
theorem dX0_takesCaptain_2 : decode cX0_takesCaptain 2 = .ok (.invokestatic 51, 3) := by decide +kernel
theorem dX0_takesCaptain_5 : decode cX0_takesCaptain 5 = .ok (.putfield 25, 3) := by decide +kernel
theorem dX0_takesCaptain_8 : decode cX0_takesCaptain 8 = .ok (.aload_n 0, 1) := by decide +kernel
theorem dX0_takesCaptain_9 : decode cX0_takesCaptain 9 = .ok (.dup, 1) := by decide +kernel
theorem dX0_takesCaptain_10 : decode cX0_takesCaptain 10 = .ok (.getfield 19, 3) := by decide +kernel
theorem dX0_takesCaptain_13 : decode cX0_takesCaptain 13 = .ok (.iconst 1, 1) := by decide +kernel
theorem dX0_takesCaptain_14 : decode cX0_takesCaptain 14 = .ok (.iadd, 1) := by decide +kernel
theorem dX0_takesCaptain_15 : decode cX0_takesCaptain 15 = .ok (.putfield 19, 3) := by decide +kernel
theorem dX0_takesCaptain_18 : decode cX0_takesCaptain 18 = .ok (.aload_n 0, 1) := by decide +kernel
theorem dX0_takesCaptain_19 : decode cX0_takesCaptain 19 = .ok (.iconst 1, 1) := by decide +kernel
theorem dX0_takesCaptain_20 : decode cX0_takesCaptain 20 = .ok (.putfield 22, 3) := by decide +kernel
theorem dX0_takesCaptain_23 : decode cX0_takesCaptain 23 = .ok (.aload_n 0, 1) := by decide +kernel
theorem dX0_takesCaptain_24 : decode cX0_takesCaptain 24 = .ok (.getfield 25, 3) := by decide +kernel
theorem dX0_takesCaptain_27 : decode cX0_takesCaptain 27 = .ok (.invokestatic 55, 3) := by decide +kernel
theorem dX0_takesCaptain_30 : decode cX0_takesCaptain 30 = .ok (.ireturn, 1) := by decide +kernel
theorem dX0_takesLetter_0 : decode cX0_takesLetter 0 = .ok (.aload_n 0, 1) := by decide +kernel
theorem dX0_takesLetter_1 : decode cX0_takesLetter 1 = .ok (.iload_n 1, 1) := by decide +kernel
theorem dX0_takesLetter_2 : decode cX0_takesLetter 2 = .ok (.invokestatic 59, 3) := by decide +kernel
theorem dX0_takesLetter_5 : decode cX0_takesLetter 5 = .ok (.putfield 28, 3) := by decide +kernel
theorem dX0_takesLetter_8 : decode cX0_takesLetter 8 = .ok (.aload_n 0, 1) := by decide +kernel
theorem dX0_takesLetter_9 : decode cX0_takesLetter 9 = .ok (.iconst 3, 1) := by decide +kernel
theorem dX0_takesLetter_10 : decode cX0_takesLetter 10 = .ok (.putfield 22, 3) := by decide +kernel
theorem dX0_takesLetter_13 : decode cX0_takesLetter 13 = .ok (.aload_n 0, 1) := by decide +kernel
theorem dX0_takesLetter_14 : decode cX0_takesLetter 14 = .ok (.getfield 28, 3) := by decide +kernel
theorem dX0_takesLetter_17 : decode cX0_takesLetter 17 = .ok (.bipush (-5), 2) := by decide +kernel
theorem dX0_takesLetter_19 : decode cX0_takesLetter 19 = .ok (.if_icmp .eq 7, 3) := by decide +kernel
theorem dX0_takesLetter_22 : decode cX0_takesLetter 22 = .ok (.iconst 1, 1) := by decide +kernel
theorem dX0_takesLetter_23 : decode cX0_takesLetter 23 = .ok (.goto 4, 3) := by decide +kernel
theorem dX0_takesLetter_26 : decode cX0_takesLetter 26 = .ok (.iconst 0, 1) := by decide +kernel
theorem dX0_takesLetter_27 : decode cX0_takesLetter 27 = .ok (.ireturn, 1) := by decide +kernel
theorem dX0_takesFirstDigit_0 : decode cX0_takesFirstDigit 0 = .ok (.aload_n 0, 1) := by decide +kernel
theorem dX0_takesFirstDigit_1 : decode cX0_takesFirstDigit 1 = .ok (.iload_n 1, 1) := by decide +kernel
theorem dX0_takesFirstDigit_2 : decode cX0_takesFirstDigit 2 = .ok (.invokestatic 51, 3) := by decide +kernel
theorem dX0_takesFirstDigit_5 : decode cX0_takesFirstDigit 5 = .ok (.putfield 31, 3) := by decide +kernel
theorem dX0_takesFirstDigit_8 : decode cX0_takesFirstDigit 8 = .ok (.aload_n 0, 1) := by decide +kernel
theorem dX0_takesFirstDigit_9 : decode cX0_takesFirstDigit 9 = .ok (.iconst 4, 1) := by decide +kernel
theorem dX0_takesFirstDigit_10 : decode cX0_takesFirstDigit 10 = .ok (.putfield 22, 3) := by decide +kernel
theorem dX0_takesFirstDigit_13 : decode cX0_takesFirstDigit 13 = .ok (.aload_n 0, 1) := by decide +kernel
theorem dX0_takesFirstDigit_14 : decode cX0_takesFirstDigit 14 = .ok (.aload_n 2, 1) := by decide +kernel
theorem dX0_takesFirstDigit_15 : decode cX0_takesFirstDigit 15 = .ok (.invokevirtual 62, 3) := by decide +kernel
theorem dX0_takesFirstDigit_18 : decode cX0_takesFirstDigit 18 = .ok (.ireturn, 1) := by decide +kernel
theorem dX0_takesBehindDigit_0 : decode cX0_takesBehindDigit 0 = .ok (.iload_n 1, 1) := by decide +kernel
theorem dX0_takesBehindDigit_1 : decode cX0_takesBehindDigit 1 = .ok (.bipush 59, 2) := by decide +kernel
theorem dX0_takesBehindDigit_3 : decode cX0_takesBehindDigit 3 = .ok (.if_icmp .ne 10, 3) := by decide +kernel
theorem dX0_takesBehindDigit_6 : decode cX0_takesBehindDigit 6 = .ok (.aload_n 0, 1) := by decide +kernel
theorem dX0_takesBehindDigit_7 : decode cX0_takesBehindDigit 7 = .ok (.iconst 0, 1) := by decide +kernel
theorem dX0_takesBehindDigit_8 : decode cX0_takesBehindDigit 8 = .ok (.putfield 22, 3) := by decide +kernel
theorem dX0_takesBehindDigit_11 : decode cX0_takesBehindDigit 11 = .ok (.iconst 1, 1) := by decide +kernel
theorem dX0_takesBehindDigit_12 : decode cX0_takesBehindDigit 12 = .ok (.ireturn, 1) := by decide +kernel
theorem dX0_takesBehindDigit_13 : decode cX0_takesBehindDigit 13 = .ok (.iload_n 1, 1) := by decide +kernel
theorem dX0_takesBehindDigit_14 : decode cX0_takesBehindDigit 14 = .ok (.invokestatic 51, 3) := by decide +kernel
theorem dX0_takesBehindDigit_17 : decode cX0_takesBehindDigit 17 = .ok (.istore_n 3, 1) := by decide +kernel
theorem dX0_takesBehindDigit_18 : decode cX0_takesBehindDigit 18 = .ok (.iload_n 3, 1) := by decide +kernel
theorem dX0_takesBehindDigit_19 : decode cX0_takesBehindDigit 19 = .ok (.bipush (-5), 2) := by decide +kernel
theorem dX0_takesBehindDigit_21 : decode cX0_takesBehindDigit 21 = .ok (.if_icmp .ne 9, 3) := by decide +kernel
theorem dX0_takesBehindDigit_24 : decode cX0_takesBehindDigit 24 = .ok (.aload_n 0, 1) := by decide +kernel
theorem dX0_takesBehindDigit_25 : decode cX0_takesBehindDigit 25 = .ok (.iload_n 1, 1) := by decide +kernel
theorem dX0_takesBehindDigit_26 : decode cX0_takesBehindDigit 26 = .ok (.invokevirtual 42, 3) := by decide +kernel
theorem dX0_takesBehindDigit_29 : decode cX0_takesBehindDigit 29 = .ok (.ireturn, 1) := by decide +kernel
theorem dX0_takesBehindDigit_30 : decode cX0_takesBehindDigit 30 = .ok (.aload_n 0, 1) := by decide +kernel
theorem dX0_takesBehindDigit_31 : decode cX0_takesBehindDigit 31 = .ok (.getfield 31, 3) := by decide +kernel
theorem dX0_takesBehindDigit_34 : decode cX0_takesBehindDigit 34 = .ok (.ifCond .ne 5, 3) := by decide +kernel
theorem dX0_takesBehindDigit_37 : decode cX0_takesBehindDigit 37 = .ok (.iconst 0, 1) := by decide +kernel
theorem dX0_takesBehindDigit_38 : decode cX0_takesBehindDigit 38 = .ok (.ireturn, 1) := by decide +kernel
theorem dX0_takesBehindDigit_39 : decode cX0_takesBehindDigit 39 = .ok (.aload_n 0, 1) := by decide +kernel
theorem dX0_takesBehindDigit_40 : decode cX0_takesBehindDigit 40 = .ok (.aload_n 0, 1) := by decide +kernel
theorem dX0_takesBehindDigit_41 : decode cX0_takesBehindDigit 41 = .ok (.getfield 31, 3) := by decide +kernel
theorem dX0_takesBehindDigit_44 : decode cX0_takesBehindDigit 44 = .ok (.bipush 10, 2) := by decide +kernel
theorem dX0_takesBehindDigit_46 : decode cX0_takesBehindDigit 46 = .ok (.imul, 1) := by decide +kernel
theorem dX0_takesBehindDigit_47 : decode cX0_takesBehindDigit 47 = .ok (.iload_n 3, 1) := by decide +kernel
theorem dX0_takesBehindDigit_48 : decode cX0_takesBehindDigit 48 = .ok (.iadd, 1) := by decide +kernel
theorem dX0_takesBehindDigit_49 : decode cX0_takesBehindDigit 49 = .ok (.putfield 31, 3) := by decide +kernel
theorem dX0_takesBehindDigit_52 : decode cX0_takesBehindDigit 52 = .ok (.aload_n 0, 1) := by decide +kernel
theorem dX0_takesBehindDigit_53 : decode cX0_takesBehindDigit 53 = .ok (.aload_n 2, 1) := by decide +kernel
theorem dX0_takesBehindDigit_54 : decode cX0_takesBehindDigit 54 = .ok (.invokevirtual 62, 3) := by decide +kernel
theorem dX0_takesBehindDigit_57 : decode cX0_takesBehindDigit 57 = .ok (.ireturn, 1) := by decide +kernel
theorem dX0_tellsNumber_0 : decode cX0_tellsNumber 0 = .ok (.aload_n 0, 1) := by decide +kernel
theorem dX0_tellsNumber_1 : decode cX0_tellsNumber 1 = .ok (.getfield 25, 3) := by decide +kernel
theorem dX0_tellsNumber_4 : decode cX0_tellsNumber 4 = .ok (.invokestatic 55, 3) := by decide +kernel
theorem dX0_tellsNumber_7 : decode cX0_tellsNumber 7 = .ok (.ifCond .eq 17, 3) := by decide +kernel
theorem dX0_tellsNumber_10 : decode cX0_tellsNumber 10 = .ok (.aload_n 0, 1) := by decide +kernel
theorem dX0_tellsNumber_11 : decode cX0_tellsNumber 11 = .ok (.getfield 28, 3) := by decide +kernel
theorem dX0_tellsNumber_14 : decode cX0_tellsNumber 14 = .ok (.aload_n 0, 1) := by decide +kernel
theorem dX0_tellsNumber_15 : decode cX0_tellsNumber 15 = .ok (.getfield 31, 3) := by decide +kernel
theorem dX0_tellsNumber_18 : decode cX0_tellsNumber 18 = .ok (.invokestatic 66, 3) := by decide +kernel
theorem dX0_tellsNumber_21 : decode cX0_tellsNumber 21 = .ok (.ifCond .ne 5, 3) := by decide +kernel
theorem dX0_tellsNumber_24 : decode cX0_tellsNumber 24 = .ok (.iconst 0, 1) := by decide +kernel
theorem dX0_tellsNumber_25 : decode cX0_tellsNumber 25 = .ok (.ireturn, 1) := by decide +kernel
theorem dX0_tellsNumber_26 : decode cX0_tellsNumber 26 = .ok (.aload_n 1, 1) := by decide +kernel
theorem dX0_tellsNumber_27 : decode cX0_tellsNumber 27 = .ok (.getfield 70, 3) := by decide +kernel
theorem dX0_tellsNumber_30 : decode cX0_tellsNumber 30 = .ok (.aload_n 0, 1) := by decide +kernel
theorem dX0_tellsNumber_31 : decode cX0_tellsNumber 31 = .ok (.getfield 25, 3) := by decide +kernel
theorem dX0_tellsNumber_34 : decode cX0_tellsNumber 34 = .ok (.aaload, 1) := by decide +kernel
theorem dX0_tellsNumber_35 : decode cX0_tellsNumber 35 = .ok (.aload_n 0, 1) := by decide +kernel
theorem dX0_tellsNumber_36 : decode cX0_tellsNumber 36 = .ok (.getfield 28, 3) := by decide +kernel
theorem dX0_tellsNumber_39 : decode cX0_tellsNumber 39 = .ok (.aload_n 0, 1) := by decide +kernel
theorem dX0_tellsNumber_40 : decode cX0_tellsNumber 40 = .ok (.getfield 31, 3) := by decide +kernel
theorem dX0_tellsNumber_43 : decode cX0_tellsNumber 43 = .ok (.invokevirtual 76, 3) := by decide +kernel
theorem dX0_tellsNumber_46 : decode cX0_tellsNumber 46 = .ok (.iconst 1, 1) := by decide +kernel
theorem dX0_tellsNumber_47 : decode cX0_tellsNumber 47 = .ok (.ireturn, 1) := by decide +kernel
theorem dX0_digitOf_0 : decode cX0_digitOf 0 = .ok (.iload_n 0, 1) := by decide +kernel
theorem dX0_digitOf_1 : decode cX0_digitOf 1 = .ok (.bipush 48, 2) := by decide +kernel
theorem dX0_digitOf_3 : decode cX0_digitOf 3 = .ok (.if_icmp .lt 16, 3) := by decide +kernel
theorem dX0_digitOf_6 : decode cX0_digitOf 6 = .ok (.iload_n 0, 1) := by decide +kernel
theorem dX0_digitOf_7 : decode cX0_digitOf 7 = .ok (.bipush 57, 2) := by decide +kernel
theorem dX0_digitOf_9 : decode cX0_digitOf 9 = .ok (.if_icmp .gt 10, 3) := by decide +kernel
theorem dX0_digitOf_12 : decode cX0_digitOf 12 = .ok (.iload_n 0, 1) := by decide +kernel
theorem dX0_digitOf_13 : decode cX0_digitOf 13 = .ok (.bipush 48, 2) := by decide +kernel
theorem dX0_digitOf_15 : decode cX0_digitOf 15 = .ok (.isub, 1) := by decide +kernel
theorem dX0_digitOf_16 : decode cX0_digitOf 16 = .ok (.goto 5, 3) := by decide +kernel
theorem dX0_digitOf_19 : decode cX0_digitOf 19 = .ok (.bipush (-5), 2) := by decide +kernel
theorem dX0_digitOf_21 : decode cX0_digitOf 21 = .ok (.ireturn, 1) := by decide +kernel
theorem dX0_whatOf_0 : decode cX0_whatOf 0 = .ok (.iload_n 0, 1) := by decide +kernel
theorem dX0_whatOf_1 : decode cX0_whatOf 1 = .ok (.lookupswitch 51 #[(100, 45), (102, 47), (104, 49), (112, 43)], 43) := by decide +kernel
theorem dX0_whatOf_44 : decode cX0_whatOf 44 = .ok (.iconst 0, 1) := by decide +kernel
theorem dX0_whatOf_45 : decode cX0_whatOf 45 = .ok (.ireturn, 1) := by decide +kernel
theorem dX0_whatOf_46 : decode cX0_whatOf 46 = .ok (.iconst 1, 1) := by decide +kernel
theorem dX0_whatOf_47 : decode cX0_whatOf 47 = .ok (.ireturn, 1) := by decide +kernel
theorem dX0_whatOf_48 : decode cX0_whatOf 48 = .ok (.iconst 2, 1) := by decide +kernel
theorem dX0_whatOf_49 : decode cX0_whatOf 49 = .ok (.ireturn, 1) := by decide +kernel
theorem dX0_whatOf_50 : decode cX0_whatOf 50 = .ok (.iconst 3, 1) := by decide +kernel
theorem dX0_whatOf_51 : decode cX0_whatOf 51 = .ok (.ireturn, 1) := by decide +kernel
theorem dX0_whatOf_52 : decode cX0_whatOf 52 = .ok (.bipush (-5), 2) := by decide +kernel
theorem dX0_whatOf_54 : decode cX0_whatOf 54 = .ok (.ireturn, 1) := by decide +kernel
theorem dX1_init_0 : decode cX1_init 0 = .ok (.aload_n 0, 1) := by decide +kernel
theorem dX1_init_1 : decode cX1_init 1 = .ok (.invokespecial 3, 3) := by decide +kernel
theorem dX1_init_4 : decode cX1_init 4 = .ok (.aload_n 0, 1) := by decide +kernel
theorem dX1_init_5 : decode cX1_init 5 = .ok (.iconst 3, 1) := by decide +kernel
theorem dX1_init_6 : decode cX1_init 6 = .ok (.anewarray 9, 3) := by decide +kernel
theorem dX1_init_9 : decode cX1_init 9 = .ok (.dup, 1) := by decide +kernel
theorem dX1_init_10 : decode cX1_init 10 = .ok (.iconst 0, 1) := by decide +kernel
theorem dX1_init_11 : decode cX1_init 11 = .ok (.new 9, 3) := by decide +kernel
theorem dX1_init_14 : decode cX1_init 14 = .ok (.dup, 1) := by decide +kernel
theorem dX1_init_15 : decode cX1_init 15 = .ok (.invokespecial 11, 3) := by decide +kernel
theorem dX1_init_18 : decode cX1_init 18 = .ok (.aastore, 1) := by decide +kernel
theorem dX1_init_19 : decode cX1_init 19 = .ok (.dup, 1) := by decide +kernel
theorem dX1_init_20 : decode cX1_init 20 = .ok (.iconst 1, 1) := by decide +kernel
theorem dX1_init_21 : decode cX1_init 21 = .ok (.new 9, 3) := by decide +kernel
theorem dX1_init_24 : decode cX1_init 24 = .ok (.dup, 1) := by decide +kernel
theorem dX1_init_25 : decode cX1_init 25 = .ok (.invokespecial 11, 3) := by decide +kernel
theorem dX1_init_28 : decode cX1_init 28 = .ok (.aastore, 1) := by decide +kernel
theorem dX1_init_29 : decode cX1_init 29 = .ok (.dup, 1) := by decide +kernel
theorem dX1_init_30 : decode cX1_init 30 = .ok (.iconst 2, 1) := by decide +kernel
theorem dX1_init_31 : decode cX1_init 31 = .ok (.new 9, 3) := by decide +kernel
theorem dX1_init_34 : decode cX1_init 34 = .ok (.dup, 1) := by decide +kernel
theorem dX1_init_35 : decode cX1_init 35 = .ok (.invokespecial 11, 3) := by decide +kernel
theorem dX1_init_38 : decode cX1_init 38 = .ok (.aastore, 1) := by decide +kernel
theorem dX1_init_39 : decode cX1_init 39 = .ok (.putfield 12, 3) := by decide +kernel
theorem dX1_init_42 : decode cX1_init 42 = .ok (.aload_n 0, 1) := by decide +kernel
theorem dX1_init_43 : decode cX1_init 43 = .ok (.bipush 48, 2) := by decide +kernel
theorem dX1_init_45 : decode cX1_init 45 = .ok (.newarray .int, 2) := by decide +kernel
theorem dX1_init_47 : decode cX1_init 47 = .ok (.putfield 18, 3) := by decide +kernel
theorem dX1_init_50 : decode cX1_init 50 = .ok (.return_, 1) := by decide +kernel
theorem dX1_placeOf_0 : decode cX1_placeOf 0 = .ok (.iload_n 0, 1) := by decide +kernel
theorem dX1_placeOf_1 : decode cX1_placeOf 1 = .ok (.iconst 2, 1) := by decide +kernel
theorem dX1_placeOf_2 : decode cX1_placeOf 2 = .ok (.imul, 1) := by decide +kernel
theorem dX1_placeOf_3 : decode cX1_placeOf 3 = .ok (.iload_n 1, 1) := by decide +kernel
theorem dX1_placeOf_4 : decode cX1_placeOf 4 = .ok (.iadd, 1) := by decide +kernel
theorem dX1_placeOf_5 : decode cX1_placeOf 5 = .ok (.ireturn, 1) := by decide +kernel
theorem dX1_print_0 : decode cX1_print 0 = .ok (.iconst 0, 1) := by decide +kernel
theorem dX1_print_1 : decode cX1_print 1 = .ok (.istore_n 2, 1) := by decide +kernel
theorem dX1_print_2 : decode cX1_print 2 = .ok (.iload_n 2, 1) := by decide +kernel
theorem dX1_print_3 : decode cX1_print 3 = .ok (.aload_n 0, 1) := by decide +kernel
theorem dX1_print_4 : decode cX1_print 4 = .ok (.getfield 18, 3) := by decide +kernel
theorem dX1_print_7 : decode cX1_print 7 = .ok (.arraylength, 1) := by decide +kernel
theorem dX1_print_8 : decode cX1_print 8 = .ok (.if_icmp .ge 16, 3) := by decide +kernel
theorem dX1_print_11 : decode cX1_print 11 = .ok (.aload_n 0, 1) := by decide +kernel
theorem dX1_print_12 : decode cX1_print 12 = .ok (.getfield 18, 3) := by decide +kernel
theorem dX1_print_15 : decode cX1_print 15 = .ok (.iload_n 2, 1) := by decide +kernel
theorem dX1_print_16 : decode cX1_print 16 = .ok (.iconst 0, 1) := by decide +kernel
theorem dX1_print_17 : decode cX1_print 17 = .ok (.iastore, 1) := by decide +kernel
theorem dX1_print_18 : decode cX1_print 18 = .ok (.iinc 2 1, 3) := by decide +kernel
theorem dX1_print_21 : decode cX1_print 21 = .ok (.goto (-19), 3) := by decide +kernel
theorem dX1_print_24 : decode cX1_print 24 = .ok (.iconst 0, 1) := by decide +kernel
theorem dX1_print_25 : decode cX1_print 25 = .ok (.istore_n 2, 1) := by decide +kernel
theorem dX1_print_26 : decode cX1_print 26 = .ok (.iload_n 2, 1) := by decide +kernel
theorem dX1_print_27 : decode cX1_print 27 = .ok (.iconst 3, 1) := by decide +kernel
theorem dX1_print_28 : decode cX1_print 28 = .ok (.if_icmp .ge 37, 3) := by decide +kernel
theorem dX1_print_31 : decode cX1_print 31 = .ok (.aload_n 0, 1) := by decide +kernel
theorem dX1_print_32 : decode cX1_print 32 = .ok (.getfield 12, 3) := by decide +kernel
theorem dX1_print_35 : decode cX1_print 35 = .ok (.iload_n 2, 1) := by decide +kernel
theorem dX1_print_36 : decode cX1_print 36 = .ok (.aaload, 1) := by decide +kernel
theorem dX1_print_37 : decode cX1_print 37 = .ok (.aload_n 1, 1) := by decide +kernel
theorem dX1_print_38 : decode cX1_print 38 = .ok (.getfield 22, 3) := by decide +kernel
theorem dX1_print_41 : decode cX1_print 41 = .ok (.iload_n 2, 1) := by decide +kernel
theorem dX1_print_42 : decode cX1_print 42 = .ok (.aaload, 1) := by decide +kernel
theorem dX1_print_43 : decode cX1_print 43 = .ok (.invokevirtual 28, 3) := by decide +kernel
theorem dX1_print_46 : decode cX1_print 46 = .ok (.aload_n 0, 1) := by decide +kernel
theorem dX1_print_47 : decode cX1_print 47 = .ok (.aload_n 0, 1) := by decide +kernel
theorem dX1_print_48 : decode cX1_print 48 = .ok (.getfield 12, 3) := by decide +kernel
theorem dX1_print_51 : decode cX1_print 51 = .ok (.iload_n 2, 1) := by decide +kernel
theorem dX1_print_52 : decode cX1_print 52 = .ok (.aaload, 1) := by decide +kernel
theorem dX1_print_53 : decode cX1_print 53 = .ok (.iconst 1, 1) := by decide +kernel
theorem dX1_print_54 : decode cX1_print 54 = .ok (.iload_n 2, 1) := by decide +kernel
theorem dX1_print_55 : decode cX1_print 55 = .ok (.ishl, 1) := by decide +kernel
theorem dX1_print_56 : decode cX1_print 56 = .ok (.invokevirtual 32, 3) := by decide +kernel
theorem dX1_print_59 : decode cX1_print 59 = .ok (.iinc 2 1, 3) := by decide +kernel
theorem dX1_print_62 : decode cX1_print 62 = .ok (.goto (-36), 3) := by decide +kernel
theorem dX1_print_65 : decode cX1_print 65 = .ok (.return_, 1) := by decide +kernel
theorem dX1_noteUses_0 : decode cX1_noteUses 0 = .ok (.iconst 0, 1) := by decide +kernel
theorem dX1_noteUses_1 : decode cX1_noteUses 1 = .ok (.istore_n 3, 1) := by decide +kernel
theorem dX1_noteUses_2 : decode cX1_noteUses 2 = .ok (.iload_n 3, 1) := by decide +kernel
theorem dX1_noteUses_3 : decode cX1_noteUses 3 = .ok (.aload_n 1, 1) := by decide +kernel
theorem dX1_noteUses_4 : decode cX1_noteUses 4 = .ok (.getfield 36, 3) := by decide +kernel
theorem dX1_noteUses_7 : decode cX1_noteUses 7 = .ok (.if_icmp .ge 50, 3) := by decide +kernel
theorem dX1_noteUses_10 : decode cX1_noteUses 10 = .ok (.aload_n 1, 1) := by decide +kernel
theorem dX1_noteUses_11 : decode cX1_noteUses 11 = .ok (.iload_n 3, 1) := by decide +kernel
theorem dX1_noteUses_12 : decode cX1_noteUses 12 = .ok (.invokevirtual 40, 3) := by decide +kernel
theorem dX1_noteUses_15 : decode cX1_noteUses 15 = .ok (.istore 4, 2) := by decide +kernel
theorem dX1_noteUses_17 : decode cX1_noteUses 17 = .ok (.aload_n 0, 1) := by decide +kernel
theorem dX1_noteUses_18 : decode cX1_noteUses 18 = .ok (.iload 4, 2) := by decide +kernel
theorem dX1_noteUses_20 : decode cX1_noteUses 20 = .ok (.aload_n 1, 1) := by decide +kernel
theorem dX1_noteUses_21 : decode cX1_noteUses 21 = .ok (.iload_n 3, 1) := by decide +kernel
theorem dX1_noteUses_22 : decode cX1_noteUses 22 = .ok (.invokevirtual 44, 3) := by decide +kernel
theorem dX1_noteUses_25 : decode cX1_noteUses 25 = .ok (.invokestatic 47, 3) := by decide +kernel
theorem dX1_noteUses_28 : decode cX1_noteUses 28 = .ok (.iload_n 2, 1) := by decide +kernel
theorem dX1_noteUses_29 : decode cX1_noteUses 29 = .ok (.invokevirtual 51, 3) := by decide +kernel
theorem dX1_noteUses_32 : decode cX1_noteUses 32 = .ok (.aload_n 0, 1) := by decide +kernel
theorem dX1_noteUses_33 : decode cX1_noteUses 33 = .ok (.iload 4, 2) := by decide +kernel
theorem dX1_noteUses_35 : decode cX1_noteUses 35 = .ok (.iconst 2, 1) := by decide +kernel
theorem dX1_noteUses_36 : decode cX1_noteUses 36 = .ok (.iadd, 1) := by decide +kernel
theorem dX1_noteUses_37 : decode cX1_noteUses 37 = .ok (.aload_n 1, 1) := by decide +kernel
theorem dX1_noteUses_38 : decode cX1_noteUses 38 = .ok (.iload_n 3, 1) := by decide +kernel
theorem dX1_noteUses_39 : decode cX1_noteUses 39 = .ok (.iconst 1, 1) := by decide +kernel
theorem dX1_noteUses_40 : decode cX1_noteUses 40 = .ok (.iadd, 1) := by decide +kernel
theorem dX1_noteUses_41 : decode cX1_noteUses 41 = .ok (.invokevirtual 44, 3) := by decide +kernel
theorem dX1_noteUses_44 : decode cX1_noteUses 44 = .ok (.invokestatic 47, 3) := by decide +kernel
theorem dX1_noteUses_47 : decode cX1_noteUses 47 = .ok (.iload_n 2, 1) := by decide +kernel
theorem dX1_noteUses_48 : decode cX1_noteUses 48 = .ok (.invokevirtual 51, 3) := by decide +kernel
theorem dX1_noteUses_51 : decode cX1_noteUses 51 = .ok (.iinc 3 1, 3) := by decide +kernel
theorem dX1_noteUses_54 : decode cX1_noteUses 54 = .ok (.goto (-52), 3) := by decide +kernel
theorem dX1_noteUses_57 : decode cX1_noteUses 57 = .ok (.return_, 1) := by decide +kernel
theorem dX1_noteUse_0 : decode cX1_noteUse 0 = .ok (.iload_n 1, 1) := by decide +kernel
theorem dX1_noteUse_1 : decode cX1_noteUse 1 = .ok (.ifCond .lt 22, 3) := by decide +kernel
theorem dX1_noteUse_4 : decode cX1_noteUse 4 = .ok (.iload_n 1, 1) := by decide +kernel
theorem dX1_noteUse_5 : decode cX1_noteUse 5 = .ok (.aload_n 0, 1) := by decide +kernel
theorem dX1_noteUse_6 : decode cX1_noteUse 6 = .ok (.getfield 18, 3) := by decide +kernel
theorem dX1_noteUse_9 : decode cX1_noteUse 9 = .ok (.arraylength, 1) := by decide +kernel
theorem dX1_noteUse_10 : decode cX1_noteUse 10 = .ok (.if_icmp .ge 13, 3) := by decide +kernel
theorem dX1_noteUse_13 : decode cX1_noteUse 13 = .ok (.aload_n 0, 1) := by decide +kernel
theorem dX1_noteUse_14 : decode cX1_noteUse 14 = .ok (.getfield 18, 3) := by decide +kernel
theorem dX1_noteUse_17 : decode cX1_noteUse 17 = .ok (.iload_n 1, 1) := by decide +kernel
theorem dX1_noteUse_18 : decode cX1_noteUse 18 = .ok (.dup2, 1) := by decide +kernel
theorem dX1_noteUse_19 : decode cX1_noteUse 19 = .ok (.iaload, 1) := by decide +kernel
theorem dX1_noteUse_20 : decode cX1_noteUse 20 = .ok (.iload_n 2, 1) := by decide +kernel
theorem dX1_noteUse_21 : decode cX1_noteUse 21 = .ok (.ior, 1) := by decide +kernel
theorem dX1_noteUse_22 : decode cX1_noteUse 22 = .ok (.iastore, 1) := by decide +kernel
theorem dX1_noteUse_23 : decode cX1_noteUse 23 = .ok (.return_, 1) := by decide +kernel
theorem dX1_usersAt_0 : decode cX1_usersAt 0 = .ok (.iload_n 1, 1) := by decide +kernel
theorem dX1_usersAt_1 : decode cX1_usersAt 1 = .ok (.ifCond .lt 21, 3) := by decide +kernel
theorem dX1_usersAt_4 : decode cX1_usersAt 4 = .ok (.iload_n 1, 1) := by decide +kernel
theorem dX1_usersAt_5 : decode cX1_usersAt 5 = .ok (.aload_n 0, 1) := by decide +kernel
theorem dX1_usersAt_6 : decode cX1_usersAt 6 = .ok (.getfield 18, 3) := by decide +kernel
theorem dX1_usersAt_9 : decode cX1_usersAt 9 = .ok (.arraylength, 1) := by decide +kernel
theorem dX1_usersAt_10 : decode cX1_usersAt 10 = .ok (.if_icmp .ge 12, 3) := by decide +kernel
theorem dX1_usersAt_13 : decode cX1_usersAt 13 = .ok (.aload_n 0, 1) := by decide +kernel
theorem dX1_usersAt_14 : decode cX1_usersAt 14 = .ok (.getfield 18, 3) := by decide +kernel
theorem dX1_usersAt_17 : decode cX1_usersAt 17 = .ok (.iload_n 1, 1) := by decide +kernel
theorem dX1_usersAt_18 : decode cX1_usersAt 18 = .ok (.iaload, 1) := by decide +kernel
theorem dX1_usersAt_19 : decode cX1_usersAt 19 = .ok (.goto 4, 3) := by decide +kernel
theorem dX1_usersAt_22 : decode cX1_usersAt 22 = .ok (.iconst 0, 1) := by decide +kernel
theorem dX1_usersAt_23 : decode cX1_usersAt 23 = .ok (.ireturn, 1) := by decide +kernel
theorem dX1_isClash_0 : decode cX1_isClash 0 = .ok (.aload_n 0, 1) := by decide +kernel
theorem dX1_isClash_1 : decode cX1_isClash 1 = .ok (.iload_n 1, 1) := by decide +kernel
theorem dX1_isClash_2 : decode cX1_isClash 2 = .ok (.invokevirtual 55, 3) := by decide +kernel
theorem dX1_isClash_5 : decode cX1_isClash 5 = .ok (.invokestatic 58, 3) := by decide +kernel
theorem dX1_isClash_8 : decode cX1_isClash 8 = .ok (.iconst 2, 1) := by decide +kernel
theorem dX1_isClash_9 : decode cX1_isClash 9 = .ok (.if_icmp .lt 7, 3) := by decide +kernel
theorem dX1_isClash_12 : decode cX1_isClash 12 = .ok (.iconst 1, 1) := by decide +kernel
theorem dX1_isClash_13 : decode cX1_isClash 13 = .ok (.goto 4, 3) := by decide +kernel
theorem dX1_isClash_16 : decode cX1_isClash 16 = .ok (.iconst 0, 1) := by decide +kernel
theorem dX1_isClash_17 : decode cX1_isClash 17 = .ok (.ireturn, 1) := by decide +kernel
theorem dX1_clashes_0 : decode cX1_clashes 0 = .ok (.iconst 0, 1) := by decide +kernel
theorem dX1_clashes_1 : decode cX1_clashes 1 = .ok (.istore_n 1, 1) := by decide +kernel
theorem dX1_clashes_2 : decode cX1_clashes 2 = .ok (.iconst 0, 1) := by decide +kernel
theorem dX1_clashes_3 : decode cX1_clashes 3 = .ok (.istore_n 2, 1) := by decide +kernel
theorem dX1_clashes_4 : decode cX1_clashes 4 = .ok (.iload_n 2, 1) := by decide +kernel
theorem dX1_clashes_5 : decode cX1_clashes 5 = .ok (.aload_n 0, 1) := by decide +kernel
theorem dX1_clashes_6 : decode cX1_clashes 6 = .ok (.getfield 18, 3) := by decide +kernel
theorem dX1_clashes_9 : decode cX1_clashes 9 = .ok (.arraylength, 1) := by decide +kernel
theorem dX1_clashes_10 : decode cX1_clashes 10 = .ok (.if_icmp .ge 20, 3) := by decide +kernel
theorem dX1_clashes_13 : decode cX1_clashes 13 = .ok (.aload_n 0, 1) := by decide +kernel
theorem dX1_clashes_14 : decode cX1_clashes 14 = .ok (.iload_n 2, 1) := by decide +kernel
theorem dX1_clashes_15 : decode cX1_clashes 15 = .ok (.invokevirtual 63, 3) := by decide +kernel
theorem dX1_clashes_18 : decode cX1_clashes 18 = .ok (.ifCond .eq 6, 3) := by decide +kernel
theorem dX1_clashes_21 : decode cX1_clashes 21 = .ok (.iinc 1 1, 3) := by decide +kernel
theorem dX1_clashes_24 : decode cX1_clashes 24 = .ok (.iinc 2 1, 3) := by decide +kernel
theorem dX1_clashes_27 : decode cX1_clashes 27 = .ok (.goto (-23), 3) := by decide +kernel
theorem dX1_clashes_30 : decode cX1_clashes 30 = .ok (.iload_n 1, 1) := by decide +kernel
theorem dX1_clashes_31 : decode cX1_clashes 31 = .ok (.ireturn, 1) := by decide +kernel
theorem dX1_placeOfClash_0 : decode cX1_placeOfClash 0 = .ok (.iconst 0, 1) := by decide +kernel
theorem dX1_placeOfClash_1 : decode cX1_placeOfClash 1 = .ok (.istore_n 2, 1) := by decide +kernel
theorem dX1_placeOfClash_2 : decode cX1_placeOfClash 2 = .ok (.iconst 0, 1) := by decide +kernel
theorem dX1_placeOfClash_3 : decode cX1_placeOfClash 3 = .ok (.istore_n 3, 1) := by decide +kernel
theorem dX1_placeOfClash_4 : decode cX1_placeOfClash 4 = .ok (.iload_n 3, 1) := by decide +kernel
theorem dX1_placeOfClash_5 : decode cX1_placeOfClash 5 = .ok (.aload_n 0, 1) := by decide +kernel
theorem dX1_placeOfClash_6 : decode cX1_placeOfClash 6 = .ok (.getfield 18, 3) := by decide +kernel
theorem dX1_placeOfClash_9 : decode cX1_placeOfClash 9 = .ok (.arraylength, 1) := by decide +kernel
theorem dX1_placeOfClash_10 : decode cX1_placeOfClash 10 = .ok (.if_icmp .ge 27, 3) := by decide +kernel
theorem dX1_placeOfClash_13 : decode cX1_placeOfClash 13 = .ok (.aload_n 0, 1) := by decide +kernel
theorem dX1_placeOfClash_14 : decode cX1_placeOfClash 14 = .ok (.iload_n 3, 1) := by decide +kernel
theorem dX1_placeOfClash_15 : decode cX1_placeOfClash 15 = .ok (.invokevirtual 63, 3) := by decide +kernel
theorem dX1_placeOfClash_18 : decode cX1_placeOfClash 18 = .ok (.ifCond .eq 13, 3) := by decide +kernel
theorem dX1_placeOfClash_21 : decode cX1_placeOfClash 21 = .ok (.iload_n 2, 1) := by decide +kernel
theorem dX1_placeOfClash_22 : decode cX1_placeOfClash 22 = .ok (.iload_n 1, 1) := by decide +kernel
theorem dX1_placeOfClash_23 : decode cX1_placeOfClash 23 = .ok (.if_icmp .ne 5, 3) := by decide +kernel
theorem dX1_placeOfClash_26 : decode cX1_placeOfClash 26 = .ok (.iload_n 3, 1) := by decide +kernel
theorem dX1_placeOfClash_27 : decode cX1_placeOfClash 27 = .ok (.ireturn, 1) := by decide +kernel
theorem dX1_placeOfClash_28 : decode cX1_placeOfClash 28 = .ok (.iinc 2 1, 3) := by decide +kernel
theorem dX1_placeOfClash_31 : decode cX1_placeOfClash 31 = .ok (.iinc 3 1, 3) := by decide +kernel
theorem dX1_placeOfClash_34 : decode cX1_placeOfClash 34 = .ok (.goto (-30), 3) := by decide +kernel
theorem dX1_placeOfClash_37 : decode cX1_placeOfClash 37 = .ok (.bipush (-5), 2) := by decide +kernel
theorem dX1_placeOfClash_39 : decode cX1_placeOfClash 39 = .ok (.ireturn, 1) := by decide +kernel
theorem dX1_crossings_0 : decode cX1_crossings 0 = .ok (.iconst 0, 1) := by decide +kernel
theorem dX1_crossings_1 : decode cX1_crossings 1 = .ok (.istore_n 1, 1) := by decide +kernel
theorem dX1_crossings_2 : decode cX1_crossings 2 = .ok (.aload_n 0, 1) := by decide +kernel
theorem dX1_crossings_3 : decode cX1_crossings 3 = .ok (.getfield 12, 3) := by decide +kernel
theorem dX1_crossings_6 : decode cX1_crossings 6 = .ok (.astore_n 2, 1) := by decide +kernel
theorem dX1_crossings_7 : decode cX1_crossings 7 = .ok (.aload_n 2, 1) := by decide +kernel
theorem dX1_crossings_8 : decode cX1_crossings 8 = .ok (.arraylength, 1) := by decide +kernel
theorem dX1_crossings_9 : decode cX1_crossings 9 = .ok (.istore_n 3, 1) := by decide +kernel
theorem dX1_crossings_10 : decode cX1_crossings 10 = .ok (.iconst 0, 1) := by decide +kernel
theorem dX1_crossings_11 : decode cX1_crossings 11 = .ok (.istore 4, 2) := by decide +kernel
theorem dX1_crossings_13 : decode cX1_crossings 13 = .ok (.iload 4, 2) := by decide +kernel
theorem dX1_crossings_15 : decode cX1_crossings 15 = .ok (.iload_n 3, 1) := by decide +kernel
theorem dX1_crossings_16 : decode cX1_crossings 16 = .ok (.if_icmp .ge 23, 3) := by decide +kernel
theorem dX1_crossings_19 : decode cX1_crossings 19 = .ok (.aload_n 2, 1) := by decide +kernel
theorem dX1_crossings_20 : decode cX1_crossings 20 = .ok (.iload 4, 2) := by decide +kernel
theorem dX1_crossings_22 : decode cX1_crossings 22 = .ok (.aaload, 1) := by decide +kernel
theorem dX1_crossings_23 : decode cX1_crossings 23 = .ok (.astore 5, 2) := by decide +kernel
theorem dX1_crossings_25 : decode cX1_crossings 25 = .ok (.iload_n 1, 1) := by decide +kernel
theorem dX1_crossings_26 : decode cX1_crossings 26 = .ok (.aload 5, 2) := by decide +kernel
theorem dX1_crossings_28 : decode cX1_crossings 28 = .ok (.getfield 36, 3) := by decide +kernel
theorem dX1_crossings_31 : decode cX1_crossings 31 = .ok (.iadd, 1) := by decide +kernel
theorem dX1_crossings_32 : decode cX1_crossings 32 = .ok (.istore_n 1, 1) := by decide +kernel
theorem dX1_crossings_33 : decode cX1_crossings 33 = .ok (.iinc 4 1, 3) := by decide +kernel
theorem dX1_crossings_36 : decode cX1_crossings 36 = .ok (.goto (-23), 3) := by decide +kernel
theorem dX1_crossings_39 : decode cX1_crossings 39 = .ok (.iload_n 1, 1) := by decide +kernel
theorem dX1_crossings_40 : decode cX1_crossings 40 = .ok (.ireturn, 1) := by decide +kernel
theorem dX2_init_0 : decode cX2_init 0 = .ok (.aload_n 0, 1) := by decide +kernel
theorem dX2_init_1 : decode cX2_init 1 = .ok (.invokespecial 3, 3) := by decide +kernel
theorem dX2_init_4 : decode cX2_init 4 = .ok (.aload_n 0, 1) := by decide +kernel
theorem dX2_init_5 : decode cX2_init 5 = .ok (.iconst 2, 1) := by decide +kernel
theorem dX2_init_6 : decode cX2_init 6 = .ok (.putfield 9, 3) := by decide +kernel
theorem dX2_init_9 : decode cX2_init 9 = .ok (.aload_n 0, 1) := by decide +kernel
theorem dX2_init_10 : decode cX2_init 10 = .ok (.bipush 6, 2) := by decide +kernel
theorem dX2_init_12 : decode cX2_init 12 = .ok (.putfield 15, 3) := by decide +kernel
theorem dX2_init_15 : decode cX2_init 15 = .ok (.aload_n 0, 1) := by decide +kernel
theorem dX2_init_16 : decode cX2_init 16 = .ok (.iconst 0, 1) := by decide +kernel
theorem dX2_init_17 : decode cX2_init 17 = .ok (.putfield 18, 3) := by decide +kernel
theorem dX2_init_20 : decode cX2_init 20 = .ok (.aload_n 0, 1) := by decide +kernel
theorem dX2_init_21 : decode cX2_init 21 = .ok (.iconst 0, 1) := by decide +kernel
theorem dX2_init_22 : decode cX2_init 22 = .ok (.putfield 21, 3) := by decide +kernel
theorem dX2_init_25 : decode cX2_init 25 = .ok (.aload_n 0, 1) := by decide +kernel
theorem dX2_init_26 : decode cX2_init 26 = .ok (.iconst 0, 1) := by decide +kernel
theorem dX2_init_27 : decode cX2_init 27 = .ok (.putfield 24, 3) := by decide +kernel
theorem dX2_init_30 : decode cX2_init 30 = .ok (.aload_n 0, 1) := by decide +kernel
theorem dX2_init_31 : decode cX2_init 31 = .ok (.iconst 0, 1) := by decide +kernel
theorem dX2_init_32 : decode cX2_init 32 = .ok (.putfield 27, 3) := by decide +kernel
theorem dX2_init_35 : decode cX2_init 35 = .ok (.aload_n 0, 1) := by decide +kernel
theorem dX2_init_36 : decode cX2_init 36 = .ok (.iconst 0, 1) := by decide +kernel
theorem dX2_init_37 : decode cX2_init 37 = .ok (.putfield 30, 3) := by decide +kernel
theorem dX2_init_40 : decode cX2_init 40 = .ok (.aload_n 0, 1) := by decide +kernel
theorem dX2_init_41 : decode cX2_init 41 = .ok (.iconst 0, 1) := by decide +kernel
theorem dX2_init_42 : decode cX2_init 42 = .ok (.putfield 33, 3) := by decide +kernel
theorem dX2_init_45 : decode cX2_init 45 = .ok (.aload_n 0, 1) := by decide +kernel
theorem dX2_init_46 : decode cX2_init 46 = .ok (.iconst 4, 1) := by decide +kernel
theorem dX2_init_47 : decode cX2_init 47 = .ok (.iload_n 1, 1) := by decide +kernel
theorem dX2_init_48 : decode cX2_init 48 = .ok (.imul, 1) := by decide +kernel
theorem dX2_init_49 : decode cX2_init 49 = .ok (.putfield 36, 3) := by decide +kernel
theorem dX2_init_52 : decode cX2_init 52 = .ok (.aload_n 0, 1) := by decide +kernel
theorem dX2_init_53 : decode cX2_init 53 = .ok (.iload_n 1, 1) := by decide +kernel
theorem dX2_init_54 : decode cX2_init 54 = .ok (.iconst 2, 1) := by decide +kernel
theorem dX2_init_55 : decode cX2_init 55 = .ok (.irem, 1) := by decide +kernel
theorem dX2_init_56 : decode cX2_init 56 = .ok (.putfield 39, 3) := by decide +kernel
theorem dX2_init_59 : decode cX2_init 59 = .ok (.return_, 1) := by decide +kernel
theorem dX2_tell_0 : decode cX2_tell 0 = .ok (.iload_n 1, 1) := by decide +kernel
theorem dX2_tell_1 : decode cX2_tell 1 = .ok (.tableswitch 109 0 10 #[59, 64, 69, 74, 109, 79, 84, 89, 94, 99, 104], 59) := by decide +kernel
theorem dX2_tell_60 : decode cX2_tell 60 = .ok (.aload_n 0, 1) := by decide +kernel
theorem dX2_tell_61 : decode cX2_tell 61 = .ok (.getfield 36, 3) := by decide +kernel
theorem dX2_tell_64 : decode cX2_tell 64 = .ok (.ireturn, 1) := by decide +kernel
theorem dX2_tell_65 : decode cX2_tell 65 = .ok (.aload_n 0, 1) := by decide +kernel
theorem dX2_tell_66 : decode cX2_tell 66 = .ok (.getfield 9, 3) := by decide +kernel
theorem dX2_tell_69 : decode cX2_tell 69 = .ok (.ireturn, 1) := by decide +kernel
theorem dX2_tell_70 : decode cX2_tell 70 = .ok (.aload_n 0, 1) := by decide +kernel
theorem dX2_tell_71 : decode cX2_tell 71 = .ok (.getfield 15, 3) := by decide +kernel
theorem dX2_tell_74 : decode cX2_tell 74 = .ok (.ireturn, 1) := by decide +kernel
theorem dX2_tell_75 : decode cX2_tell 75 = .ok (.aload_n 0, 1) := by decide +kernel
theorem dX2_tell_76 : decode cX2_tell 76 = .ok (.getfield 39, 3) := by decide +kernel
theorem dX2_tell_79 : decode cX2_tell 79 = .ok (.ireturn, 1) := by decide +kernel
theorem dX2_tell_80 : decode cX2_tell 80 = .ok (.aload_n 0, 1) := by decide +kernel
theorem dX2_tell_81 : decode cX2_tell 81 = .ok (.getfield 18, 3) := by decide +kernel
theorem dX2_tell_84 : decode cX2_tell 84 = .ok (.ireturn, 1) := by decide +kernel
theorem dX2_tell_85 : decode cX2_tell 85 = .ok (.aload_n 0, 1) := by decide +kernel
theorem dX2_tell_86 : decode cX2_tell 86 = .ok (.getfield 21, 3) := by decide +kernel
theorem dX2_tell_89 : decode cX2_tell 89 = .ok (.ireturn, 1) := by decide +kernel
theorem dX2_tell_90 : decode cX2_tell 90 = .ok (.aload_n 0, 1) := by decide +kernel
theorem dX2_tell_91 : decode cX2_tell 91 = .ok (.getfield 24, 3) := by decide +kernel
theorem dX2_tell_94 : decode cX2_tell 94 = .ok (.ireturn, 1) := by decide +kernel
theorem dX2_tell_95 : decode cX2_tell 95 = .ok (.aload_n 0, 1) := by decide +kernel
theorem dX2_tell_96 : decode cX2_tell 96 = .ok (.getfield 27, 3) := by decide +kernel
theorem dX2_tell_99 : decode cX2_tell 99 = .ok (.ireturn, 1) := by decide +kernel
theorem dX2_tell_100 : decode cX2_tell 100 = .ok (.aload_n 0, 1) := by decide +kernel
theorem dX2_tell_101 : decode cX2_tell 101 = .ok (.getfield 30, 3) := by decide +kernel
theorem dX2_tell_104 : decode cX2_tell 104 = .ok (.ireturn, 1) := by decide +kernel
theorem dX2_tell_105 : decode cX2_tell 105 = .ok (.aload_n 0, 1) := by decide +kernel
theorem dX2_tell_106 : decode cX2_tell 106 = .ok (.getfield 33, 3) := by decide +kernel
theorem dX2_tell_109 : decode cX2_tell 109 = .ok (.ireturn, 1) := by decide +kernel
theorem dX2_tell_110 : decode cX2_tell 110 = .ok (.iconst 0, 1) := by decide +kernel
theorem dX2_tell_111 : decode cX2_tell 111 = .ok (.ireturn, 1) := by decide +kernel
theorem dX2_change_0 : decode cX2_change 0 = .ok (.iload_n 1, 1) := by decide +kernel
theorem dX2_change_1 : decode cX2_change 1 = .ok (.tableswitch 63 0 3 #[31, 39, 47, 55], 31) := by decide +kernel
theorem dX2_change_32 : decode cX2_change 32 = .ok (.aload_n 0, 1) := by decide +kernel
theorem dX2_change_33 : decode cX2_change 33 = .ok (.iload_n 2, 1) := by decide +kernel
theorem dX2_change_34 : decode cX2_change 34 = .ok (.putfield 36, 3) := by decide +kernel
theorem dX2_change_37 : decode cX2_change 37 = .ok (.goto 27, 3) := by decide +kernel
theorem dX2_change_40 : decode cX2_change 40 = .ok (.aload_n 0, 1) := by decide +kernel
theorem dX2_change_41 : decode cX2_change 41 = .ok (.iload_n 2, 1) := by decide +kernel
theorem dX2_change_42 : decode cX2_change 42 = .ok (.putfield 9, 3) := by decide +kernel
theorem dX2_change_45 : decode cX2_change 45 = .ok (.goto 19, 3) := by decide +kernel
theorem dX2_change_48 : decode cX2_change 48 = .ok (.aload_n 0, 1) := by decide +kernel
theorem dX2_change_49 : decode cX2_change 49 = .ok (.iload_n 2, 1) := by decide +kernel
theorem dX2_change_50 : decode cX2_change 50 = .ok (.putfield 15, 3) := by decide +kernel
theorem dX2_change_53 : decode cX2_change 53 = .ok (.goto 11, 3) := by decide +kernel
theorem dX2_change_56 : decode cX2_change 56 = .ok (.aload_n 0, 1) := by decide +kernel
theorem dX2_change_57 : decode cX2_change 57 = .ok (.iload_n 2, 1) := by decide +kernel
theorem dX2_change_58 : decode cX2_change 58 = .ok (.putfield 39, 3) := by decide +kernel
theorem dX2_change_61 : decode cX2_change 61 = .ok (.goto 3, 3) := by decide +kernel
theorem dX2_change_64 : decode cX2_change 64 = .ok (.return_, 1) := by decide +kernel
theorem dX2_endDay_0 : decode cX2_endDay 0 = .ok (.aload_n 0, 1) := by decide +kernel
theorem dX2_endDay_1 : decode cX2_endDay 1 = .ok (.dup, 1) := by decide +kernel
theorem dX2_endDay_2 : decode cX2_endDay 2 = .ok (.getfield 18, 3) := by decide +kernel
theorem dX2_endDay_5 : decode cX2_endDay 5 = .ok (.aload_n 1, 1) := by decide +kernel
theorem dX2_endDay_6 : decode cX2_endDay 6 = .ok (.getfield 42, 3) := by decide +kernel
theorem dX2_endDay_9 : decode cX2_endDay 9 = .ok (.iadd, 1) := by decide +kernel
theorem dX2_endDay_10 : decode cX2_endDay 10 = .ok (.putfield 18, 3) := by decide +kernel
theorem dX2_endDay_13 : decode cX2_endDay 13 = .ok (.aload_n 0, 1) := by decide +kernel
theorem dX2_endDay_14 : decode cX2_endDay 14 = .ok (.dup, 1) := by decide +kernel
theorem dX2_endDay_15 : decode cX2_endDay 15 = .ok (.getfield 21, 3) := by decide +kernel
theorem dX2_endDay_18 : decode cX2_endDay 18 = .ok (.aload_n 1, 1) := by decide +kernel
theorem dX2_endDay_19 : decode cX2_endDay 19 = .ok (.getfield 45, 3) := by decide +kernel
theorem dX2_endDay_22 : decode cX2_endDay 22 = .ok (.iadd, 1) := by decide +kernel
theorem dX2_endDay_23 : decode cX2_endDay 23 = .ok (.putfield 21, 3) := by decide +kernel
theorem dX2_endDay_26 : decode cX2_endDay 26 = .ok (.aload_n 0, 1) := by decide +kernel
theorem dX2_endDay_27 : decode cX2_endDay 27 = .ok (.dup, 1) := by decide +kernel
theorem dX2_endDay_28 : decode cX2_endDay 28 = .ok (.getfield 24, 3) := by decide +kernel
theorem dX2_endDay_31 : decode cX2_endDay 31 = .ok (.aload_n 1, 1) := by decide +kernel
theorem dX2_endDay_32 : decode cX2_endDay 32 = .ok (.getfield 46, 3) := by decide +kernel
theorem dX2_endDay_35 : decode cX2_endDay 35 = .ok (.iadd, 1) := by decide +kernel
theorem dX2_endDay_36 : decode cX2_endDay 36 = .ok (.putfield 24, 3) := by decide +kernel
theorem dX2_endDay_39 : decode cX2_endDay 39 = .ok (.aload_n 0, 1) := by decide +kernel
theorem dX2_endDay_40 : decode cX2_endDay 40 = .ok (.dup, 1) := by decide +kernel
theorem dX2_endDay_41 : decode cX2_endDay 41 = .ok (.getfield 27, 3) := by decide +kernel
theorem dX2_endDay_44 : decode cX2_endDay 44 = .ok (.aload_n 1, 1) := by decide +kernel
theorem dX2_endDay_45 : decode cX2_endDay 45 = .ok (.getfield 47, 3) := by decide +kernel
theorem dX2_endDay_48 : decode cX2_endDay 48 = .ok (.iadd, 1) := by decide +kernel
theorem dX2_endDay_49 : decode cX2_endDay 49 = .ok (.putfield 27, 3) := by decide +kernel
theorem dX2_endDay_52 : decode cX2_endDay 52 = .ok (.aload_n 0, 1) := by decide +kernel
theorem dX2_endDay_53 : decode cX2_endDay 53 = .ok (.dup, 1) := by decide +kernel
theorem dX2_endDay_54 : decode cX2_endDay 54 = .ok (.getfield 30, 3) := by decide +kernel
theorem dX2_endDay_57 : decode cX2_endDay 57 = .ok (.aload_n 1, 1) := by decide +kernel
theorem dX2_endDay_58 : decode cX2_endDay 58 = .ok (.invokevirtual 48, 3) := by decide +kernel
theorem dX2_endDay_61 : decode cX2_endDay 61 = .ok (.iadd, 1) := by decide +kernel
theorem dX2_endDay_62 : decode cX2_endDay 62 = .ok (.putfield 30, 3) := by decide +kernel
theorem dX2_endDay_65 : decode cX2_endDay 65 = .ok (.return_, 1) := by decide +kernel
theorem dX2_learn_0 : decode cX2_learn 0 = .ok (.aload_n 0, 1) := by decide +kernel
theorem dX2_learn_1 : decode cX2_learn 1 = .ok (.iload_n 1, 1) := by decide +kernel
theorem dX2_learn_2 : decode cX2_learn 2 = .ok (.putfield 36, 3) := by decide +kernel
theorem dX2_learn_5 : decode cX2_learn 5 = .ok (.aload_n 0, 1) := by decide +kernel
theorem dX2_learn_6 : decode cX2_learn 6 = .ok (.dup, 1) := by decide +kernel
theorem dX2_learn_7 : decode cX2_learn 7 = .ok (.getfield 33, 3) := by decide +kernel
theorem dX2_learn_10 : decode cX2_learn 10 = .ok (.iconst 1, 1) := by decide +kernel
theorem dX2_learn_11 : decode cX2_learn 11 = .ok (.iadd, 1) := by decide +kernel
theorem dX2_learn_12 : decode cX2_learn 12 = .ok (.putfield 33, 3) := by decide +kernel
theorem dX2_learn_15 : decode cX2_learn 15 = .ok (.return_, 1) := by decide +kernel
theorem dX2_copyFrom_0 : decode cX2_copyFrom 0 = .ok (.aload_n 0, 1) := by decide +kernel
theorem dX2_copyFrom_1 : decode cX2_copyFrom 1 = .ok (.aload_n 1, 1) := by decide +kernel
theorem dX2_copyFrom_2 : decode cX2_copyFrom 2 = .ok (.getfield 36, 3) := by decide +kernel
theorem dX2_copyFrom_5 : decode cX2_copyFrom 5 = .ok (.putfield 36, 3) := by decide +kernel
theorem dX2_copyFrom_8 : decode cX2_copyFrom 8 = .ok (.aload_n 0, 1) := by decide +kernel
theorem dX2_copyFrom_9 : decode cX2_copyFrom 9 = .ok (.aload_n 1, 1) := by decide +kernel
theorem dX2_copyFrom_10 : decode cX2_copyFrom 10 = .ok (.getfield 9, 3) := by decide +kernel
theorem dX2_copyFrom_13 : decode cX2_copyFrom 13 = .ok (.putfield 9, 3) := by decide +kernel
theorem dX2_copyFrom_16 : decode cX2_copyFrom 16 = .ok (.aload_n 0, 1) := by decide +kernel
theorem dX2_copyFrom_17 : decode cX2_copyFrom 17 = .ok (.aload_n 1, 1) := by decide +kernel
theorem dX2_copyFrom_18 : decode cX2_copyFrom 18 = .ok (.getfield 15, 3) := by decide +kernel
theorem dX2_copyFrom_21 : decode cX2_copyFrom 21 = .ok (.putfield 15, 3) := by decide +kernel
theorem dX2_copyFrom_24 : decode cX2_copyFrom 24 = .ok (.aload_n 0, 1) := by decide +kernel
theorem dX2_copyFrom_25 : decode cX2_copyFrom 25 = .ok (.aload_n 1, 1) := by decide +kernel
theorem dX2_copyFrom_26 : decode cX2_copyFrom 26 = .ok (.getfield 39, 3) := by decide +kernel
theorem dX2_copyFrom_29 : decode cX2_copyFrom 29 = .ok (.putfield 39, 3) := by decide +kernel
theorem dX2_copyFrom_32 : decode cX2_copyFrom 32 = .ok (.aload_n 0, 1) := by decide +kernel
theorem dX2_copyFrom_33 : decode cX2_copyFrom 33 = .ok (.aload_n 1, 1) := by decide +kernel
theorem dX2_copyFrom_34 : decode cX2_copyFrom 34 = .ok (.getfield 18, 3) := by decide +kernel
theorem dX2_copyFrom_37 : decode cX2_copyFrom 37 = .ok (.putfield 18, 3) := by decide +kernel
theorem dX2_copyFrom_40 : decode cX2_copyFrom 40 = .ok (.aload_n 0, 1) := by decide +kernel
theorem dX2_copyFrom_41 : decode cX2_copyFrom 41 = .ok (.aload_n 1, 1) := by decide +kernel
theorem dX2_copyFrom_42 : decode cX2_copyFrom 42 = .ok (.getfield 21, 3) := by decide +kernel
theorem dX2_copyFrom_45 : decode cX2_copyFrom 45 = .ok (.putfield 21, 3) := by decide +kernel
theorem dX2_copyFrom_48 : decode cX2_copyFrom 48 = .ok (.aload_n 0, 1) := by decide +kernel
theorem dX2_copyFrom_49 : decode cX2_copyFrom 49 = .ok (.aload_n 1, 1) := by decide +kernel
theorem dX2_copyFrom_50 : decode cX2_copyFrom 50 = .ok (.getfield 24, 3) := by decide +kernel
theorem dX2_copyFrom_53 : decode cX2_copyFrom 53 = .ok (.putfield 24, 3) := by decide +kernel
theorem dX2_copyFrom_56 : decode cX2_copyFrom 56 = .ok (.aload_n 0, 1) := by decide +kernel
theorem dX2_copyFrom_57 : decode cX2_copyFrom 57 = .ok (.aload_n 1, 1) := by decide +kernel
theorem dX2_copyFrom_58 : decode cX2_copyFrom 58 = .ok (.getfield 27, 3) := by decide +kernel
theorem dX2_copyFrom_61 : decode cX2_copyFrom 61 = .ok (.putfield 27, 3) := by decide +kernel
theorem dX2_copyFrom_64 : decode cX2_copyFrom 64 = .ok (.aload_n 0, 1) := by decide +kernel
theorem dX2_copyFrom_65 : decode cX2_copyFrom 65 = .ok (.aload_n 1, 1) := by decide +kernel
theorem dX2_copyFrom_66 : decode cX2_copyFrom 66 = .ok (.getfield 30, 3) := by decide +kernel
theorem dX2_copyFrom_69 : decode cX2_copyFrom 69 = .ok (.putfield 30, 3) := by decide +kernel
theorem dX2_copyFrom_72 : decode cX2_copyFrom 72 = .ok (.aload_n 0, 1) := by decide +kernel
theorem dX2_copyFrom_73 : decode cX2_copyFrom 73 = .ok (.aload_n 1, 1) := by decide +kernel
theorem dX2_copyFrom_74 : decode cX2_copyFrom 74 = .ok (.getfield 33, 3) := by decide +kernel
theorem dX2_copyFrom_77 : decode cX2_copyFrom 77 = .ok (.putfield 33, 3) := by decide +kernel
theorem dX2_copyFrom_80 : decode cX2_copyFrom 80 = .ok (.return_, 1) := by decide +kernel
theorem dX3_init_0 : decode cX3_init 0 = .ok (.aload_n 0, 1) := by decide +kernel
theorem dX3_init_1 : decode cX3_init 1 = .ok (.invokespecial 3, 3) := by decide +kernel
theorem dX3_init_4 : decode cX3_init 4 = .ok (.aload_n 0, 1) := by decide +kernel
theorem dX3_init_5 : decode cX3_init 5 = .ok (.new 9, 3) := by decide +kernel
theorem dX3_init_8 : decode cX3_init 8 = .ok (.dup, 1) := by decide +kernel
theorem dX3_init_9 : decode cX3_init 9 = .ok (.invokespecial 11, 3) := by decide +kernel
theorem dX3_init_12 : decode cX3_init 12 = .ok (.putfield 12, 3) := by decide +kernel
theorem dX3_init_15 : decode cX3_init 15 = .ok (.aload_n 0, 1) := by decide +kernel
theorem dX3_init_16 : decode cX3_init 16 = .ok (.iconst 0, 1) := by decide +kernel
theorem dX3_init_17 : decode cX3_init 17 = .ok (.putfield 18, 3) := by decide +kernel
theorem dX3_init_20 : decode cX3_init 20 = .ok (.aload_n 0, 1) := by decide +kernel
theorem dX3_init_21 : decode cX3_init 21 = .ok (.iconst 0, 1) := by decide +kernel
theorem dX3_init_22 : decode cX3_init 22 = .ok (.putfield 22, 3) := by decide +kernel
theorem dX3_init_25 : decode cX3_init 25 = .ok (.aload_n 0, 1) := by decide +kernel
theorem dX3_init_26 : decode cX3_init 26 = .ok (.iconst 0, 1) := by decide +kernel
theorem dX3_init_27 : decode cX3_init 27 = .ok (.putfield 25, 3) := by decide +kernel
theorem dX3_init_30 : decode cX3_init 30 = .ok (.aload_n 0, 1) := by decide +kernel
theorem dX3_init_31 : decode cX3_init 31 = .ok (.iconst 0, 1) := by decide +kernel
theorem dX3_init_32 : decode cX3_init 32 = .ok (.putfield 29, 3) := by decide +kernel
theorem dX3_init_35 : decode cX3_init 35 = .ok (.aload_n 0, 1) := by decide +kernel
theorem dX3_init_36 : decode cX3_init 36 = .ok (.iconst 0, 1) := by decide +kernel
theorem dX3_init_37 : decode cX3_init 37 = .ok (.putfield 32, 3) := by decide +kernel
theorem dX3_init_40 : decode cX3_init 40 = .ok (.aload_n 0, 1) := by decide +kernel
theorem dX3_init_41 : decode cX3_init 41 = .ok (.iconst 0, 1) := by decide +kernel
theorem dX3_init_42 : decode cX3_init 42 = .ok (.putfield 35, 3) := by decide +kernel
theorem dX3_init_45 : decode cX3_init 45 = .ok (.aload_n 0, 1) := by decide +kernel
theorem dX3_init_46 : decode cX3_init 46 = .ok (.iconst 0, 1) := by decide +kernel
theorem dX3_init_47 : decode cX3_init 47 = .ok (.putfield 38, 3) := by decide +kernel
theorem dX3_init_50 : decode cX3_init 50 = .ok (.aload_n 0, 1) := by decide +kernel
theorem dX3_init_51 : decode cX3_init 51 = .ok (.iconst 0, 1) := by decide +kernel
theorem dX3_init_52 : decode cX3_init 52 = .ok (.putfield 41, 3) := by decide +kernel
theorem dX3_init_55 : decode cX3_init 55 = .ok (.aload_n 0, 1) := by decide +kernel
theorem dX3_init_56 : decode cX3_init 56 = .ok (.iconst 0, 1) := by decide +kernel
theorem dX3_init_57 : decode cX3_init 57 = .ok (.putfield 44, 3) := by decide +kernel
theorem dX3_init_60 : decode cX3_init 60 = .ok (.aload_n 0, 1) := by decide +kernel
theorem dX3_init_61 : decode cX3_init 61 = .ok (.iconst 0, 1) := by decide +kernel
theorem dX3_init_62 : decode cX3_init 62 = .ok (.putfield 47, 3) := by decide +kernel
theorem dX3_init_65 : decode cX3_init 65 = .ok (.return_, 1) := by decide +kernel
theorem dX3_beginDay_0 : decode cX3_beginDay 0 = .ok (.aload_n 0, 1) := by decide +kernel
theorem dX3_beginDay_1 : decode cX3_beginDay 1 = .ok (.getfield 12, 3) := by decide +kernel
theorem dX3_beginDay_4 : decode cX3_beginDay 4 = .ok (.aload_n 1, 1) := by decide +kernel
theorem dX3_beginDay_5 : decode cX3_beginDay 5 = .ok (.invokevirtual 50, 3) := by decide +kernel
theorem dX3_beginDay_8 : decode cX3_beginDay 8 = .ok (.aload_n 0, 1) := by decide +kernel
theorem dX3_beginDay_9 : decode cX3_beginDay 9 = .ok (.aload_n 1, 1) := by decide +kernel
theorem dX3_beginDay_10 : decode cX3_beginDay 10 = .ok (.getfield 54, 3) := by decide +kernel
theorem dX3_beginDay_13 : decode cX3_beginDay 13 = .ok (.putfield 18, 3) := by decide +kernel
theorem dX3_beginDay_16 : decode cX3_beginDay 16 = .ok (.aload_n 0, 1) := by decide +kernel
theorem dX3_beginDay_17 : decode cX3_beginDay 17 = .ok (.aload_n 1, 1) := by decide +kernel
theorem dX3_beginDay_18 : decode cX3_beginDay 18 = .ok (.getfield 57, 3) := by decide +kernel
theorem dX3_beginDay_21 : decode cX3_beginDay 21 = .ok (.putfield 22, 3) := by decide +kernel
theorem dX3_beginDay_24 : decode cX3_beginDay 24 = .ok (.aload_n 0, 1) := by decide +kernel
theorem dX3_beginDay_25 : decode cX3_beginDay 25 = .ok (.iconst 0, 1) := by decide +kernel
theorem dX3_beginDay_26 : decode cX3_beginDay 26 = .ok (.putfield 25, 3) := by decide +kernel
theorem dX3_beginDay_29 : decode cX3_beginDay 29 = .ok (.aload_n 0, 1) := by decide +kernel
theorem dX3_beginDay_30 : decode cX3_beginDay 30 = .ok (.iconst 0, 1) := by decide +kernel
theorem dX3_beginDay_31 : decode cX3_beginDay 31 = .ok (.putfield 38, 3) := by decide +kernel
theorem dX3_beginDay_34 : decode cX3_beginDay 34 = .ok (.aload_n 0, 1) := by decide +kernel
theorem dX3_beginDay_35 : decode cX3_beginDay 35 = .ok (.iconst 0, 1) := by decide +kernel
theorem dX3_beginDay_36 : decode cX3_beginDay 36 = .ok (.putfield 41, 3) := by decide +kernel
theorem dX3_beginDay_39 : decode cX3_beginDay 39 = .ok (.aload_n 0, 1) := by decide +kernel
theorem dX3_beginDay_40 : decode cX3_beginDay 40 = .ok (.iconst 0, 1) := by decide +kernel
theorem dX3_beginDay_41 : decode cX3_beginDay 41 = .ok (.putfield 44, 3) := by decide +kernel
theorem dX3_beginDay_44 : decode cX3_beginDay 44 = .ok (.aload_n 0, 1) := by decide +kernel
theorem dX3_beginDay_45 : decode cX3_beginDay 45 = .ok (.iconst 0, 1) := by decide +kernel
theorem dX3_beginDay_46 : decode cX3_beginDay 46 = .ok (.putfield 47, 3) := by decide +kernel
theorem dX3_beginDay_49 : decode cX3_beginDay 49 = .ok (.return_, 1) := by decide +kernel
theorem dX3_beginHour_0 : decode cX3_beginHour 0 = .ok (.aload_n 0, 1) := by decide +kernel
theorem dX3_beginHour_1 : decode cX3_beginHour 1 = .ok (.aload_n 0, 1) := by decide +kernel
theorem dX3_beginHour_2 : decode cX3_beginHour 2 = .ok (.getfield 25, 3) := by decide +kernel
theorem dX3_beginHour_5 : decode cX3_beginHour 5 = .ok (.ifCond .eq 17, 3) := by decide +kernel
theorem dX3_beginHour_8 : decode cX3_beginHour 8 = .ok (.iload_n 1, 1) := by decide +kernel
theorem dX3_beginHour_9 : decode cX3_beginHour 9 = .ok (.aload_n 0, 1) := by decide +kernel
theorem dX3_beginHour_10 : decode cX3_beginHour 10 = .ok (.getfield 29, 3) := by decide +kernel
theorem dX3_beginHour_13 : decode cX3_beginHour 13 = .ok (.iconst 2, 1) := by decide +kernel
theorem dX3_beginHour_14 : decode cX3_beginHour 14 = .ok (.iadd, 1) := by decide +kernel
theorem dX3_beginHour_15 : decode cX3_beginHour 15 = .ok (.if_icmp .ne 7, 3) := by decide +kernel
theorem dX3_beginHour_18 : decode cX3_beginHour 18 = .ok (.iconst 1, 1) := by decide +kernel
theorem dX3_beginHour_19 : decode cX3_beginHour 19 = .ok (.goto 4, 3) := by decide +kernel
theorem dX3_beginHour_22 : decode cX3_beginHour 22 = .ok (.iconst 0, 1) := by decide +kernel
theorem dX3_beginHour_23 : decode cX3_beginHour 23 = .ok (.putfield 32, 3) := by decide +kernel
theorem dX3_beginHour_26 : decode cX3_beginHour 26 = .ok (.aload_n 0, 1) := by decide +kernel
theorem dX3_beginHour_27 : decode cX3_beginHour 27 = .ok (.getfield 32, 3) := by decide +kernel
theorem dX3_beginHour_30 : decode cX3_beginHour 30 = .ok (.ifCond .eq 20, 3) := by decide +kernel
theorem dX3_beginHour_33 : decode cX3_beginHour 33 = .ok (.aload_n 0, 1) := by decide +kernel
theorem dX3_beginHour_34 : decode cX3_beginHour 34 = .ok (.iconst 0, 1) := by decide +kernel
theorem dX3_beginHour_35 : decode cX3_beginHour 35 = .ok (.putfield 25, 3) := by decide +kernel
theorem dX3_beginHour_38 : decode cX3_beginHour 38 = .ok (.aload_n 0, 1) := by decide +kernel
theorem dX3_beginHour_39 : decode cX3_beginHour 39 = .ok (.aload_n 0, 1) := by decide +kernel
theorem dX3_beginHour_40 : decode cX3_beginHour 40 = .ok (.getfield 22, 3) := by decide +kernel
theorem dX3_beginHour_43 : decode cX3_beginHour 43 = .ok (.iconst 1, 1) := by decide +kernel
theorem dX3_beginHour_44 : decode cX3_beginHour 44 = .ok (.iadd, 1) := by decide +kernel
theorem dX3_beginHour_45 : decode cX3_beginHour 45 = .ok (.iconst 2, 1) := by decide +kernel
theorem dX3_beginHour_46 : decode cX3_beginHour 46 = .ok (.irem, 1) := by decide +kernel
theorem dX3_beginHour_47 : decode cX3_beginHour 47 = .ok (.putfield 22, 3) := by decide +kernel
theorem dX3_beginHour_50 : decode cX3_beginHour 50 = .ok (.aload_n 0, 1) := by decide +kernel
theorem dX3_beginHour_51 : decode cX3_beginHour 51 = .ok (.aload_n 0, 1) := by decide +kernel
theorem dX3_beginHour_52 : decode cX3_beginHour 52 = .ok (.getfield 25, 3) := by decide +kernel
theorem dX3_beginHour_55 : decode cX3_beginHour 55 = .ok (.ifCond .ne 42, 3) := by decide +kernel
theorem dX3_beginHour_58 : decode cX3_beginHour 58 = .ok (.iload_n 1, 1) := by decide +kernel
theorem dX3_beginHour_59 : decode cX3_beginHour 59 = .ok (.bipush 21, 2) := by decide +kernel
theorem dX3_beginHour_61 : decode cX3_beginHour 61 = .ok (.if_icmp .gt 36, 3) := by decide +kernel
theorem dX3_beginHour_64 : decode cX3_beginHour 64 = .ok (.aload_n 0, 1) := by decide +kernel
theorem dX3_beginHour_65 : decode cX3_beginHour 65 = .ok (.getfield 12, 3) := by decide +kernel
theorem dX3_beginHour_68 : decode cX3_beginHour 68 = .ok (.aload_n 0, 1) := by decide +kernel
theorem dX3_beginHour_69 : decode cX3_beginHour 69 = .ok (.getfield 38, 3) := by decide +kernel
theorem dX3_beginHour_72 : decode cX3_beginHour 72 = .ok (.invokevirtual 60, 3) := by decide +kernel
theorem dX3_beginHour_75 : decode cX3_beginHour 75 = .ok (.ifCond .eq 22, 3) := by decide +kernel
theorem dX3_beginHour_78 : decode cX3_beginHour 78 = .ok (.aload_n 0, 1) := by decide +kernel
theorem dX3_beginHour_79 : decode cX3_beginHour 79 = .ok (.getfield 12, 3) := by decide +kernel
theorem dX3_beginHour_82 : decode cX3_beginHour 82 = .ok (.aload_n 0, 1) := by decide +kernel
theorem dX3_beginHour_83 : decode cX3_beginHour 83 = .ok (.getfield 38, 3) := by decide +kernel
theorem dX3_beginHour_86 : decode cX3_beginHour 86 = .ok (.invokevirtual 64, 3) := by decide +kernel
theorem dX3_beginHour_89 : decode cX3_beginHour 89 = .ok (.iload_n 1, 1) := by decide +kernel
theorem dX3_beginHour_90 : decode cX3_beginHour 90 = .ok (.if_icmp .gt 7, 3) := by decide +kernel
theorem dX3_beginHour_93 : decode cX3_beginHour 93 = .ok (.iconst 1, 1) := by decide +kernel
theorem dX3_beginHour_94 : decode cX3_beginHour 94 = .ok (.goto 4, 3) := by decide +kernel
theorem dX3_beginHour_97 : decode cX3_beginHour 97 = .ok (.iconst 0, 1) := by decide +kernel
theorem dX3_beginHour_98 : decode cX3_beginHour 98 = .ok (.putfield 35, 3) := by decide +kernel
theorem dX3_beginHour_101 : decode cX3_beginHour 101 = .ok (.aload_n 0, 1) := by decide +kernel
theorem dX3_beginHour_102 : decode cX3_beginHour 102 = .ok (.getfield 35, 3) := by decide +kernel
theorem dX3_beginHour_105 : decode cX3_beginHour 105 = .ok (.ifCond .eq 26, 3) := by decide +kernel
theorem dX3_beginHour_108 : decode cX3_beginHour 108 = .ok (.iload_n 2, 1) := by decide +kernel
theorem dX3_beginHour_109 : decode cX3_beginHour 109 = .ok (.aload_n 0, 1) := by decide +kernel
theorem dX3_beginHour_110 : decode cX3_beginHour 110 = .ok (.getfield 18, 3) := by decide +kernel
theorem dX3_beginHour_113 : decode cX3_beginHour 113 = .ok (.if_icmp .ge 18, 3) := by decide +kernel
theorem dX3_beginHour_116 : decode cX3_beginHour 116 = .ok (.aload_n 0, 1) := by decide +kernel
theorem dX3_beginHour_117 : decode cX3_beginHour 117 = .ok (.dup, 1) := by decide +kernel
theorem dX3_beginHour_118 : decode cX3_beginHour 118 = .ok (.getfield 41, 3) := by decide +kernel
theorem dX3_beginHour_121 : decode cX3_beginHour 121 = .ok (.iconst 1, 1) := by decide +kernel
theorem dX3_beginHour_122 : decode cX3_beginHour 122 = .ok (.iadd, 1) := by decide +kernel
theorem dX3_beginHour_123 : decode cX3_beginHour 123 = .ok (.putfield 41, 3) := by decide +kernel
theorem dX3_beginHour_126 : decode cX3_beginHour 126 = .ok (.aload_n 0, 1) := by decide +kernel
theorem dX3_beginHour_127 : decode cX3_beginHour 127 = .ok (.iconst 0, 1) := by decide +kernel
theorem dX3_beginHour_128 : decode cX3_beginHour 128 = .ok (.putfield 35, 3) := by decide +kernel
theorem dX3_beginHour_131 : decode cX3_beginHour 131 = .ok (.return_, 1) := by decide +kernel
theorem dX3_wantsFrom_0 : decode cX3_wantsFrom 0 = .ok (.aload_n 0, 1) := by decide +kernel
theorem dX3_wantsFrom_1 : decode cX3_wantsFrom 1 = .ok (.getfield 35, 3) := by decide +kernel
theorem dX3_wantsFrom_4 : decode cX3_wantsFrom 4 = .ok (.ifCond .eq 15, 3) := by decide +kernel
theorem dX3_wantsFrom_7 : decode cX3_wantsFrom 7 = .ok (.aload_n 0, 1) := by decide +kernel
theorem dX3_wantsFrom_8 : decode cX3_wantsFrom 8 = .ok (.getfield 22, 3) := by decide +kernel
theorem dX3_wantsFrom_11 : decode cX3_wantsFrom 11 = .ok (.iload_n 1, 1) := by decide +kernel
theorem dX3_wantsFrom_12 : decode cX3_wantsFrom 12 = .ok (.if_icmp .ne 7, 3) := by decide +kernel
theorem dX3_wantsFrom_15 : decode cX3_wantsFrom 15 = .ok (.iconst 1, 1) := by decide +kernel
theorem dX3_wantsFrom_16 : decode cX3_wantsFrom 16 = .ok (.goto 4, 3) := by decide +kernel
theorem dX3_wantsFrom_19 : decode cX3_wantsFrom 19 = .ok (.iconst 0, 1) := by decide +kernel
theorem dX3_wantsFrom_20 : decode cX3_wantsFrom 20 = .ok (.ireturn, 1) := by decide +kernel
theorem dX3_arrivedAt_0 : decode cX3_arrivedAt 0 = .ok (.aload_n 0, 1) := by decide +kernel
theorem dX3_arrivedAt_1 : decode cX3_arrivedAt 1 = .ok (.getfield 32, 3) := by decide +kernel
theorem dX3_arrivedAt_4 : decode cX3_arrivedAt 4 = .ok (.ifCond .eq 15, 3) := by decide +kernel
theorem dX3_arrivedAt_7 : decode cX3_arrivedAt 7 = .ok (.aload_n 0, 1) := by decide +kernel
theorem dX3_arrivedAt_8 : decode cX3_arrivedAt 8 = .ok (.getfield 22, 3) := by decide +kernel
theorem dX3_arrivedAt_11 : decode cX3_arrivedAt 11 = .ok (.iload_n 1, 1) := by decide +kernel
theorem dX3_arrivedAt_12 : decode cX3_arrivedAt 12 = .ok (.if_icmp .ne 7, 3) := by decide +kernel
theorem dX3_arrivedAt_15 : decode cX3_arrivedAt 15 = .ok (.iconst 1, 1) := by decide +kernel
theorem dX3_arrivedAt_16 : decode cX3_arrivedAt 16 = .ok (.goto 4, 3) := by decide +kernel
theorem dX3_arrivedAt_19 : decode cX3_arrivedAt 19 = .ok (.iconst 0, 1) := by decide +kernel
theorem dX3_arrivedAt_20 : decode cX3_arrivedAt 20 = .ok (.ireturn, 1) := by decide +kernel
theorem dX3_depart_0 : decode cX3_depart 0 = .ok (.aload_n 0, 1) := by decide +kernel
theorem dX3_depart_1 : decode cX3_depart 1 = .ok (.iconst 1, 1) := by decide +kernel
theorem dX3_depart_2 : decode cX3_depart 2 = .ok (.putfield 25, 3) := by decide +kernel
theorem dX3_depart_5 : decode cX3_depart 5 = .ok (.aload_n 0, 1) := by decide +kernel
theorem dX3_depart_6 : decode cX3_depart 6 = .ok (.iconst 0, 1) := by decide +kernel
theorem dX3_depart_7 : decode cX3_depart 7 = .ok (.putfield 35, 3) := by decide +kernel
theorem dX3_depart_10 : decode cX3_depart 10 = .ok (.aload_n 0, 1) := by decide +kernel
theorem dX3_depart_11 : decode cX3_depart 11 = .ok (.iload_n 1, 1) := by decide +kernel
theorem dX3_depart_12 : decode cX3_depart 12 = .ok (.putfield 29, 3) := by decide +kernel
theorem dX3_depart_15 : decode cX3_depart 15 = .ok (.aload_n 0, 1) := by decide +kernel
theorem dX3_depart_16 : decode cX3_depart 16 = .ok (.dup, 1) := by decide +kernel
theorem dX3_depart_17 : decode cX3_depart 17 = .ok (.getfield 38, 3) := by decide +kernel
theorem dX3_depart_20 : decode cX3_depart 20 = .ok (.iconst 1, 1) := by decide +kernel
theorem dX3_depart_21 : decode cX3_depart 21 = .ok (.iadd, 1) := by decide +kernel
theorem dX3_depart_22 : decode cX3_depart 22 = .ok (.putfield 38, 3) := by decide +kernel
theorem dX3_depart_25 : decode cX3_depart 25 = .ok (.return_, 1) := by decide +kernel
theorem dX3_stay_0 : decode cX3_stay 0 = .ok (.aload_n 0, 1) := by decide +kernel
theorem dX3_stay_1 : decode cX3_stay 1 = .ok (.dup, 1) := by decide +kernel
theorem dX3_stay_2 : decode cX3_stay 2 = .ok (.getfield 44, 3) := by decide +kernel
theorem dX3_stay_5 : decode cX3_stay 5 = .ok (.iconst 1, 1) := by decide +kernel
theorem dX3_stay_6 : decode cX3_stay 6 = .ok (.iadd, 1) := by decide +kernel
theorem dX3_stay_7 : decode cX3_stay 7 = .ok (.putfield 44, 3) := by decide +kernel
theorem dX3_stay_10 : decode cX3_stay 10 = .ok (.iload_n 1, 1) := by decide +kernel
theorem dX3_stay_11 : decode cX3_stay 11 = .ok (.ifCond .eq 13, 3) := by decide +kernel
theorem dX3_stay_14 : decode cX3_stay 14 = .ok (.aload_n 0, 1) := by decide +kernel
theorem dX3_stay_15 : decode cX3_stay 15 = .ok (.dup, 1) := by decide +kernel
theorem dX3_stay_16 : decode cX3_stay 16 = .ok (.getfield 47, 3) := by decide +kernel
theorem dX3_stay_19 : decode cX3_stay 19 = .ok (.iconst 1, 1) := by decide +kernel
theorem dX3_stay_20 : decode cX3_stay 20 = .ok (.iadd, 1) := by decide +kernel
theorem dX3_stay_21 : decode cX3_stay 21 = .ok (.putfield 47, 3) := by decide +kernel
theorem dX3_stay_24 : decode cX3_stay 24 = .ok (.return_, 1) := by decide +kernel
theorem dX3_crossingsLeft_0 : decode cX3_crossingsLeft 0 = .ok (.aload_n 0, 1) := by decide +kernel
theorem dX3_crossingsLeft_1 : decode cX3_crossingsLeft 1 = .ok (.getfield 12, 3) := by decide +kernel
theorem dX3_crossingsLeft_4 : decode cX3_crossingsLeft 4 = .ok (.getfield 68, 3) := by decide +kernel
theorem dX3_crossingsLeft_7 : decode cX3_crossingsLeft 7 = .ok (.aload_n 0, 1) := by decide +kernel
theorem dX3_crossingsLeft_8 : decode cX3_crossingsLeft 8 = .ok (.getfield 38, 3) := by decide +kernel
theorem dX3_crossingsLeft_11 : decode cX3_crossingsLeft 11 = .ok (.isub, 1) := by decide +kernel
theorem dX3_crossingsLeft_12 : decode cX3_crossingsLeft 12 = .ok (.ireturn, 1) := by decide +kernel
theorem dX3_isLesson_0 : decode cX3_isLesson 0 = .ok (.aload_n 0, 1) := by decide +kernel
theorem dX3_isLesson_1 : decode cX3_isLesson 1 = .ok (.getfield 41, 3) := by decide +kernel
theorem dX3_isLesson_4 : decode cX3_isLesson 4 = .ok (.iload_n 1, 1) := by decide +kernel
theorem dX3_isLesson_5 : decode cX3_isLesson 5 = .ok (.if_icmp .lt 7, 3) := by decide +kernel
theorem dX3_isLesson_8 : decode cX3_isLesson 8 = .ok (.iconst 1, 1) := by decide +kernel
theorem dX3_isLesson_9 : decode cX3_isLesson 9 = .ok (.goto 4, 3) := by decide +kernel
theorem dX3_isLesson_12 : decode cX3_isLesson 12 = .ok (.iconst 0, 1) := by decide +kernel
theorem dX3_isLesson_13 : decode cX3_isLesson 13 = .ok (.ireturn, 1) := by decide +kernel
theorem dX3_tell_0 : decode cX3_tell 0 = .ok (.iload_n 1, 1) := by decide +kernel
theorem dX3_tell_1 : decode cX3_tell 1 = .ok (.tableswitch 55 5 9 #[35, 40, 45, 55, 50], 35) := by decide +kernel
theorem dX3_tell_36 : decode cX3_tell 36 = .ok (.aload_n 0, 1) := by decide +kernel
theorem dX3_tell_37 : decode cX3_tell 37 = .ok (.getfield 38, 3) := by decide +kernel
theorem dX3_tell_40 : decode cX3_tell 40 = .ok (.ireturn, 1) := by decide +kernel
theorem dX3_tell_41 : decode cX3_tell 41 = .ok (.aload_n 0, 1) := by decide +kernel
theorem dX3_tell_42 : decode cX3_tell 42 = .ok (.getfield 41, 3) := by decide +kernel
theorem dX3_tell_45 : decode cX3_tell 45 = .ok (.ireturn, 1) := by decide +kernel
theorem dX3_tell_46 : decode cX3_tell 46 = .ok (.aload_n 0, 1) := by decide +kernel
theorem dX3_tell_47 : decode cX3_tell 47 = .ok (.getfield 44, 3) := by decide +kernel
theorem dX3_tell_50 : decode cX3_tell 50 = .ok (.ireturn, 1) := by decide +kernel
theorem dX3_tell_51 : decode cX3_tell 51 = .ok (.aload_n 0, 1) := by decide +kernel
theorem dX3_tell_52 : decode cX3_tell 52 = .ok (.invokevirtual 71, 3) := by decide +kernel
theorem dX3_tell_55 : decode cX3_tell 55 = .ok (.ireturn, 1) := by decide +kernel
theorem dX3_tell_56 : decode cX3_tell 56 = .ok (.iconst 0, 1) := by decide +kernel
theorem dX3_tell_57 : decode cX3_tell 57 = .ok (.ireturn, 1) := by decide +kernel
theorem dX4_init_0 : decode cX4_init 0 = .ok (.aload_n 0, 1) := by decide +kernel
theorem dX4_init_1 : decode cX4_init 1 = .ok (.invokespecial 3, 3) := by decide +kernel
theorem dX4_init_4 : decode cX4_init 4 = .ok (.aload_n 0, 1) := by decide +kernel
theorem dX4_init_5 : decode cX4_init 5 = .ok (.iconst 3, 1) := by decide +kernel
theorem dX4_init_6 : decode cX4_init 6 = .ok (.anewarray 9, 3) := by decide +kernel
theorem dX4_init_9 : decode cX4_init 9 = .ok (.dup, 1) := by decide +kernel
theorem dX4_init_10 : decode cX4_init 10 = .ok (.iconst 0, 1) := by decide +kernel
theorem dX4_init_11 : decode cX4_init 11 = .ok (.new 9, 3) := by decide +kernel
theorem dX4_init_14 : decode cX4_init 14 = .ok (.dup, 1) := by decide +kernel
theorem dX4_init_15 : decode cX4_init 15 = .ok (.invokespecial 11, 3) := by decide +kernel
theorem dX4_init_18 : decode cX4_init 18 = .ok (.aastore, 1) := by decide +kernel
theorem dX4_init_19 : decode cX4_init 19 = .ok (.dup, 1) := by decide +kernel
theorem dX4_init_20 : decode cX4_init 20 = .ok (.iconst 1, 1) := by decide +kernel
theorem dX4_init_21 : decode cX4_init 21 = .ok (.new 9, 3) := by decide +kernel
theorem dX4_init_24 : decode cX4_init 24 = .ok (.dup, 1) := by decide +kernel
theorem dX4_init_25 : decode cX4_init 25 = .ok (.invokespecial 11, 3) := by decide +kernel
theorem dX4_init_28 : decode cX4_init 28 = .ok (.aastore, 1) := by decide +kernel
theorem dX4_init_29 : decode cX4_init 29 = .ok (.dup, 1) := by decide +kernel
theorem dX4_init_30 : decode cX4_init 30 = .ok (.iconst 2, 1) := by decide +kernel
theorem dX4_init_31 : decode cX4_init 31 = .ok (.new 9, 3) := by decide +kernel
theorem dX4_init_34 : decode cX4_init 34 = .ok (.dup, 1) := by decide +kernel
theorem dX4_init_35 : decode cX4_init 35 = .ok (.invokespecial 11, 3) := by decide +kernel
theorem dX4_init_38 : decode cX4_init 38 = .ok (.aastore, 1) := by decide +kernel
theorem dX4_init_39 : decode cX4_init 39 = .ok (.putfield 12, 3) := by decide +kernel
theorem dX4_init_42 : decode cX4_init 42 = .ok (.aload_n 0, 1) := by decide +kernel
theorem dX4_init_43 : decode cX4_init 43 = .ok (.iconst 0, 1) := by decide +kernel
theorem dX4_init_44 : decode cX4_init 44 = .ok (.putfield 18, 3) := by decide +kernel
theorem dX4_init_47 : decode cX4_init 47 = .ok (.aload_n 0, 1) := by decide +kernel
theorem dX4_init_48 : decode cX4_init 48 = .ok (.iconst 0, 1) := by decide +kernel
theorem dX4_init_49 : decode cX4_init 49 = .ok (.putfield 22, 3) := by decide +kernel
theorem dX4_init_52 : decode cX4_init 52 = .ok (.return_, 1) := by decide +kernel
theorem dX4_run_0 : decode cX4_run 0 = .ok (.aload_n 0, 1) := by decide +kernel
theorem dX4_run_1 : decode cX4_run 1 = .ok (.aload_n 1, 1) := by decide +kernel
theorem dX4_run_2 : decode cX4_run 2 = .ok (.getfield 25, 3) := by decide +kernel
theorem dX4_run_5 : decode cX4_run 5 = .ok (.putfield 18, 3) := by decide +kernel
theorem dX4_run_8 : decode cX4_run 8 = .ok (.aload_n 0, 1) := by decide +kernel
theorem dX4_run_9 : decode cX4_run 9 = .ok (.iconst 0, 1) := by decide +kernel
theorem dX4_run_10 : decode cX4_run 10 = .ok (.putfield 22, 3) := by decide +kernel
theorem dX4_run_13 : decode cX4_run 13 = .ok (.iconst 0, 1) := by decide +kernel
theorem dX4_run_14 : decode cX4_run 14 = .ok (.istore_n 2, 1) := by decide +kernel
theorem dX4_run_15 : decode cX4_run 15 = .ok (.iload_n 2, 1) := by decide +kernel
theorem dX4_run_16 : decode cX4_run 16 = .ok (.iconst 3, 1) := by decide +kernel
theorem dX4_run_17 : decode cX4_run 17 = .ok (.if_icmp .ge 24, 3) := by decide +kernel
theorem dX4_run_20 : decode cX4_run 20 = .ok (.aload_n 0, 1) := by decide +kernel
theorem dX4_run_21 : decode cX4_run 21 = .ok (.getfield 12, 3) := by decide +kernel
theorem dX4_run_24 : decode cX4_run 24 = .ok (.iload_n 2, 1) := by decide +kernel
theorem dX4_run_25 : decode cX4_run 25 = .ok (.aaload, 1) := by decide +kernel
theorem dX4_run_26 : decode cX4_run 26 = .ok (.aload_n 1, 1) := by decide +kernel
theorem dX4_run_27 : decode cX4_run 27 = .ok (.getfield 28, 3) := by decide +kernel
theorem dX4_run_30 : decode cX4_run 30 = .ok (.iload_n 2, 1) := by decide +kernel
theorem dX4_run_31 : decode cX4_run 31 = .ok (.aaload, 1) := by decide +kernel
theorem dX4_run_32 : decode cX4_run 32 = .ok (.invokevirtual 32, 3) := by decide +kernel
theorem dX4_run_35 : decode cX4_run 35 = .ok (.iinc 2 1, 3) := by decide +kernel
theorem dX4_run_38 : decode cX4_run 38 = .ok (.goto (-23), 3) := by decide +kernel
theorem dX4_run_41 : decode cX4_run 41 = .ok (.iconst 0, 1) := by decide +kernel
theorem dX4_run_42 : decode cX4_run 42 = .ok (.istore_n 2, 1) := by decide +kernel
theorem dX4_run_43 : decode cX4_run 43 = .ok (.iload_n 2, 1) := by decide +kernel
theorem dX4_run_44 : decode cX4_run 44 = .ok (.bipush 24, 2) := by decide +kernel
theorem dX4_run_46 : decode cX4_run 46 = .ok (.if_icmp .ge 81, 3) := by decide +kernel
theorem dX4_run_49 : decode cX4_run 49 = .ok (.aload_n 1, 1) := by decide +kernel
theorem dX4_run_50 : decode cX4_run 50 = .ok (.getfield 36, 3) := by decide +kernel
theorem dX4_run_53 : decode cX4_run 53 = .ok (.iload_n 2, 1) := by decide +kernel
theorem dX4_run_54 : decode cX4_run 54 = .ok (.invokestatic 39, 3) := by decide +kernel
theorem dX4_run_57 : decode cX4_run 57 = .ok (.istore_n 3, 1) := by decide +kernel
theorem dX4_run_58 : decode cX4_run 58 = .ok (.aload_n 0, 1) := by decide +kernel
theorem dX4_run_59 : decode cX4_run 59 = .ok (.getfield 12, 3) := by decide +kernel
theorem dX4_run_62 : decode cX4_run 62 = .ok (.astore 4, 2) := by decide +kernel
theorem dX4_run_64 : decode cX4_run 64 = .ok (.aload 4, 2) := by decide +kernel
theorem dX4_run_66 : decode cX4_run 66 = .ok (.arraylength, 1) := by decide +kernel
theorem dX4_run_67 : decode cX4_run 67 = .ok (.istore 5, 2) := by decide +kernel
theorem dX4_run_69 : decode cX4_run 69 = .ok (.iconst 0, 1) := by decide +kernel
theorem dX4_run_70 : decode cX4_run 70 = .ok (.istore 6, 2) := by decide +kernel
theorem dX4_run_72 : decode cX4_run 72 = .ok (.iload 6, 2) := by decide +kernel
theorem dX4_run_74 : decode cX4_run 74 = .ok (.iload 5, 2) := by decide +kernel
theorem dX4_run_76 : decode cX4_run 76 = .ok (.if_icmp .ge 23, 3) := by decide +kernel
theorem dX4_run_79 : decode cX4_run 79 = .ok (.aload 4, 2) := by decide +kernel
theorem dX4_run_81 : decode cX4_run 81 = .ok (.iload 6, 2) := by decide +kernel
theorem dX4_run_83 : decode cX4_run 83 = .ok (.aaload, 1) := by decide +kernel
theorem dX4_run_84 : decode cX4_run 84 = .ok (.astore 7, 2) := by decide +kernel
theorem dX4_run_86 : decode cX4_run 86 = .ok (.aload 7, 2) := by decide +kernel
theorem dX4_run_88 : decode cX4_run 88 = .ok (.iload_n 2, 1) := by decide +kernel
theorem dX4_run_89 : decode cX4_run 89 = .ok (.iload_n 3, 1) := by decide +kernel
theorem dX4_run_90 : decode cX4_run 90 = .ok (.invokevirtual 43, 3) := by decide +kernel
theorem dX4_run_93 : decode cX4_run 93 = .ok (.iinc 6 1, 3) := by decide +kernel
theorem dX4_run_96 : decode cX4_run 96 = .ok (.goto (-24), 3) := by decide +kernel
theorem dX4_run_99 : decode cX4_run 99 = .ok (.iconst 0, 1) := by decide +kernel
theorem dX4_run_100 : decode cX4_run 100 = .ok (.istore 4, 2) := by decide +kernel
theorem dX4_run_102 : decode cX4_run 102 = .ok (.iload 4, 2) := by decide +kernel
theorem dX4_run_104 : decode cX4_run 104 = .ok (.iconst 2, 1) := by decide +kernel
theorem dX4_run_105 : decode cX4_run 105 = .ok (.if_icmp .ge 16, 3) := by decide +kernel
theorem dX4_run_108 : decode cX4_run 108 = .ok (.aload_n 0, 1) := by decide +kernel
theorem dX4_run_109 : decode cX4_run 109 = .ok (.iload 4, 2) := by decide +kernel
theorem dX4_run_111 : decode cX4_run 111 = .ok (.iload_n 2, 1) := by decide +kernel
theorem dX4_run_112 : decode cX4_run 112 = .ok (.invokevirtual 47, 3) := by decide +kernel
theorem dX4_run_115 : decode cX4_run 115 = .ok (.iinc 4 1, 3) := by decide +kernel
theorem dX4_run_118 : decode cX4_run 118 = .ok (.goto (-16), 3) := by decide +kernel
theorem dX4_run_121 : decode cX4_run 121 = .ok (.iinc 2 1, 3) := by decide +kernel
theorem dX4_run_124 : decode cX4_run 124 = .ok (.goto (-81), 3) := by decide +kernel
theorem dX4_run_127 : decode cX4_run 127 = .ok (.return_, 1) := by decide +kernel
theorem dX4_givePier_0 : decode cX4_givePier 0 = .ok (.iconst 0, 1) := by decide +kernel
theorem dX4_givePier_1 : decode cX4_givePier 1 = .ok (.istore_n 3, 1) := by decide +kernel
theorem dX4_givePier_2 : decode cX4_givePier 2 = .ok (.iconst 0, 1) := by decide +kernel
theorem dX4_givePier_3 : decode cX4_givePier 3 = .ok (.istore 4, 2) := by decide +kernel
theorem dX4_givePier_5 : decode cX4_givePier 5 = .ok (.aload_n 0, 1) := by decide +kernel
theorem dX4_givePier_6 : decode cX4_givePier 6 = .ok (.getfield 12, 3) := by decide +kernel
theorem dX4_givePier_9 : decode cX4_givePier 9 = .ok (.astore 5, 2) := by decide +kernel
theorem dX4_givePier_11 : decode cX4_givePier 11 = .ok (.aload 5, 2) := by decide +kernel
theorem dX4_givePier_13 : decode cX4_givePier 13 = .ok (.arraylength, 1) := by decide +kernel
theorem dX4_givePier_14 : decode cX4_givePier 14 = .ok (.istore 6, 2) := by decide +kernel
theorem dX4_givePier_16 : decode cX4_givePier 16 = .ok (.iconst 0, 1) := by decide +kernel
theorem dX4_givePier_17 : decode cX4_givePier 17 = .ok (.istore 7, 2) := by decide +kernel
theorem dX4_givePier_19 : decode cX4_givePier 19 = .ok (.iload 7, 2) := by decide +kernel
theorem dX4_givePier_21 : decode cX4_givePier 21 = .ok (.iload 6, 2) := by decide +kernel
theorem dX4_givePier_23 : decode cX4_givePier 23 = .ok (.if_icmp .ge 44, 3) := by decide +kernel
theorem dX4_givePier_26 : decode cX4_givePier 26 = .ok (.aload 5, 2) := by decide +kernel
theorem dX4_givePier_28 : decode cX4_givePier 28 = .ok (.iload 7, 2) := by decide +kernel
theorem dX4_givePier_30 : decode cX4_givePier 30 = .ok (.aaload, 1) := by decide +kernel
theorem dX4_givePier_31 : decode cX4_givePier 31 = .ok (.astore 8, 2) := by decide +kernel
theorem dX4_givePier_33 : decode cX4_givePier 33 = .ok (.iload_n 3, 1) := by decide +kernel
theorem dX4_givePier_34 : decode cX4_givePier 34 = .ok (.aload 8, 2) := by decide +kernel
theorem dX4_givePier_36 : decode cX4_givePier 36 = .ok (.iload_n 1, 1) := by decide +kernel
theorem dX4_givePier_37 : decode cX4_givePier 37 = .ok (.invokevirtual 50, 3) := by decide +kernel
theorem dX4_givePier_40 : decode cX4_givePier 40 = .ok (.ifCond .eq 7, 3) := by decide +kernel
theorem dX4_givePier_43 : decode cX4_givePier 43 = .ok (.iconst 1, 1) := by decide +kernel
theorem dX4_givePier_44 : decode cX4_givePier 44 = .ok (.goto 4, 3) := by decide +kernel
theorem dX4_givePier_47 : decode cX4_givePier 47 = .ok (.iconst 0, 1) := by decide +kernel
theorem dX4_givePier_48 : decode cX4_givePier 48 = .ok (.iadd, 1) := by decide +kernel
theorem dX4_givePier_49 : decode cX4_givePier 49 = .ok (.istore_n 3, 1) := by decide +kernel
theorem dX4_givePier_50 : decode cX4_givePier 50 = .ok (.iload 4, 2) := by decide +kernel
theorem dX4_givePier_52 : decode cX4_givePier 52 = .ok (.aload 8, 2) := by decide +kernel
theorem dX4_givePier_54 : decode cX4_givePier 54 = .ok (.iload_n 1, 1) := by decide +kernel
theorem dX4_givePier_55 : decode cX4_givePier 55 = .ok (.invokevirtual 54, 3) := by decide +kernel
theorem dX4_givePier_58 : decode cX4_givePier 58 = .ok (.ior, 1) := by decide +kernel
theorem dX4_givePier_59 : decode cX4_givePier 59 = .ok (.istore 4, 2) := by decide +kernel
theorem dX4_givePier_61 : decode cX4_givePier 61 = .ok (.iinc 7 1, 3) := by decide +kernel
theorem dX4_givePier_64 : decode cX4_givePier 64 = .ok (.goto (-45), 3) := by decide +kernel
theorem dX4_givePier_67 : decode cX4_givePier 67 = .ok (.iload 4, 2) := by decide +kernel
theorem dX4_givePier_69 : decode cX4_givePier 69 = .ok (.ifCond .ne 12, 3) := by decide +kernel
theorem dX4_givePier_72 : decode cX4_givePier 72 = .ok (.iload_n 3, 1) := by decide +kernel
theorem dX4_givePier_73 : decode cX4_givePier 73 = .ok (.iconst 1, 1) := by decide +kernel
theorem dX4_givePier_74 : decode cX4_givePier 74 = .ok (.if_icmp .le 7, 3) := by decide +kernel
theorem dX4_givePier_77 : decode cX4_givePier 77 = .ok (.iconst 1, 1) := by decide +kernel
theorem dX4_givePier_78 : decode cX4_givePier 78 = .ok (.goto 4, 3) := by decide +kernel
theorem dX4_givePier_81 : decode cX4_givePier 81 = .ok (.iconst 0, 1) := by decide +kernel
theorem dX4_givePier_82 : decode cX4_givePier 82 = .ok (.istore 5, 2) := by decide +kernel
theorem dX4_givePier_84 : decode cX4_givePier 84 = .ok (.iload 5, 2) := by decide +kernel
theorem dX4_givePier_86 : decode cX4_givePier 86 = .ok (.ifCond .eq 11, 3) := by decide +kernel
theorem dX4_givePier_89 : decode cX4_givePier 89 = .ok (.aload_n 0, 1) := by decide +kernel
theorem dX4_givePier_90 : decode cX4_givePier 90 = .ok (.iload_n 3, 1) := by decide +kernel
theorem dX4_givePier_91 : decode cX4_givePier 91 = .ok (.invokevirtual 57, 3) := by decide +kernel
theorem dX4_givePier_94 : decode cX4_givePier 94 = .ok (.goto 4, 3) := by decide +kernel
theorem dX4_givePier_97 : decode cX4_givePier 97 = .ok (.iconst 0, 1) := by decide +kernel
theorem dX4_givePier_98 : decode cX4_givePier 98 = .ok (.istore 6, 2) := by decide +kernel
theorem dX4_givePier_100 : decode cX4_givePier 100 = .ok (.iconst 0, 1) := by decide +kernel
theorem dX4_givePier_101 : decode cX4_givePier 101 = .ok (.istore 7, 2) := by decide +kernel
theorem dX4_givePier_103 : decode cX4_givePier 103 = .ok (.aload_n 0, 1) := by decide +kernel
theorem dX4_givePier_104 : decode cX4_givePier 104 = .ok (.getfield 12, 3) := by decide +kernel
theorem dX4_givePier_107 : decode cX4_givePier 107 = .ok (.astore 8, 2) := by decide +kernel
theorem dX4_givePier_109 : decode cX4_givePier 109 = .ok (.aload 8, 2) := by decide +kernel
theorem dX4_givePier_111 : decode cX4_givePier 111 = .ok (.arraylength, 1) := by decide +kernel
theorem dX4_givePier_112 : decode cX4_givePier 112 = .ok (.istore 9, 2) := by decide +kernel
theorem dX4_givePier_114 : decode cX4_givePier 114 = .ok (.iconst 0, 1) := by decide +kernel
theorem dX4_givePier_115 : decode cX4_givePier 115 = .ok (.istore 10, 2) := by decide +kernel
theorem dX4_givePier_117 : decode cX4_givePier 117 = .ok (.iload 10, 2) := by decide +kernel
theorem dX4_givePier_119 : decode cX4_givePier 119 = .ok (.iload 9, 2) := by decide +kernel
theorem dX4_givePier_121 : decode cX4_givePier 121 = .ok (.if_icmp .ge 56, 3) := by decide +kernel
theorem dX4_givePier_124 : decode cX4_givePier 124 = .ok (.aload 8, 2) := by decide +kernel
theorem dX4_givePier_126 : decode cX4_givePier 126 = .ok (.iload 10, 2) := by decide +kernel
theorem dX4_givePier_128 : decode cX4_givePier 128 = .ok (.aaload, 1) := by decide +kernel
theorem dX4_givePier_129 : decode cX4_givePier 129 = .ok (.astore 11, 2) := by decide +kernel
theorem dX4_givePier_131 : decode cX4_givePier 131 = .ok (.aload 11, 2) := by decide +kernel
theorem dX4_givePier_133 : decode cX4_givePier 133 = .ok (.iload_n 1, 1) := by decide +kernel
theorem dX4_givePier_134 : decode cX4_givePier 134 = .ok (.invokevirtual 50, 3) := by decide +kernel
theorem dX4_givePier_137 : decode cX4_givePier 137 = .ok (.ifCond .eq 34, 3) := by decide +kernel
theorem dX4_givePier_140 : decode cX4_givePier 140 = .ok (.iload 4, 2) := by decide +kernel
theorem dX4_givePier_142 : decode cX4_givePier 142 = .ok (.ifCond .ne 19, 3) := by decide +kernel
theorem dX4_givePier_145 : decode cX4_givePier 145 = .ok (.iload 7, 2) := by decide +kernel
theorem dX4_givePier_147 : decode cX4_givePier 147 = .ok (.iload 6, 2) := by decide +kernel
theorem dX4_givePier_149 : decode cX4_givePier 149 = .ok (.if_icmp .ne 12, 3) := by decide +kernel
theorem dX4_givePier_152 : decode cX4_givePier 152 = .ok (.aload 11, 2) := by decide +kernel
theorem dX4_givePier_154 : decode cX4_givePier 154 = .ok (.iload_n 2, 1) := by decide +kernel
theorem dX4_givePier_155 : decode cX4_givePier 155 = .ok (.invokevirtual 61, 3) := by decide +kernel
theorem dX4_givePier_158 : decode cX4_givePier 158 = .ok (.goto 10, 3) := by decide +kernel
theorem dX4_givePier_161 : decode cX4_givePier 161 = .ok (.aload 11, 2) := by decide +kernel
theorem dX4_givePier_163 : decode cX4_givePier 163 = .ok (.iload 5, 2) := by decide +kernel
theorem dX4_givePier_165 : decode cX4_givePier 165 = .ok (.invokevirtual 65, 3) := by decide +kernel
theorem dX4_givePier_168 : decode cX4_givePier 168 = .ok (.iinc 7 1, 3) := by decide +kernel
theorem dX4_givePier_171 : decode cX4_givePier 171 = .ok (.iinc 10 1, 3) := by decide +kernel
theorem dX4_givePier_174 : decode cX4_givePier 174 = .ok (.goto (-57), 3) := by decide +kernel
theorem dX4_givePier_177 : decode cX4_givePier 177 = .ok (.return_, 1) := by decide +kernel
theorem dX4_drawLot_0 : decode cX4_drawLot 0 = .ok (.aload_n 0, 1) := by decide +kernel
theorem dX4_drawLot_1 : decode cX4_drawLot 1 = .ok (.bipush 75, 2) := by decide +kernel
theorem dX4_drawLot_3 : decode cX4_drawLot 3 = .ok (.aload_n 0, 1) := by decide +kernel
theorem dX4_drawLot_4 : decode cX4_drawLot 4 = .ok (.getfield 18, 3) := by decide +kernel
theorem dX4_drawLot_7 : decode cX4_drawLot 7 = .ok (.imul, 1) := by decide +kernel
theorem dX4_drawLot_8 : decode cX4_drawLot 8 = .ok (.bipush 74, 2) := by decide +kernel
theorem dX4_drawLot_10 : decode cX4_drawLot 10 = .ok (.iadd, 1) := by decide +kernel
theorem dX4_drawLot_11 : decode cX4_drawLot 11 = .ok (.ldc 69, 2) := by decide +kernel
theorem dX4_drawLot_13 : decode cX4_drawLot 13 = .ok (.irem, 1) := by decide +kernel
theorem dX4_drawLot_14 : decode cX4_drawLot 14 = .ok (.putfield 18, 3) := by decide +kernel
theorem dX4_drawLot_17 : decode cX4_drawLot 17 = .ok (.aload_n 0, 1) := by decide +kernel
theorem dX4_drawLot_18 : decode cX4_drawLot 18 = .ok (.dup, 1) := by decide +kernel
theorem dX4_drawLot_19 : decode cX4_drawLot 19 = .ok (.getfield 22, 3) := by decide +kernel
theorem dX4_drawLot_22 : decode cX4_drawLot 22 = .ok (.iconst 1, 1) := by decide +kernel
theorem dX4_drawLot_23 : decode cX4_drawLot 23 = .ok (.iadd, 1) := by decide +kernel
theorem dX4_drawLot_24 : decode cX4_drawLot 24 = .ok (.putfield 22, 3) := by decide +kernel
theorem dX4_drawLot_27 : decode cX4_drawLot 27 = .ok (.iload_n 1, 1) := by decide +kernel
theorem dX4_drawLot_28 : decode cX4_drawLot 28 = .ok (.ifCond .le 12, 3) := by decide +kernel
theorem dX4_drawLot_31 : decode cX4_drawLot 31 = .ok (.aload_n 0, 1) := by decide +kernel
theorem dX4_drawLot_32 : decode cX4_drawLot 32 = .ok (.getfield 18, 3) := by decide +kernel
theorem dX4_drawLot_35 : decode cX4_drawLot 35 = .ok (.iload_n 1, 1) := by decide +kernel
theorem dX4_drawLot_36 : decode cX4_drawLot 36 = .ok (.irem, 1) := by decide +kernel
theorem dX4_drawLot_37 : decode cX4_drawLot 37 = .ok (.goto 4, 3) := by decide +kernel
theorem dX4_drawLot_40 : decode cX4_drawLot 40 = .ok (.iconst 0, 1) := by decide +kernel
theorem dX4_drawLot_41 : decode cX4_drawLot 41 = .ok (.ireturn, 1) := by decide +kernel
theorem dX4_sumOf_0 : decode cX4_sumOf 0 = .ok (.iconst 0, 1) := by decide +kernel
theorem dX4_sumOf_1 : decode cX4_sumOf 1 = .ok (.istore_n 2, 1) := by decide +kernel
theorem dX4_sumOf_2 : decode cX4_sumOf 2 = .ok (.aload_n 0, 1) := by decide +kernel
theorem dX4_sumOf_3 : decode cX4_sumOf 3 = .ok (.getfield 12, 3) := by decide +kernel
theorem dX4_sumOf_6 : decode cX4_sumOf 6 = .ok (.astore_n 3, 1) := by decide +kernel
theorem dX4_sumOf_7 : decode cX4_sumOf 7 = .ok (.aload_n 3, 1) := by decide +kernel
theorem dX4_sumOf_8 : decode cX4_sumOf 8 = .ok (.arraylength, 1) := by decide +kernel
theorem dX4_sumOf_9 : decode cX4_sumOf 9 = .ok (.istore 4, 2) := by decide +kernel
theorem dX4_sumOf_11 : decode cX4_sumOf 11 = .ok (.iconst 0, 1) := by decide +kernel
theorem dX4_sumOf_12 : decode cX4_sumOf 12 = .ok (.istore 5, 2) := by decide +kernel
theorem dX4_sumOf_14 : decode cX4_sumOf 14 = .ok (.iload 5, 2) := by decide +kernel
theorem dX4_sumOf_16 : decode cX4_sumOf 16 = .ok (.iload 4, 2) := by decide +kernel
theorem dX4_sumOf_18 : decode cX4_sumOf 18 = .ok (.if_icmp .ge 24, 3) := by decide +kernel
theorem dX4_sumOf_21 : decode cX4_sumOf 21 = .ok (.aload_n 3, 1) := by decide +kernel
theorem dX4_sumOf_22 : decode cX4_sumOf 22 = .ok (.iload 5, 2) := by decide +kernel
theorem dX4_sumOf_24 : decode cX4_sumOf 24 = .ok (.aaload, 1) := by decide +kernel
theorem dX4_sumOf_25 : decode cX4_sumOf 25 = .ok (.astore 6, 2) := by decide +kernel
theorem dX4_sumOf_27 : decode cX4_sumOf 27 = .ok (.iload_n 2, 1) := by decide +kernel
theorem dX4_sumOf_28 : decode cX4_sumOf 28 = .ok (.aload 6, 2) := by decide +kernel
theorem dX4_sumOf_30 : decode cX4_sumOf 30 = .ok (.iload_n 1, 1) := by decide +kernel
theorem dX4_sumOf_31 : decode cX4_sumOf 31 = .ok (.invokevirtual 70, 3) := by decide +kernel
theorem dX4_sumOf_34 : decode cX4_sumOf 34 = .ok (.iadd, 1) := by decide +kernel
theorem dX4_sumOf_35 : decode cX4_sumOf 35 = .ok (.istore_n 2, 1) := by decide +kernel
theorem dX4_sumOf_36 : decode cX4_sumOf 36 = .ok (.iinc 5 1, 3) := by decide +kernel
theorem dX4_sumOf_39 : decode cX4_sumOf 39 = .ok (.goto (-25), 3) := by decide +kernel
theorem dX4_sumOf_42 : decode cX4_sumOf 42 = .ok (.iload_n 2, 1) := by decide +kernel
theorem dX4_sumOf_43 : decode cX4_sumOf 43 = .ok (.ireturn, 1) := by decide +kernel
theorem dX4_learners_0 : decode cX4_learners 0 = .ok (.iconst 0, 1) := by decide +kernel
theorem dX4_learners_1 : decode cX4_learners 1 = .ok (.istore_n 2, 1) := by decide +kernel
theorem dX4_learners_2 : decode cX4_learners 2 = .ok (.iconst 0, 1) := by decide +kernel
theorem dX4_learners_3 : decode cX4_learners 3 = .ok (.istore_n 3, 1) := by decide +kernel
theorem dX4_learners_4 : decode cX4_learners 4 = .ok (.iload_n 3, 1) := by decide +kernel
theorem dX4_learners_5 : decode cX4_learners 5 = .ok (.iconst 3, 1) := by decide +kernel
theorem dX4_learners_6 : decode cX4_learners 6 = .ok (.if_icmp .ge 28, 3) := by decide +kernel
theorem dX4_learners_9 : decode cX4_learners 9 = .ok (.aload_n 0, 1) := by decide +kernel
theorem dX4_learners_10 : decode cX4_learners 10 = .ok (.getfield 12, 3) := by decide +kernel
theorem dX4_learners_13 : decode cX4_learners 13 = .ok (.iload_n 3, 1) := by decide +kernel
theorem dX4_learners_14 : decode cX4_learners 14 = .ok (.aaload, 1) := by decide +kernel
theorem dX4_learners_15 : decode cX4_learners 15 = .ok (.iload_n 1, 1) := by decide +kernel
theorem dX4_learners_16 : decode cX4_learners 16 = .ok (.invokevirtual 73, 3) := by decide +kernel
theorem dX4_learners_19 : decode cX4_learners 19 = .ok (.ifCond .eq 9, 3) := by decide +kernel
theorem dX4_learners_22 : decode cX4_learners 22 = .ok (.iload_n 2, 1) := by decide +kernel
theorem dX4_learners_23 : decode cX4_learners 23 = .ok (.iconst 1, 1) := by decide +kernel
theorem dX4_learners_24 : decode cX4_learners 24 = .ok (.iload_n 3, 1) := by decide +kernel
theorem dX4_learners_25 : decode cX4_learners 25 = .ok (.ishl, 1) := by decide +kernel
theorem dX4_learners_26 : decode cX4_learners 26 = .ok (.ior, 1) := by decide +kernel
theorem dX4_learners_27 : decode cX4_learners 27 = .ok (.istore_n 2, 1) := by decide +kernel
theorem dX4_learners_28 : decode cX4_learners 28 = .ok (.iinc 3 1, 3) := by decide +kernel
theorem dX4_learners_31 : decode cX4_learners 31 = .ok (.goto (-27), 3) := by decide +kernel
theorem dX4_learners_34 : decode cX4_learners 34 = .ok (.iload_n 2, 1) := by decide +kernel
theorem dX4_learners_35 : decode cX4_learners 35 = .ok (.ireturn, 1) := by decide +kernel
theorem dX5_init_0 : decode cX5_init 0 = .ok (.aload_n 0, 1) := by decide +kernel
theorem dX5_init_1 : decode cX5_init 1 = .ok (.invokespecial 3, 3) := by decide +kernel
theorem dX5_init_4 : decode cX5_init 4 = .ok (.aload_n 0, 1) := by decide +kernel
theorem dX5_init_5 : decode cX5_init 5 = .ok (.iconst 3, 1) := by decide +kernel
theorem dX5_init_6 : decode cX5_init 6 = .ok (.anewarray 9, 3) := by decide +kernel
theorem dX5_init_9 : decode cX5_init 9 = .ok (.dup, 1) := by decide +kernel
theorem dX5_init_10 : decode cX5_init 10 = .ok (.iconst 0, 1) := by decide +kernel
theorem dX5_init_11 : decode cX5_init 11 = .ok (.new 9, 3) := by decide +kernel
theorem dX5_init_14 : decode cX5_init 14 = .ok (.dup, 1) := by decide +kernel
theorem dX5_init_15 : decode cX5_init 15 = .ok (.iconst 0, 1) := by decide +kernel
theorem dX5_init_16 : decode cX5_init 16 = .ok (.invokespecial 11, 3) := by decide +kernel
theorem dX5_init_19 : decode cX5_init 19 = .ok (.aastore, 1) := by decide +kernel
theorem dX5_init_20 : decode cX5_init 20 = .ok (.dup, 1) := by decide +kernel
theorem dX5_init_21 : decode cX5_init 21 = .ok (.iconst 1, 1) := by decide +kernel
theorem dX5_init_22 : decode cX5_init 22 = .ok (.new 9, 3) := by decide +kernel
theorem dX5_init_25 : decode cX5_init 25 = .ok (.dup, 1) := by decide +kernel
theorem dX5_init_26 : decode cX5_init 26 = .ok (.iconst 1, 1) := by decide +kernel
theorem dX5_init_27 : decode cX5_init 27 = .ok (.invokespecial 11, 3) := by decide +kernel
theorem dX5_init_30 : decode cX5_init 30 = .ok (.aastore, 1) := by decide +kernel
theorem dX5_init_31 : decode cX5_init 31 = .ok (.dup, 1) := by decide +kernel
theorem dX5_init_32 : decode cX5_init 32 = .ok (.iconst 2, 1) := by decide +kernel
theorem dX5_init_33 : decode cX5_init 33 = .ok (.new 9, 3) := by decide +kernel
theorem dX5_init_36 : decode cX5_init 36 = .ok (.dup, 1) := by decide +kernel
theorem dX5_init_37 : decode cX5_init 37 = .ok (.iconst 2, 1) := by decide +kernel
theorem dX5_init_38 : decode cX5_init 38 = .ok (.invokespecial 11, 3) := by decide +kernel
theorem dX5_init_41 : decode cX5_init 41 = .ok (.aastore, 1) := by decide +kernel
theorem dX5_init_42 : decode cX5_init 42 = .ok (.putfield 14, 3) := by decide +kernel
theorem dX5_init_45 : decode cX5_init 45 = .ok (.aload_n 0, 1) := by decide +kernel
theorem dX5_init_46 : decode cX5_init 46 = .ok (.iconst 1, 1) := by decide +kernel
theorem dX5_init_47 : decode cX5_init 47 = .ok (.putfield 20, 3) := by decide +kernel
theorem dX5_init_50 : decode cX5_init 50 = .ok (.aload_n 0, 1) := by decide +kernel
theorem dX5_init_51 : decode cX5_init 51 = .ok (.iconst 3, 1) := by decide +kernel
theorem dX5_init_52 : decode cX5_init 52 = .ok (.putfield 24, 3) := by decide +kernel
theorem dX5_init_55 : decode cX5_init 55 = .ok (.aload_n 0, 1) := by decide +kernel
theorem dX5_init_56 : decode cX5_init 56 = .ok (.iconst 0, 1) := by decide +kernel
theorem dX5_init_57 : decode cX5_init 57 = .ok (.putfield 27, 3) := by decide +kernel
theorem dX5_init_60 : decode cX5_init 60 = .ok (.aload_n 0, 1) := by decide +kernel
theorem dX5_init_61 : decode cX5_init 61 = .ok (.iconst 1, 1) := by decide +kernel
theorem dX5_init_62 : decode cX5_init 62 = .ok (.putfield 30, 3) := by decide +kernel
theorem dX5_init_65 : decode cX5_init 65 = .ok (.aload_n 0, 1) := by decide +kernel
theorem dX5_init_66 : decode cX5_init 66 = .ok (.iconst 0, 1) := by decide +kernel
theorem dX5_init_67 : decode cX5_init 67 = .ok (.putfield 33, 3) := by decide +kernel
theorem dX5_init_70 : decode cX5_init 70 = .ok (.aload_n 0, 1) := by decide +kernel
theorem dX5_init_71 : decode cX5_init 71 = .ok (.iconst 0, 1) := by decide +kernel
theorem dX5_init_72 : decode cX5_init 72 = .ok (.putfield 36, 3) := by decide +kernel
theorem dX5_init_75 : decode cX5_init 75 = .ok (.return_, 1) := by decide +kernel
theorem dX5_sumOf_0 : decode cX5_sumOf 0 = .ok (.iconst 0, 1) := by decide +kernel
theorem dX5_sumOf_1 : decode cX5_sumOf 1 = .ok (.istore_n 2, 1) := by decide +kernel
theorem dX5_sumOf_2 : decode cX5_sumOf 2 = .ok (.aload_n 0, 1) := by decide +kernel
theorem dX5_sumOf_3 : decode cX5_sumOf 3 = .ok (.getfield 14, 3) := by decide +kernel
theorem dX5_sumOf_6 : decode cX5_sumOf 6 = .ok (.astore_n 3, 1) := by decide +kernel
theorem dX5_sumOf_7 : decode cX5_sumOf 7 = .ok (.aload_n 3, 1) := by decide +kernel
theorem dX5_sumOf_8 : decode cX5_sumOf 8 = .ok (.arraylength, 1) := by decide +kernel
theorem dX5_sumOf_9 : decode cX5_sumOf 9 = .ok (.istore 4, 2) := by decide +kernel
theorem dX5_sumOf_11 : decode cX5_sumOf 11 = .ok (.iconst 0, 1) := by decide +kernel
theorem dX5_sumOf_12 : decode cX5_sumOf 12 = .ok (.istore 5, 2) := by decide +kernel
theorem dX5_sumOf_14 : decode cX5_sumOf 14 = .ok (.iload 5, 2) := by decide +kernel
theorem dX5_sumOf_16 : decode cX5_sumOf 16 = .ok (.iload 4, 2) := by decide +kernel
theorem dX5_sumOf_18 : decode cX5_sumOf 18 = .ok (.if_icmp .ge 24, 3) := by decide +kernel
theorem dX5_sumOf_21 : decode cX5_sumOf 21 = .ok (.aload_n 3, 1) := by decide +kernel
theorem dX5_sumOf_22 : decode cX5_sumOf 22 = .ok (.iload 5, 2) := by decide +kernel
theorem dX5_sumOf_24 : decode cX5_sumOf 24 = .ok (.aaload, 1) := by decide +kernel
theorem dX5_sumOf_25 : decode cX5_sumOf 25 = .ok (.astore 6, 2) := by decide +kernel
theorem dX5_sumOf_27 : decode cX5_sumOf 27 = .ok (.iload_n 2, 1) := by decide +kernel
theorem dX5_sumOf_28 : decode cX5_sumOf 28 = .ok (.aload 6, 2) := by decide +kernel
theorem dX5_sumOf_30 : decode cX5_sumOf 30 = .ok (.iload_n 1, 1) := by decide +kernel
theorem dX5_sumOf_31 : decode cX5_sumOf 31 = .ok (.invokevirtual 39, 3) := by decide +kernel
theorem dX5_sumOf_34 : decode cX5_sumOf 34 = .ok (.iadd, 1) := by decide +kernel
theorem dX5_sumOf_35 : decode cX5_sumOf 35 = .ok (.istore_n 2, 1) := by decide +kernel
theorem dX5_sumOf_36 : decode cX5_sumOf 36 = .ok (.iinc 5 1, 3) := by decide +kernel
theorem dX5_sumOf_39 : decode cX5_sumOf 39 = .ok (.goto (-25), 3) := by decide +kernel
theorem dX5_sumOf_42 : decode cX5_sumOf 42 = .ok (.iload_n 2, 1) := by decide +kernel
theorem dX5_sumOf_43 : decode cX5_sumOf 43 = .ok (.ireturn, 1) := by decide +kernel
theorem dX5_endDay_0 : decode cX5_endDay 0 = .ok (.aload_n 0, 1) := by decide +kernel
theorem dX5_endDay_1 : decode cX5_endDay 1 = .ok (.dup, 1) := by decide +kernel
theorem dX5_endDay_2 : decode cX5_endDay 2 = .ok (.getfield 36, 3) := by decide +kernel
theorem dX5_endDay_5 : decode cX5_endDay 5 = .ok (.iconst 1, 1) := by decide +kernel
theorem dX5_endDay_6 : decode cX5_endDay 6 = .ok (.iadd, 1) := by decide +kernel
theorem dX5_endDay_7 : decode cX5_endDay 7 = .ok (.putfield 36, 3) := by decide +kernel
theorem dX5_endDay_10 : decode cX5_endDay 10 = .ok (.aload_n 0, 1) := by decide +kernel
theorem dX5_endDay_11 : decode cX5_endDay 11 = .ok (.aload_n 1, 1) := by decide +kernel
theorem dX5_endDay_12 : decode cX5_endDay 12 = .ok (.getfield 43, 3) := by decide +kernel
theorem dX5_endDay_15 : decode cX5_endDay 15 = .ok (.putfield 30, 3) := by decide +kernel
theorem dX5_endDay_18 : decode cX5_endDay 18 = .ok (.aload_n 0, 1) := by decide +kernel
theorem dX5_endDay_19 : decode cX5_endDay 19 = .ok (.dup, 1) := by decide +kernel
theorem dX5_endDay_20 : decode cX5_endDay 20 = .ok (.getfield 33, 3) := by decide +kernel
theorem dX5_endDay_23 : decode cX5_endDay 23 = .ok (.aload_n 1, 1) := by decide +kernel
theorem dX5_endDay_24 : decode cX5_endDay 24 = .ok (.getfield 46, 3) := by decide +kernel
theorem dX5_endDay_27 : decode cX5_endDay 27 = .ok (.iadd, 1) := by decide +kernel
theorem dX5_endDay_28 : decode cX5_endDay 28 = .ok (.putfield 33, 3) := by decide +kernel
theorem dX5_endDay_31 : decode cX5_endDay 31 = .ok (.aload_n 0, 1) := by decide +kernel
theorem dX5_endDay_32 : decode cX5_endDay 32 = .ok (.aload_n 0, 1) := by decide +kernel
theorem dX5_endDay_33 : decode cX5_endDay 33 = .ok (.getfield 27, 3) := by decide +kernel
theorem dX5_endDay_36 : decode cX5_endDay 36 = .ok (.aload_n 0, 1) := by decide +kernel
theorem dX5_endDay_37 : decode cX5_endDay 37 = .ok (.getfield 20, 3) := by decide +kernel
theorem dX5_endDay_40 : decode cX5_endDay 40 = .ok (.iadd, 1) := by decide +kernel
theorem dX5_endDay_41 : decode cX5_endDay 41 = .ok (.bipush 12, 2) := by decide +kernel
theorem dX5_endDay_43 : decode cX5_endDay 43 = .ok (.irem, 1) := by decide +kernel
theorem dX5_endDay_44 : decode cX5_endDay 44 = .ok (.putfield 27, 3) := by decide +kernel
theorem dX5_endDay_47 : decode cX5_endDay 47 = .ok (.iconst 0, 1) := by decide +kernel
theorem dX5_endDay_48 : decode cX5_endDay 48 = .ok (.istore_n 2, 1) := by decide +kernel
theorem dX5_endDay_49 : decode cX5_endDay 49 = .ok (.iload_n 2, 1) := by decide +kernel
theorem dX5_endDay_50 : decode cX5_endDay 50 = .ok (.iconst 3, 1) := by decide +kernel
theorem dX5_endDay_51 : decode cX5_endDay 51 = .ok (.if_icmp .ge 50, 3) := by decide +kernel
theorem dX5_endDay_54 : decode cX5_endDay 54 = .ok (.aload_n 1, 1) := by decide +kernel
theorem dX5_endDay_55 : decode cX5_endDay 55 = .ok (.getfield 47, 3) := by decide +kernel
theorem dX5_endDay_58 : decode cX5_endDay 58 = .ok (.iload_n 2, 1) := by decide +kernel
theorem dX5_endDay_59 : decode cX5_endDay 59 = .ok (.aaload, 1) := by decide +kernel
theorem dX5_endDay_60 : decode cX5_endDay 60 = .ok (.astore_n 3, 1) := by decide +kernel
theorem dX5_endDay_61 : decode cX5_endDay 61 = .ok (.aload_n 0, 1) := by decide +kernel
theorem dX5_endDay_62 : decode cX5_endDay 62 = .ok (.getfield 14, 3) := by decide +kernel
theorem dX5_endDay_65 : decode cX5_endDay 65 = .ok (.iload_n 2, 1) := by decide +kernel
theorem dX5_endDay_66 : decode cX5_endDay 66 = .ok (.aaload, 1) := by decide +kernel
theorem dX5_endDay_67 : decode cX5_endDay 67 = .ok (.aload_n 3, 1) := by decide +kernel
theorem dX5_endDay_68 : decode cX5_endDay 68 = .ok (.invokevirtual 51, 3) := by decide +kernel
theorem dX5_endDay_71 : decode cX5_endDay 71 = .ok (.aload_n 3, 1) := by decide +kernel
theorem dX5_endDay_72 : decode cX5_endDay 72 = .ok (.aload_n 0, 1) := by decide +kernel
theorem dX5_endDay_73 : decode cX5_endDay 73 = .ok (.getfield 24, 3) := by decide +kernel
theorem dX5_endDay_76 : decode cX5_endDay 76 = .ok (.invokevirtual 55, 3) := by decide +kernel
theorem dX5_endDay_79 : decode cX5_endDay 79 = .ok (.ifCond .eq 16, 3) := by decide +kernel
theorem dX5_endDay_82 : decode cX5_endDay 82 = .ok (.aload_n 0, 1) := by decide +kernel
theorem dX5_endDay_83 : decode cX5_endDay 83 = .ok (.getfield 14, 3) := by decide +kernel
theorem dX5_endDay_86 : decode cX5_endDay 86 = .ok (.iload_n 2, 1) := by decide +kernel
theorem dX5_endDay_87 : decode cX5_endDay 87 = .ok (.aaload, 1) := by decide +kernel
theorem dX5_endDay_88 : decode cX5_endDay 88 = .ok (.aload_n 0, 1) := by decide +kernel
theorem dX5_endDay_89 : decode cX5_endDay 89 = .ok (.getfield 27, 3) := by decide +kernel
theorem dX5_endDay_92 : decode cX5_endDay 92 = .ok (.invokevirtual 61, 3) := by decide +kernel
theorem dX5_endDay_95 : decode cX5_endDay 95 = .ok (.iinc 2 1, 3) := by decide +kernel
theorem dX5_endDay_98 : decode cX5_endDay 98 = .ok (.goto (-49), 3) := by decide +kernel
theorem dX5_endDay_101 : decode cX5_endDay 101 = .ok (.return_, 1) := by decide +kernel
theorem dX5_tellSetting_0 : decode cX5_tellSetting 0 = .ok (.iload_n 1, 1) := by decide +kernel
theorem dX5_tellSetting_1 : decode cX5_tellSetting 1 = .ok (.ifCond .ne 10, 3) := by decide +kernel
theorem dX5_tellSetting_4 : decode cX5_tellSetting 4 = .ok (.aload_n 0, 1) := by decide +kernel
theorem dX5_tellSetting_5 : decode cX5_tellSetting 5 = .ok (.getfield 20, 3) := by decide +kernel
theorem dX5_tellSetting_8 : decode cX5_tellSetting 8 = .ok (.goto 7, 3) := by decide +kernel
theorem dX5_tellSetting_11 : decode cX5_tellSetting 11 = .ok (.aload_n 0, 1) := by decide +kernel
theorem dX5_tellSetting_12 : decode cX5_tellSetting 12 = .ok (.getfield 24, 3) := by decide +kernel
theorem dX5_tellSetting_15 : decode cX5_tellSetting 15 = .ok (.ireturn, 1) := by decide +kernel
theorem dX5_changeSetting_0 : decode cX5_changeSetting 0 = .ok (.iload_n 1, 1) := by decide +kernel
theorem dX5_changeSetting_1 : decode cX5_changeSetting 1 = .ok (.ifCond .ne 11, 3) := by decide +kernel
theorem dX5_changeSetting_4 : decode cX5_changeSetting 4 = .ok (.aload_n 0, 1) := by decide +kernel
theorem dX5_changeSetting_5 : decode cX5_changeSetting 5 = .ok (.iload_n 2, 1) := by decide +kernel
theorem dX5_changeSetting_6 : decode cX5_changeSetting 6 = .ok (.putfield 20, 3) := by decide +kernel
theorem dX5_changeSetting_9 : decode cX5_changeSetting 9 = .ok (.goto 8, 3) := by decide +kernel
theorem dX5_changeSetting_12 : decode cX5_changeSetting 12 = .ok (.aload_n 0, 1) := by decide +kernel
theorem dX5_changeSetting_13 : decode cX5_changeSetting 13 = .ok (.iload_n 2, 1) := by decide +kernel
theorem dX5_changeSetting_14 : decode cX5_changeSetting 14 = .ok (.putfield 24, 3) := by decide +kernel
theorem dX5_changeSetting_17 : decode cX5_changeSetting 17 = .ok (.return_, 1) := by decide +kernel
theorem dX5_copyFrom_0 : decode cX5_copyFrom 0 = .ok (.iconst 0, 1) := by decide +kernel
theorem dX5_copyFrom_1 : decode cX5_copyFrom 1 = .ok (.istore_n 2, 1) := by decide +kernel
theorem dX5_copyFrom_2 : decode cX5_copyFrom 2 = .ok (.iload_n 2, 1) := by decide +kernel
theorem dX5_copyFrom_3 : decode cX5_copyFrom 3 = .ok (.iconst 3, 1) := by decide +kernel
theorem dX5_copyFrom_4 : decode cX5_copyFrom 4 = .ok (.if_icmp .ge 24, 3) := by decide +kernel
theorem dX5_copyFrom_7 : decode cX5_copyFrom 7 = .ok (.aload_n 0, 1) := by decide +kernel
theorem dX5_copyFrom_8 : decode cX5_copyFrom 8 = .ok (.getfield 14, 3) := by decide +kernel
theorem dX5_copyFrom_11 : decode cX5_copyFrom 11 = .ok (.iload_n 2, 1) := by decide +kernel
theorem dX5_copyFrom_12 : decode cX5_copyFrom 12 = .ok (.aaload, 1) := by decide +kernel
theorem dX5_copyFrom_13 : decode cX5_copyFrom 13 = .ok (.aload_n 1, 1) := by decide +kernel
theorem dX5_copyFrom_14 : decode cX5_copyFrom 14 = .ok (.getfield 14, 3) := by decide +kernel
theorem dX5_copyFrom_17 : decode cX5_copyFrom 17 = .ok (.iload_n 2, 1) := by decide +kernel
theorem dX5_copyFrom_18 : decode cX5_copyFrom 18 = .ok (.aaload, 1) := by decide +kernel
theorem dX5_copyFrom_19 : decode cX5_copyFrom 19 = .ok (.invokevirtual 64, 3) := by decide +kernel
theorem dX5_copyFrom_22 : decode cX5_copyFrom 22 = .ok (.iinc 2 1, 3) := by decide +kernel
theorem dX5_copyFrom_25 : decode cX5_copyFrom 25 = .ok (.goto (-23), 3) := by decide +kernel
theorem dX5_copyFrom_28 : decode cX5_copyFrom 28 = .ok (.aload_n 0, 1) := by decide +kernel
theorem dX5_copyFrom_29 : decode cX5_copyFrom 29 = .ok (.aload_n 1, 1) := by decide +kernel
theorem dX5_copyFrom_30 : decode cX5_copyFrom 30 = .ok (.getfield 20, 3) := by decide +kernel
theorem dX5_copyFrom_33 : decode cX5_copyFrom 33 = .ok (.putfield 20, 3) := by decide +kernel
theorem dX5_copyFrom_36 : decode cX5_copyFrom 36 = .ok (.aload_n 0, 1) := by decide +kernel
theorem dX5_copyFrom_37 : decode cX5_copyFrom 37 = .ok (.aload_n 1, 1) := by decide +kernel
theorem dX5_copyFrom_38 : decode cX5_copyFrom 38 = .ok (.getfield 24, 3) := by decide +kernel
theorem dX5_copyFrom_41 : decode cX5_copyFrom 41 = .ok (.putfield 24, 3) := by decide +kernel
theorem dX5_copyFrom_44 : decode cX5_copyFrom 44 = .ok (.aload_n 0, 1) := by decide +kernel
theorem dX5_copyFrom_45 : decode cX5_copyFrom 45 = .ok (.aload_n 1, 1) := by decide +kernel
theorem dX5_copyFrom_46 : decode cX5_copyFrom 46 = .ok (.getfield 27, 3) := by decide +kernel
theorem dX5_copyFrom_49 : decode cX5_copyFrom 49 = .ok (.putfield 27, 3) := by decide +kernel
theorem dX5_copyFrom_52 : decode cX5_copyFrom 52 = .ok (.aload_n 0, 1) := by decide +kernel
theorem dX5_copyFrom_53 : decode cX5_copyFrom 53 = .ok (.aload_n 1, 1) := by decide +kernel
theorem dX5_copyFrom_54 : decode cX5_copyFrom 54 = .ok (.getfield 30, 3) := by decide +kernel
theorem dX5_copyFrom_57 : decode cX5_copyFrom 57 = .ok (.putfield 30, 3) := by decide +kernel
theorem dX5_copyFrom_60 : decode cX5_copyFrom 60 = .ok (.aload_n 0, 1) := by decide +kernel
theorem dX5_copyFrom_61 : decode cX5_copyFrom 61 = .ok (.aload_n 1, 1) := by decide +kernel
theorem dX5_copyFrom_62 : decode cX5_copyFrom 62 = .ok (.getfield 33, 3) := by decide +kernel
theorem dX5_copyFrom_65 : decode cX5_copyFrom 65 = .ok (.putfield 33, 3) := by decide +kernel
theorem dX5_copyFrom_68 : decode cX5_copyFrom 68 = .ok (.aload_n 0, 1) := by decide +kernel
theorem dX5_copyFrom_69 : decode cX5_copyFrom 69 = .ok (.aload_n 1, 1) := by decide +kernel
theorem dX5_copyFrom_70 : decode cX5_copyFrom 70 = .ok (.getfield 36, 3) := by decide +kernel
theorem dX5_copyFrom_73 : decode cX5_copyFrom 73 = .ok (.putfield 36, 3) := by decide +kernel
theorem dX5_copyFrom_76 : decode cX5_copyFrom 76 = .ok (.return_, 1) := by decide +kernel
theorem dX6_init_0 : decode cX6_init 0 = .ok (.aload_n 0, 1) := by decide +kernel
theorem dX6_init_1 : decode cX6_init 1 = .ok (.invokespecial 3, 3) := by decide +kernel
theorem dX6_init_4 : decode cX6_init 4 = .ok (.aload_n 0, 1) := by decide +kernel
theorem dX6_init_5 : decode cX6_init 5 = .ok (.bipush 8, 2) := by decide +kernel
theorem dX6_init_7 : decode cX6_init 7 = .ok (.newarray .int, 2) := by decide +kernel
theorem dX6_init_9 : decode cX6_init 9 = .ok (.putfield 9, 3) := by decide +kernel
theorem dX6_init_12 : decode cX6_init 12 = .ok (.aload_n 0, 1) := by decide +kernel
theorem dX6_init_13 : decode cX6_init 13 = .ok (.iconst 0, 1) := by decide +kernel
theorem dX6_init_14 : decode cX6_init 14 = .ok (.putfield 15, 3) := by decide +kernel
theorem dX6_init_17 : decode cX6_init 17 = .ok (.aload_n 0, 1) := by decide +kernel
theorem dX6_init_18 : decode cX6_init 18 = .ok (.iconst 0, 1) := by decide +kernel
theorem dX6_init_19 : decode cX6_init 19 = .ok (.putfield 19, 3) := by decide +kernel
theorem dX6_init_22 : decode cX6_init 22 = .ok (.return_, 1) := by decide +kernel
theorem dX6_print_0 : decode cX6_print 0 = .ok (.aload_n 0, 1) := by decide +kernel
theorem dX6_print_1 : decode cX6_print 1 = .ok (.aload_n 1, 1) := by decide +kernel
theorem dX6_print_2 : decode cX6_print 2 = .ok (.getfield 22, 3) := by decide +kernel
theorem dX6_print_5 : decode cX6_print 5 = .ok (.putfield 19, 3) := by decide +kernel
theorem dX6_print_8 : decode cX6_print 8 = .ok (.aload_n 0, 1) := by decide +kernel
theorem dX6_print_9 : decode cX6_print 9 = .ok (.iconst 0, 1) := by decide +kernel
theorem dX6_print_10 : decode cX6_print 10 = .ok (.putfield 15, 3) := by decide +kernel
theorem dX6_print_13 : decode cX6_print 13 = .ok (.aload_n 1, 1) := by decide +kernel
theorem dX6_print_14 : decode cX6_print 14 = .ok (.getfield 25, 3) := by decide +kernel
theorem dX6_print_17 : decode cX6_print 17 = .ok (.istore_n 2, 1) := by decide +kernel
theorem dX6_print_18 : decode cX6_print 18 = .ok (.aload_n 1, 1) := by decide +kernel
theorem dX6_print_19 : decode cX6_print 19 = .ok (.getfield 25, 3) := by decide +kernel
theorem dX6_print_22 : decode cX6_print 22 = .ok (.istore_n 3, 1) := by decide +kernel
theorem dX6_print_23 : decode cX6_print 23 = .ok (.iload_n 3, 1) := by decide +kernel
theorem dX6_print_24 : decode cX6_print 24 = .ok (.bipush 21, 2) := by decide +kernel
theorem dX6_print_26 : decode cX6_print 26 = .ok (.if_icmp .gt 77, 3) := by decide +kernel
theorem dX6_print_29 : decode cX6_print 29 = .ok (.iload_n 3, 1) := by decide +kernel
theorem dX6_print_30 : decode cX6_print 30 = .ok (.iload_n 2, 1) := by decide +kernel
theorem dX6_print_31 : decode cX6_print 31 = .ok (.if_icmp .lt 22, 3) := by decide +kernel
theorem dX6_print_34 : decode cX6_print 34 = .ok (.aload_n 1, 1) := by decide +kernel
theorem dX6_print_35 : decode cX6_print 35 = .ok (.getfield 28, 3) := by decide +kernel
theorem dX6_print_38 : decode cX6_print 38 = .ok (.iload_n 3, 1) := by decide +kernel
theorem dX6_print_39 : decode cX6_print 39 = .ok (.invokestatic 31, 3) := by decide +kernel
theorem dX6_print_42 : decode cX6_print 42 = .ok (.aload_n 1, 1) := by decide +kernel
theorem dX6_print_43 : decode cX6_print 43 = .ok (.getfield 35, 3) := by decide +kernel
theorem dX6_print_46 : decode cX6_print 46 = .ok (.if_icmp .lt 7, 3) := by decide +kernel
theorem dX6_print_49 : decode cX6_print 49 = .ok (.iconst 1, 1) := by decide +kernel
theorem dX6_print_50 : decode cX6_print 50 = .ok (.goto 4, 3) := by decide +kernel
theorem dX6_print_53 : decode cX6_print 53 = .ok (.iconst 0, 1) := by decide +kernel
theorem dX6_print_54 : decode cX6_print 54 = .ok (.istore 4, 2) := by decide +kernel
theorem dX6_print_56 : decode cX6_print 56 = .ok (.iload 4, 2) := by decide +kernel
theorem dX6_print_58 : decode cX6_print 58 = .ok (.ifCond .eq 39, 3) := by decide +kernel
theorem dX6_print_61 : decode cX6_print 61 = .ok (.aload_n 0, 1) := by decide +kernel
theorem dX6_print_62 : decode cX6_print 62 = .ok (.getfield 15, 3) := by decide +kernel
theorem dX6_print_65 : decode cX6_print 65 = .ok (.aload_n 0, 1) := by decide +kernel
theorem dX6_print_66 : decode cX6_print 66 = .ok (.getfield 9, 3) := by decide +kernel
theorem dX6_print_69 : decode cX6_print 69 = .ok (.arraylength, 1) := by decide +kernel
theorem dX6_print_70 : decode cX6_print 70 = .ok (.if_icmp .ge 27, 3) := by decide +kernel
theorem dX6_print_73 : decode cX6_print 73 = .ok (.aload_n 0, 1) := by decide +kernel
theorem dX6_print_74 : decode cX6_print 74 = .ok (.getfield 9, 3) := by decide +kernel
theorem dX6_print_77 : decode cX6_print 77 = .ok (.aload_n 0, 1) := by decide +kernel
theorem dX6_print_78 : decode cX6_print 78 = .ok (.getfield 15, 3) := by decide +kernel
theorem dX6_print_81 : decode cX6_print 81 = .ok (.iload_n 3, 1) := by decide +kernel
theorem dX6_print_82 : decode cX6_print 82 = .ok (.iastore, 1) := by decide +kernel
theorem dX6_print_83 : decode cX6_print 83 = .ok (.aload_n 0, 1) := by decide +kernel
theorem dX6_print_84 : decode cX6_print 84 = .ok (.dup, 1) := by decide +kernel
theorem dX6_print_85 : decode cX6_print 85 = .ok (.getfield 15, 3) := by decide +kernel
theorem dX6_print_88 : decode cX6_print 88 = .ok (.iconst 1, 1) := by decide +kernel
theorem dX6_print_89 : decode cX6_print 89 = .ok (.iadd, 1) := by decide +kernel
theorem dX6_print_90 : decode cX6_print 90 = .ok (.putfield 15, 3) := by decide +kernel
theorem dX6_print_93 : decode cX6_print 93 = .ok (.iload_n 3, 1) := by decide +kernel
theorem dX6_print_94 : decode cX6_print 94 = .ok (.iconst 3, 1) := by decide +kernel
theorem dX6_print_95 : decode cX6_print 95 = .ok (.iadd, 1) := by decide +kernel
theorem dX6_print_96 : decode cX6_print 96 = .ok (.istore_n 2, 1) := by decide +kernel
theorem dX6_print_97 : decode cX6_print 97 = .ok (.iinc 3 1, 3) := by decide +kernel
theorem dX6_print_100 : decode cX6_print 100 = .ok (.goto (-77), 3) := by decide +kernel
theorem dX6_print_103 : decode cX6_print 103 = .ok (.return_, 1) := by decide +kernel
theorem dX6_has_0 : decode cX6_has 0 = .ok (.iload_n 1, 1) := by decide +kernel
theorem dX6_has_1 : decode cX6_has 1 = .ok (.ifCond .lt 24, 3) := by decide +kernel
theorem dX6_has_4 : decode cX6_has 4 = .ok (.iload_n 1, 1) := by decide +kernel
theorem dX6_has_5 : decode cX6_has 5 = .ok (.aload_n 0, 1) := by decide +kernel
theorem dX6_has_6 : decode cX6_has 6 = .ok (.getfield 15, 3) := by decide +kernel
theorem dX6_has_9 : decode cX6_has 9 = .ok (.if_icmp .ge 16, 3) := by decide +kernel
theorem dX6_has_12 : decode cX6_has 12 = .ok (.iload_n 1, 1) := by decide +kernel
theorem dX6_has_13 : decode cX6_has 13 = .ok (.aload_n 0, 1) := by decide +kernel
theorem dX6_has_14 : decode cX6_has 14 = .ok (.getfield 9, 3) := by decide +kernel
theorem dX6_has_17 : decode cX6_has 17 = .ok (.arraylength, 1) := by decide +kernel
theorem dX6_has_18 : decode cX6_has 18 = .ok (.if_icmp .ge 7, 3) := by decide +kernel
theorem dX6_has_21 : decode cX6_has 21 = .ok (.iconst 1, 1) := by decide +kernel
theorem dX6_has_22 : decode cX6_has 22 = .ok (.goto 4, 3) := by decide +kernel
theorem dX6_has_25 : decode cX6_has 25 = .ok (.iconst 0, 1) := by decide +kernel
theorem dX6_has_26 : decode cX6_has 26 = .ok (.ireturn, 1) := by decide +kernel
theorem dX6_hourOf_0 : decode cX6_hourOf 0 = .ok (.aload_n 0, 1) := by decide +kernel
theorem dX6_hourOf_1 : decode cX6_hourOf 1 = .ok (.iload_n 1, 1) := by decide +kernel
theorem dX6_hourOf_2 : decode cX6_hourOf 2 = .ok (.invokevirtual 38, 3) := by decide +kernel
theorem dX6_hourOf_5 : decode cX6_hourOf 5 = .ok (.ifCond .eq 12, 3) := by decide +kernel
theorem dX6_hourOf_8 : decode cX6_hourOf 8 = .ok (.aload_n 0, 1) := by decide +kernel
theorem dX6_hourOf_9 : decode cX6_hourOf 9 = .ok (.getfield 9, 3) := by decide +kernel
theorem dX6_hourOf_12 : decode cX6_hourOf 12 = .ok (.iload_n 1, 1) := by decide +kernel
theorem dX6_hourOf_13 : decode cX6_hourOf 13 = .ok (.iaload, 1) := by decide +kernel
theorem dX6_hourOf_14 : decode cX6_hourOf 14 = .ok (.goto 5, 3) := by decide +kernel
theorem dX6_hourOf_17 : decode cX6_hourOf 17 = .ok (.bipush (-5), 2) := by decide +kernel
theorem dX6_hourOf_19 : decode cX6_hourOf 19 = .ok (.ireturn, 1) := by decide +kernel
theorem dX6_pierOf_0 : decode cX6_pierOf 0 = .ok (.aload_n 0, 1) := by decide +kernel
theorem dX6_pierOf_1 : decode cX6_pierOf 1 = .ok (.getfield 19, 3) := by decide +kernel
theorem dX6_pierOf_4 : decode cX6_pierOf 4 = .ok (.iload_n 1, 1) := by decide +kernel
theorem dX6_pierOf_5 : decode cX6_pierOf 5 = .ok (.iadd, 1) := by decide +kernel
theorem dX6_pierOf_6 : decode cX6_pierOf 6 = .ok (.iconst 2, 1) := by decide +kernel
theorem dX6_pierOf_7 : decode cX6_pierOf 7 = .ok (.irem, 1) := by decide +kernel
theorem dX6_pierOf_8 : decode cX6_pierOf 8 = .ok (.ireturn, 1) := by decide +kernel
theorem dX7_init_0 : decode cX7_init 0 = .ok (.aload_n 0, 1) := by decide +kernel
theorem dX7_init_1 : decode cX7_init 1 = .ok (.invokespecial 3, 3) := by decide +kernel
theorem dX7_init_4 : decode cX7_init 4 = .ok (.aload_n 0, 1) := by decide +kernel
theorem dX7_init_5 : decode cX7_init 5 = .ok (.new 9, 3) := by decide +kernel
theorem dX7_init_8 : decode cX7_init 8 = .ok (.dup, 1) := by decide +kernel
theorem dX7_init_9 : decode cX7_init 9 = .ok (.invokespecial 11, 3) := by decide +kernel
theorem dX7_init_12 : decode cX7_init 12 = .ok (.putfield 12, 3) := by decide +kernel
theorem dX7_init_15 : decode cX7_init 15 = .ok (.aload_n 0, 1) := by decide +kernel
theorem dX7_init_16 : decode cX7_init 16 = .ok (.new 9, 3) := by decide +kernel
theorem dX7_init_19 : decode cX7_init 19 = .ok (.dup, 1) := by decide +kernel
theorem dX7_init_20 : decode cX7_init 20 = .ok (.invokespecial 11, 3) := by decide +kernel
theorem dX7_init_23 : decode cX7_init 23 = .ok (.putfield 16, 3) := by decide +kernel
theorem dX7_init_26 : decode cX7_init 26 = .ok (.aload_n 0, 1) := by decide +kernel
theorem dX7_init_27 : decode cX7_init 27 = .ok (.iconst 0, 1) := by decide +kernel
theorem dX7_init_28 : decode cX7_init 28 = .ok (.putfield 19, 3) := by decide +kernel
theorem dX7_init_31 : decode cX7_init 31 = .ok (.aload_n 0, 1) := by decide +kernel
theorem dX7_init_32 : decode cX7_init 32 = .ok (.iconst 4, 1) := by decide +kernel
theorem dX7_init_33 : decode cX7_init 33 = .ok (.anewarray 9, 3) := by decide +kernel
theorem dX7_init_36 : decode cX7_init 36 = .ok (.dup, 1) := by decide +kernel
theorem dX7_init_37 : decode cX7_init 37 = .ok (.iconst 0, 1) := by decide +kernel
theorem dX7_init_38 : decode cX7_init 38 = .ok (.new 9, 3) := by decide +kernel
theorem dX7_init_41 : decode cX7_init 41 = .ok (.dup, 1) := by decide +kernel
theorem dX7_init_42 : decode cX7_init 42 = .ok (.invokespecial 11, 3) := by decide +kernel
theorem dX7_init_45 : decode cX7_init 45 = .ok (.aastore, 1) := by decide +kernel
theorem dX7_init_46 : decode cX7_init 46 = .ok (.dup, 1) := by decide +kernel
theorem dX7_init_47 : decode cX7_init 47 = .ok (.iconst 1, 1) := by decide +kernel
theorem dX7_init_48 : decode cX7_init 48 = .ok (.new 9, 3) := by decide +kernel
theorem dX7_init_51 : decode cX7_init 51 = .ok (.dup, 1) := by decide +kernel
theorem dX7_init_52 : decode cX7_init 52 = .ok (.invokespecial 11, 3) := by decide +kernel
theorem dX7_init_55 : decode cX7_init 55 = .ok (.aastore, 1) := by decide +kernel
theorem dX7_init_56 : decode cX7_init 56 = .ok (.dup, 1) := by decide +kernel
theorem dX7_init_57 : decode cX7_init 57 = .ok (.iconst 2, 1) := by decide +kernel
theorem dX7_init_58 : decode cX7_init 58 = .ok (.new 9, 3) := by decide +kernel
theorem dX7_init_61 : decode cX7_init 61 = .ok (.dup, 1) := by decide +kernel
theorem dX7_init_62 : decode cX7_init 62 = .ok (.invokespecial 11, 3) := by decide +kernel
theorem dX7_init_65 : decode cX7_init 65 = .ok (.aastore, 1) := by decide +kernel
theorem dX7_init_66 : decode cX7_init 66 = .ok (.dup, 1) := by decide +kernel
theorem dX7_init_67 : decode cX7_init 67 = .ok (.iconst 3, 1) := by decide +kernel
theorem dX7_init_68 : decode cX7_init 68 = .ok (.new 9, 3) := by decide +kernel
theorem dX7_init_71 : decode cX7_init 71 = .ok (.dup, 1) := by decide +kernel
theorem dX7_init_72 : decode cX7_init 72 = .ok (.invokespecial 11, 3) := by decide +kernel
theorem dX7_init_75 : decode cX7_init 75 = .ok (.aastore, 1) := by decide +kernel
theorem dX7_init_76 : decode cX7_init 76 = .ok (.putfield 23, 3) := by decide +kernel
theorem dX7_init_79 : decode cX7_init 79 = .ok (.aload_n 0, 1) := by decide +kernel
theorem dX7_init_80 : decode cX7_init 80 = .ok (.iconst 0, 1) := by decide +kernel
theorem dX7_init_81 : decode cX7_init 81 = .ok (.putfield 27, 3) := by decide +kernel
theorem dX7_init_84 : decode cX7_init 84 = .ok (.aload_n 0, 1) := by decide +kernel
theorem dX7_init_85 : decode cX7_init 85 = .ok (.new 31, 3) := by decide +kernel
theorem dX7_init_88 : decode cX7_init 88 = .ok (.dup, 1) := by decide +kernel
theorem dX7_init_89 : decode cX7_init 89 = .ok (.invokespecial 33, 3) := by decide +kernel
theorem dX7_init_92 : decode cX7_init 92 = .ok (.putfield 34, 3) := by decide +kernel
theorem dX7_init_95 : decode cX7_init 95 = .ok (.aload_n 0, 1) := by decide +kernel
theorem dX7_init_96 : decode cX7_init 96 = .ok (.new 9, 3) := by decide +kernel
theorem dX7_init_99 : decode cX7_init 99 = .ok (.dup, 1) := by decide +kernel
theorem dX7_init_100 : decode cX7_init 100 = .ok (.invokespecial 11, 3) := by decide +kernel
theorem dX7_init_103 : decode cX7_init 103 = .ok (.putfield 38, 3) := by decide +kernel
theorem dX7_init_106 : decode cX7_init 106 = .ok (.aload_n 0, 1) := by decide +kernel
theorem dX7_init_107 : decode cX7_init 107 = .ok (.new 41, 3) := by decide +kernel
theorem dX7_init_110 : decode cX7_init 110 = .ok (.dup, 1) := by decide +kernel
theorem dX7_init_111 : decode cX7_init 111 = .ok (.invokespecial 43, 3) := by decide +kernel
theorem dX7_init_114 : decode cX7_init 114 = .ok (.putfield 44, 3) := by decide +kernel
theorem dX7_init_117 : decode cX7_init 117 = .ok (.aload_n 0, 1) := by decide +kernel
theorem dX7_init_118 : decode cX7_init 118 = .ok (.new 48, 3) := by decide +kernel
theorem dX7_init_121 : decode cX7_init 121 = .ok (.dup, 1) := by decide +kernel
theorem dX7_init_122 : decode cX7_init 122 = .ok (.invokespecial 50, 3) := by decide +kernel
theorem dX7_init_125 : decode cX7_init 125 = .ok (.putfield 51, 3) := by decide +kernel
theorem dX7_init_128 : decode cX7_init 128 = .ok (.return_, 1) := by decide +kernel
theorem dX7_captain_0 : decode cX7_captain 0 = .ok (.iload_n 1, 1) := by decide +kernel
theorem dX7_captain_1 : decode cX7_captain 1 = .ok (.invokestatic 55, 3) := by decide +kernel
theorem dX7_captain_4 : decode cX7_captain 4 = .ok (.ifCond .ne 5, 3) := by decide +kernel
theorem dX7_captain_7 : decode cX7_captain 7 = .ok (.iconst (-1), 1) := by decide +kernel
theorem dX7_captain_8 : decode cX7_captain 8 = .ok (.ireturn, 1) := by decide +kernel
theorem dX7_captain_9 : decode cX7_captain 9 = .ok (.iload_n 2, 1) := by decide +kernel
theorem dX7_captain_10 : decode cX7_captain 10 = .ok (.iload_n 3, 1) := by decide +kernel
theorem dX7_captain_11 : decode cX7_captain 11 = .ok (.invokestatic 59, 3) := by decide +kernel
theorem dX7_captain_14 : decode cX7_captain 14 = .ok (.ifCond .ne 6, 3) := by decide +kernel
theorem dX7_captain_17 : decode cX7_captain 17 = .ok (.bipush (-2), 2) := by decide +kernel
theorem dX7_captain_19 : decode cX7_captain 19 = .ok (.ireturn, 1) := by decide +kernel
theorem dX7_captain_20 : decode cX7_captain 20 = .ok (.aload_n 0, 1) := by decide +kernel
theorem dX7_captain_21 : decode cX7_captain 21 = .ok (.getfield 12, 3) := by decide +kernel
theorem dX7_captain_24 : decode cX7_captain 24 = .ok (.getfield 63, 3) := by decide +kernel
theorem dX7_captain_27 : decode cX7_captain 27 = .ok (.iload_n 1, 1) := by decide +kernel
theorem dX7_captain_28 : decode cX7_captain 28 = .ok (.aaload, 1) := by decide +kernel
theorem dX7_captain_29 : decode cX7_captain 29 = .ok (.iload_n 2, 1) := by decide +kernel
theorem dX7_captain_30 : decode cX7_captain 30 = .ok (.invokevirtual 67, 3) := by decide +kernel
theorem dX7_captain_33 : decode cX7_captain 33 = .ok (.istore 4, 2) := by decide +kernel
theorem dX7_captain_35 : decode cX7_captain 35 = .ok (.iload 4, 2) := by decide +kernel
theorem dX7_captain_37 : decode cX7_captain 37 = .ok (.iload_n 3, 1) := by decide +kernel
theorem dX7_captain_38 : decode cX7_captain 38 = .ok (.if_icmp .ne 6, 3) := by decide +kernel
theorem dX7_captain_41 : decode cX7_captain 41 = .ok (.bipush (-5), 2) := by decide +kernel
theorem dX7_captain_43 : decode cX7_captain 43 = .ok (.ireturn, 1) := by decide +kernel
theorem dX7_captain_44 : decode cX7_captain 44 = .ok (.aload_n 0, 1) := by decide +kernel
theorem dX7_captain_45 : decode cX7_captain 45 = .ok (.invokevirtual 73, 3) := by decide +kernel
theorem dX7_captain_48 : decode cX7_captain 48 = .ok (.aload_n 0, 1) := by decide +kernel
theorem dX7_captain_49 : decode cX7_captain 49 = .ok (.getfield 12, 3) := by decide +kernel
theorem dX7_captain_52 : decode cX7_captain 52 = .ok (.getfield 63, 3) := by decide +kernel
theorem dX7_captain_55 : decode cX7_captain 55 = .ok (.iload_n 1, 1) := by decide +kernel
theorem dX7_captain_56 : decode cX7_captain 56 = .ok (.aaload, 1) := by decide +kernel
theorem dX7_captain_57 : decode cX7_captain 57 = .ok (.iload_n 2, 1) := by decide +kernel
theorem dX7_captain_58 : decode cX7_captain 58 = .ok (.iload_n 3, 1) := by decide +kernel
theorem dX7_captain_59 : decode cX7_captain 59 = .ok (.invokevirtual 76, 3) := by decide +kernel
theorem dX7_captain_62 : decode cX7_captain 62 = .ok (.iload 4, 2) := by decide +kernel
theorem dX7_captain_64 : decode cX7_captain 64 = .ok (.ireturn, 1) := by decide +kernel
theorem dX7_captains_0 : decode cX7_captains 0 = .ok (.aload_n 0, 1) := by decide +kernel
theorem dX7_captains_1 : decode cX7_captains 1 = .ok (.getfield 38, 3) := by decide +kernel
theorem dX7_captains_4 : decode cX7_captains 4 = .ok (.aload_n 0, 1) := by decide +kernel
theorem dX7_captains_5 : decode cX7_captains 5 = .ok (.getfield 12, 3) := by decide +kernel
theorem dX7_captains_8 : decode cX7_captains 8 = .ok (.invokevirtual 80, 3) := by decide +kernel
theorem dX7_captains_11 : decode cX7_captains 11 = .ok (.aload_n 0, 1) := by decide +kernel
theorem dX7_captains_12 : decode cX7_captains 12 = .ok (.getfield 34, 3) := by decide +kernel
theorem dX7_captains_15 : decode cX7_captains 15 = .ok (.aload_n 0, 1) := by decide +kernel
theorem dX7_captains_16 : decode cX7_captains 16 = .ok (.getfield 38, 3) := by decide +kernel
theorem dX7_captains_19 : decode cX7_captains 19 = .ok (.invokevirtual 84, 3) := by decide +kernel
theorem dX7_captains_22 : decode cX7_captains 22 = .ok (.istore_n 1, 1) := by decide +kernel
theorem dX7_captains_23 : decode cX7_captains 23 = .ok (.iload_n 1, 1) := by decide +kernel
theorem dX7_captains_24 : decode cX7_captains 24 = .ok (.bipush (-5), 2) := by decide +kernel
theorem dX7_captains_26 : decode cX7_captains 26 = .ok (.if_icmp .eq 8, 3) := by decide +kernel
theorem dX7_captains_29 : decode cX7_captains 29 = .ok (.bipush (-100), 2) := by decide +kernel
theorem dX7_captains_31 : decode cX7_captains 31 = .ok (.iload_n 1, 1) := by decide +kernel
theorem dX7_captains_32 : decode cX7_captains 32 = .ok (.isub, 1) := by decide +kernel
theorem dX7_captains_33 : decode cX7_captains 33 = .ok (.ireturn, 1) := by decide +kernel
theorem dX7_captains_34 : decode cX7_captains 34 = .ok (.aload_n 0, 1) := by decide +kernel
theorem dX7_captains_35 : decode cX7_captains 35 = .ok (.invokevirtual 73, 3) := by decide +kernel
theorem dX7_captains_38 : decode cX7_captains 38 = .ok (.aload_n 0, 1) := by decide +kernel
theorem dX7_captains_39 : decode cX7_captains 39 = .ok (.getfield 12, 3) := by decide +kernel
theorem dX7_captains_42 : decode cX7_captains 42 = .ok (.aload_n 0, 1) := by decide +kernel
theorem dX7_captains_43 : decode cX7_captains 43 = .ok (.getfield 38, 3) := by decide +kernel
theorem dX7_captains_46 : decode cX7_captains 46 = .ok (.invokevirtual 80, 3) := by decide +kernel
theorem dX7_captains_49 : decode cX7_captains 49 = .ok (.aload_n 0, 1) := by decide +kernel
theorem dX7_captains_50 : decode cX7_captains 50 = .ok (.getfield 34, 3) := by decide +kernel
theorem dX7_captains_53 : decode cX7_captains 53 = .ok (.getfield 88, 3) := by decide +kernel
theorem dX7_captains_56 : decode cX7_captains 56 = .ok (.ireturn, 1) := by decide +kernel
theorem dX7_truth_0 : decode cX7_truth 0 = .ok (.iload_n 1, 1) := by decide +kernel
theorem dX7_truth_1 : decode cX7_truth 1 = .ok (.ifCond .lt 9, 3) := by decide +kernel
theorem dX7_truth_4 : decode cX7_truth 4 = .ok (.iload_n 1, 1) := by decide +kernel
theorem dX7_truth_5 : decode cX7_truth 5 = .ok (.bipush 12, 2) := by decide +kernel
theorem dX7_truth_7 : decode cX7_truth 7 = .ok (.if_icmp .lt 6, 3) := by decide +kernel
theorem dX7_truth_10 : decode cX7_truth 10 = .ok (.bipush (-2), 2) := by decide +kernel
theorem dX7_truth_12 : decode cX7_truth 12 = .ok (.ireturn, 1) := by decide +kernel
theorem dX7_truth_13 : decode cX7_truth 13 = .ok (.aload_n 0, 1) := by decide +kernel
theorem dX7_truth_14 : decode cX7_truth 14 = .ok (.getfield 12, 3) := by decide +kernel
theorem dX7_truth_17 : decode cX7_truth 17 = .ok (.getfield 91, 3) := by decide +kernel
theorem dX7_truth_20 : decode cX7_truth 20 = .ok (.istore_n 2, 1) := by decide +kernel
theorem dX7_truth_21 : decode cX7_truth 21 = .ok (.iload_n 2, 1) := by decide +kernel
theorem dX7_truth_22 : decode cX7_truth 22 = .ok (.iload_n 1, 1) := by decide +kernel
theorem dX7_truth_23 : decode cX7_truth 23 = .ok (.if_icmp .ne 6, 3) := by decide +kernel
theorem dX7_truth_26 : decode cX7_truth 26 = .ok (.bipush (-5), 2) := by decide +kernel
theorem dX7_truth_28 : decode cX7_truth 28 = .ok (.ireturn, 1) := by decide +kernel
theorem dX7_truth_29 : decode cX7_truth 29 = .ok (.aload_n 0, 1) := by decide +kernel
theorem dX7_truth_30 : decode cX7_truth 30 = .ok (.invokevirtual 73, 3) := by decide +kernel
theorem dX7_truth_33 : decode cX7_truth 33 = .ok (.aload_n 0, 1) := by decide +kernel
theorem dX7_truth_34 : decode cX7_truth 34 = .ok (.getfield 12, 3) := by decide +kernel
theorem dX7_truth_37 : decode cX7_truth 37 = .ok (.iload_n 1, 1) := by decide +kernel
theorem dX7_truth_38 : decode cX7_truth 38 = .ok (.putfield 91, 3) := by decide +kernel
theorem dX7_truth_41 : decode cX7_truth 41 = .ok (.iload_n 2, 1) := by decide +kernel
theorem dX7_truth_42 : decode cX7_truth 42 = .ok (.ireturn, 1) := by decide +kernel
theorem dX7_set_0 : decode cX7_set 0 = .ok (.iload_n 1, 1) := by decide +kernel
theorem dX7_set_1 : decode cX7_set 1 = .ok (.iload_n 2, 1) := by decide +kernel
theorem dX7_set_2 : decode cX7_set 2 = .ok (.invokestatic 94, 3) := by decide +kernel
theorem dX7_set_5 : decode cX7_set 5 = .ok (.ifCond .ne 6, 3) := by decide +kernel
theorem dX7_set_8 : decode cX7_set 8 = .ok (.bipush (-2), 2) := by decide +kernel
theorem dX7_set_10 : decode cX7_set 10 = .ok (.ireturn, 1) := by decide +kernel
theorem dX7_set_11 : decode cX7_set 11 = .ok (.aload_n 0, 1) := by decide +kernel
theorem dX7_set_12 : decode cX7_set 12 = .ok (.getfield 12, 3) := by decide +kernel
theorem dX7_set_15 : decode cX7_set 15 = .ok (.iload_n 1, 1) := by decide +kernel
theorem dX7_set_16 : decode cX7_set 16 = .ok (.invokevirtual 97, 3) := by decide +kernel
theorem dX7_set_19 : decode cX7_set 19 = .ok (.istore_n 3, 1) := by decide +kernel
theorem dX7_set_20 : decode cX7_set 20 = .ok (.iload_n 3, 1) := by decide +kernel
theorem dX7_set_21 : decode cX7_set 21 = .ok (.iload_n 2, 1) := by decide +kernel
theorem dX7_set_22 : decode cX7_set 22 = .ok (.if_icmp .ne 6, 3) := by decide +kernel
theorem dX7_set_25 : decode cX7_set 25 = .ok (.bipush (-5), 2) := by decide +kernel
theorem dX7_set_27 : decode cX7_set 27 = .ok (.ireturn, 1) := by decide +kernel
theorem dX7_set_28 : decode cX7_set 28 = .ok (.aload_n 0, 1) := by decide +kernel
theorem dX7_set_29 : decode cX7_set 29 = .ok (.invokevirtual 73, 3) := by decide +kernel
theorem dX7_set_32 : decode cX7_set 32 = .ok (.aload_n 0, 1) := by decide +kernel
theorem dX7_set_33 : decode cX7_set 33 = .ok (.getfield 12, 3) := by decide +kernel
theorem dX7_set_36 : decode cX7_set 36 = .ok (.iload_n 1, 1) := by decide +kernel
theorem dX7_set_37 : decode cX7_set 37 = .ok (.iload_n 2, 1) := by decide +kernel
theorem dX7_set_38 : decode cX7_set 38 = .ok (.invokevirtual 100, 3) := by decide +kernel
theorem dX7_set_41 : decode cX7_set 41 = .ok (.iload_n 3, 1) := by decide +kernel
theorem dX7_set_42 : decode cX7_set 42 = .ok (.ireturn, 1) := by decide +kernel
theorem dX7_lot_0 : decode cX7_lot 0 = .ok (.iload_n 1, 1) := by decide +kernel
theorem dX7_lot_1 : decode cX7_lot 1 = .ok (.ifCond .lt 9, 3) := by decide +kernel
theorem dX7_lot_4 : decode cX7_lot 4 = .ok (.iload_n 1, 1) := by decide +kernel
theorem dX7_lot_5 : decode cX7_lot 5 = .ok (.ldc 103, 2) := by decide +kernel
theorem dX7_lot_7 : decode cX7_lot 7 = .ok (.if_icmp .lt 6, 3) := by decide +kernel
theorem dX7_lot_10 : decode cX7_lot 10 = .ok (.bipush (-2), 2) := by decide +kernel
theorem dX7_lot_12 : decode cX7_lot 12 = .ok (.ireturn, 1) := by decide +kernel
theorem dX7_lot_13 : decode cX7_lot 13 = .ok (.aload_n 0, 1) := by decide +kernel
theorem dX7_lot_14 : decode cX7_lot 14 = .ok (.getfield 12, 3) := by decide +kernel
theorem dX7_lot_17 : decode cX7_lot 17 = .ok (.getfield 104, 3) := by decide +kernel
theorem dX7_lot_20 : decode cX7_lot 20 = .ok (.istore_n 2, 1) := by decide +kernel
theorem dX7_lot_21 : decode cX7_lot 21 = .ok (.iload_n 2, 1) := by decide +kernel
theorem dX7_lot_22 : decode cX7_lot 22 = .ok (.iload_n 1, 1) := by decide +kernel
theorem dX7_lot_23 : decode cX7_lot 23 = .ok (.if_icmp .ne 6, 3) := by decide +kernel
theorem dX7_lot_26 : decode cX7_lot 26 = .ok (.bipush (-5), 2) := by decide +kernel
theorem dX7_lot_28 : decode cX7_lot 28 = .ok (.ireturn, 1) := by decide +kernel
theorem dX7_lot_29 : decode cX7_lot 29 = .ok (.aload_n 0, 1) := by decide +kernel
theorem dX7_lot_30 : decode cX7_lot 30 = .ok (.invokevirtual 73, 3) := by decide +kernel
theorem dX7_lot_33 : decode cX7_lot 33 = .ok (.aload_n 0, 1) := by decide +kernel
theorem dX7_lot_34 : decode cX7_lot 34 = .ok (.getfield 12, 3) := by decide +kernel
theorem dX7_lot_37 : decode cX7_lot 37 = .ok (.iload_n 1, 1) := by decide +kernel
theorem dX7_lot_38 : decode cX7_lot 38 = .ok (.putfield 104, 3) := by decide +kernel
theorem dX7_lot_41 : decode cX7_lot 41 = .ok (.iload_n 2, 1) := by decide +kernel
theorem dX7_lot_42 : decode cX7_lot 42 = .ok (.ireturn, 1) := by decide +kernel
theorem dX7_sail_0 : decode cX7_sail 0 = .ok (.iload_n 1, 1) := by decide +kernel
theorem dX7_sail_1 : decode cX7_sail 1 = .ok (.iconst 1, 1) := by decide +kernel
theorem dX7_sail_2 : decode cX7_sail 2 = .ok (.if_icmp .lt 9, 3) := by decide +kernel
theorem dX7_sail_5 : decode cX7_sail 5 = .ok (.iload_n 1, 1) := by decide +kernel
theorem dX7_sail_6 : decode cX7_sail 6 = .ok (.bipush 30, 2) := by decide +kernel
theorem dX7_sail_8 : decode cX7_sail 8 = .ok (.if_icmp .le 6, 3) := by decide +kernel
theorem dX7_sail_11 : decode cX7_sail 11 = .ok (.bipush (-2), 2) := by decide +kernel
theorem dX7_sail_13 : decode cX7_sail 13 = .ok (.ireturn, 1) := by decide +kernel
theorem dX7_sail_14 : decode cX7_sail 14 = .ok (.aload_n 0, 1) := by decide +kernel
theorem dX7_sail_15 : decode cX7_sail 15 = .ok (.getfield 12, 3) := by decide +kernel
theorem dX7_sail_18 : decode cX7_sail 18 = .ok (.getfield 107, 3) := by decide +kernel
theorem dX7_sail_21 : decode cX7_sail 21 = .ok (.iload_n 1, 1) := by decide +kernel
theorem dX7_sail_22 : decode cX7_sail 22 = .ok (.iadd, 1) := by decide +kernel
theorem dX7_sail_23 : decode cX7_sail 23 = .ok (.sipush 9999, 3) := by decide +kernel
theorem dX7_sail_26 : decode cX7_sail 26 = .ok (.if_icmp .le 6, 3) := by decide +kernel
theorem dX7_sail_29 : decode cX7_sail 29 = .ok (.bipush (-3), 2) := by decide +kernel
theorem dX7_sail_31 : decode cX7_sail 31 = .ok (.ireturn, 1) := by decide +kernel
theorem dX7_sail_32 : decode cX7_sail 32 = .ok (.aload_n 0, 1) := by decide +kernel
theorem dX7_sail_33 : decode cX7_sail 33 = .ok (.invokevirtual 73, 3) := by decide +kernel
theorem dX7_sail_36 : decode cX7_sail 36 = .ok (.iconst 0, 1) := by decide +kernel
theorem dX7_sail_37 : decode cX7_sail 37 = .ok (.istore_n 2, 1) := by decide +kernel
theorem dX7_sail_38 : decode cX7_sail 38 = .ok (.iconst 0, 1) := by decide +kernel
theorem dX7_sail_39 : decode cX7_sail 39 = .ok (.istore_n 3, 1) := by decide +kernel
theorem dX7_sail_40 : decode cX7_sail 40 = .ok (.iload_n 3, 1) := by decide +kernel
theorem dX7_sail_41 : decode cX7_sail 41 = .ok (.iload_n 1, 1) := by decide +kernel
theorem dX7_sail_42 : decode cX7_sail 42 = .ok (.if_icmp .ge 42, 3) := by decide +kernel
theorem dX7_sail_45 : decode cX7_sail 45 = .ok (.aload_n 0, 1) := by decide +kernel
theorem dX7_sail_46 : decode cX7_sail 46 = .ok (.getfield 51, 3) := by decide +kernel
theorem dX7_sail_49 : decode cX7_sail 49 = .ok (.aload_n 0, 1) := by decide +kernel
theorem dX7_sail_50 : decode cX7_sail 50 = .ok (.getfield 12, 3) := by decide +kernel
theorem dX7_sail_53 : decode cX7_sail 53 = .ok (.invokevirtual 110, 3) := by decide +kernel
theorem dX7_sail_56 : decode cX7_sail 56 = .ok (.aload_n 0, 1) := by decide +kernel
theorem dX7_sail_57 : decode cX7_sail 57 = .ok (.getfield 12, 3) := by decide +kernel
theorem dX7_sail_60 : decode cX7_sail 60 = .ok (.aload_n 0, 1) := by decide +kernel
theorem dX7_sail_61 : decode cX7_sail 61 = .ok (.getfield 51, 3) := by decide +kernel
theorem dX7_sail_64 : decode cX7_sail 64 = .ok (.invokevirtual 113, 3) := by decide +kernel
theorem dX7_sail_67 : decode cX7_sail 67 = .ok (.iload_n 2, 1) := by decide +kernel
theorem dX7_sail_68 : decode cX7_sail 68 = .ok (.aload_n 0, 1) := by decide +kernel
theorem dX7_sail_69 : decode cX7_sail 69 = .ok (.getfield 51, 3) := by decide +kernel
theorem dX7_sail_72 : decode cX7_sail 72 = .ok (.iconst 5, 1) := by decide +kernel
theorem dX7_sail_73 : decode cX7_sail 73 = .ok (.invokevirtual 117, 3) := by decide +kernel
theorem dX7_sail_76 : decode cX7_sail 76 = .ok (.iadd, 1) := by decide +kernel
theorem dX7_sail_77 : decode cX7_sail 77 = .ok (.istore_n 2, 1) := by decide +kernel
theorem dX7_sail_78 : decode cX7_sail 78 = .ok (.iinc 3 1, 3) := by decide +kernel
theorem dX7_sail_81 : decode cX7_sail 81 = .ok (.goto (-41), 3) := by decide +kernel
theorem dX7_sail_84 : decode cX7_sail 84 = .ok (.iload_n 2, 1) := by decide +kernel
theorem dX7_sail_85 : decode cX7_sail 85 = .ok (.ireturn, 1) := by decide +kernel
theorem dX7_type_0 : decode cX7_type 0 = .ok (.aload_n 0, 1) := by decide +kernel
theorem dX7_type_1 : decode cX7_type 1 = .ok (.getfield 34, 3) := by decide +kernel
theorem dX7_type_4 : decode cX7_type 4 = .ok (.iload_n 1, 1) := by decide +kernel
theorem dX7_type_5 : decode cX7_type 5 = .ok (.invokevirtual 120, 3) := by decide +kernel
theorem dX7_type_8 : decode cX7_type 8 = .ok (.ifCond .eq 13, 3) := by decide +kernel
theorem dX7_type_11 : decode cX7_type 11 = .ok (.aload_n 0, 1) := by decide +kernel
theorem dX7_type_12 : decode cX7_type 12 = .ok (.getfield 34, 3) := by decide +kernel
theorem dX7_type_15 : decode cX7_type 15 = .ok (.getfield 124, 3) := by decide +kernel
theorem dX7_type_18 : decode cX7_type 18 = .ok (.goto 5, 3) := by decide +kernel
theorem dX7_type_21 : decode cX7_type 21 = .ok (.bipush (-3), 2) := by decide +kernel
theorem dX7_type_23 : decode cX7_type 23 = .ok (.ireturn, 1) := by decide +kernel
theorem dX7_clearText_0 : decode cX7_clearText 0 = .ok (.aload_n 0, 1) := by decide +kernel
theorem dX7_clearText_1 : decode cX7_clearText 1 = .ok (.getfield 34, 3) := by decide +kernel
theorem dX7_clearText_4 : decode cX7_clearText 4 = .ok (.getfield 124, 3) := by decide +kernel
theorem dX7_clearText_7 : decode cX7_clearText 7 = .ok (.istore_n 1, 1) := by decide +kernel
theorem dX7_clearText_8 : decode cX7_clearText 8 = .ok (.aload_n 0, 1) := by decide +kernel
theorem dX7_clearText_9 : decode cX7_clearText 9 = .ok (.getfield 34, 3) := by decide +kernel
theorem dX7_clearText_12 : decode cX7_clearText 12 = .ok (.iconst 0, 1) := by decide +kernel
theorem dX7_clearText_13 : decode cX7_clearText 13 = .ok (.putfield 124, 3) := by decide +kernel
theorem dX7_clearText_16 : decode cX7_clearText 16 = .ok (.iload_n 1, 1) := by decide +kernel
theorem dX7_clearText_17 : decode cX7_clearText 17 = .ok (.ireturn, 1) := by decide +kernel
theorem dX7_fault_0 : decode cX7_fault 0 = .ok (.aload_n 0, 1) := by decide +kernel
theorem dX7_fault_1 : decode cX7_fault 1 = .ok (.getfield 34, 3) := by decide +kernel
theorem dX7_fault_4 : decode cX7_fault 4 = .ok (.aload_n 0, 1) := by decide +kernel
theorem dX7_fault_5 : decode cX7_fault 5 = .ok (.getfield 38, 3) := by decide +kernel
theorem dX7_fault_8 : decode cX7_fault 8 = .ok (.invokevirtual 84, 3) := by decide +kernel
theorem dX7_fault_11 : decode cX7_fault 11 = .ok (.ireturn, 1) := by decide +kernel
theorem dX7_undo_0 : decode cX7_undo 0 = .ok (.aload_n 0, 1) := by decide +kernel
theorem dX7_undo_1 : decode cX7_undo 1 = .ok (.getfield 27, 3) := by decide +kernel
theorem dX7_undo_4 : decode cX7_undo 4 = .ok (.iconst 1, 1) := by decide +kernel
theorem dX7_undo_5 : decode cX7_undo 5 = .ok (.isub, 1) := by decide +kernel
theorem dX7_undo_6 : decode cX7_undo 6 = .ok (.istore_n 1, 1) := by decide +kernel
theorem dX7_undo_7 : decode cX7_undo 7 = .ok (.iload_n 1, 1) := by decide +kernel
theorem dX7_undo_8 : decode cX7_undo 8 = .ok (.ifCond .lt 12, 3) := by decide +kernel
theorem dX7_undo_11 : decode cX7_undo 11 = .ok (.iload_n 1, 1) := by decide +kernel
theorem dX7_undo_12 : decode cX7_undo 12 = .ok (.aload_n 0, 1) := by decide +kernel
theorem dX7_undo_13 : decode cX7_undo 13 = .ok (.getfield 23, 3) := by decide +kernel
theorem dX7_undo_16 : decode cX7_undo 16 = .ok (.arraylength, 1) := by decide +kernel
theorem dX7_undo_17 : decode cX7_undo 17 = .ok (.if_icmp .lt 6, 3) := by decide +kernel
theorem dX7_undo_20 : decode cX7_undo 20 = .ok (.bipush (-5), 2) := by decide +kernel
theorem dX7_undo_22 : decode cX7_undo 22 = .ok (.ireturn, 1) := by decide +kernel
theorem dX7_undo_23 : decode cX7_undo 23 = .ok (.aload_n 0, 1) := by decide +kernel
theorem dX7_undo_24 : decode cX7_undo 24 = .ok (.getfield 12, 3) := by decide +kernel
theorem dX7_undo_27 : decode cX7_undo 27 = .ok (.aload_n 0, 1) := by decide +kernel
theorem dX7_undo_28 : decode cX7_undo 28 = .ok (.getfield 23, 3) := by decide +kernel
theorem dX7_undo_31 : decode cX7_undo 31 = .ok (.iload_n 1, 1) := by decide +kernel
theorem dX7_undo_32 : decode cX7_undo 32 = .ok (.aaload, 1) := by decide +kernel
theorem dX7_undo_33 : decode cX7_undo 33 = .ok (.invokevirtual 80, 3) := by decide +kernel
theorem dX7_undo_36 : decode cX7_undo 36 = .ok (.aload_n 0, 1) := by decide +kernel
theorem dX7_undo_37 : decode cX7_undo 37 = .ok (.iload_n 1, 1) := by decide +kernel
theorem dX7_undo_38 : decode cX7_undo 38 = .ok (.putfield 27, 3) := by decide +kernel
theorem dX7_undo_41 : decode cX7_undo 41 = .ok (.aload_n 0, 1) := by decide +kernel
theorem dX7_undo_42 : decode cX7_undo 42 = .ok (.getfield 27, 3) := by decide +kernel
theorem dX7_undo_45 : decode cX7_undo 45 = .ok (.ireturn, 1) := by decide +kernel
theorem dX7_keep_0 : decode cX7_keep 0 = .ok (.aload_n 0, 1) := by decide +kernel
theorem dX7_keep_1 : decode cX7_keep 1 = .ok (.getfield 16, 3) := by decide +kernel
theorem dX7_keep_4 : decode cX7_keep 4 = .ok (.aload_n 0, 1) := by decide +kernel
theorem dX7_keep_5 : decode cX7_keep 5 = .ok (.getfield 12, 3) := by decide +kernel
theorem dX7_keep_8 : decode cX7_keep 8 = .ok (.invokevirtual 80, 3) := by decide +kernel
theorem dX7_keep_11 : decode cX7_keep 11 = .ok (.aload_n 0, 1) := by decide +kernel
theorem dX7_keep_12 : decode cX7_keep 12 = .ok (.iconst 1, 1) := by decide +kernel
theorem dX7_keep_13 : decode cX7_keep 13 = .ok (.putfield 19, 3) := by decide +kernel
theorem dX7_keep_16 : decode cX7_keep 16 = .ok (.aload_n 0, 1) := by decide +kernel
theorem dX7_keep_17 : decode cX7_keep 17 = .ok (.getfield 12, 3) := by decide +kernel
theorem dX7_keep_20 : decode cX7_keep 20 = .ok (.getfield 107, 3) := by decide +kernel
theorem dX7_keep_23 : decode cX7_keep 23 = .ok (.ireturn, 1) := by decide +kernel
theorem dX7_restore_0 : decode cX7_restore 0 = .ok (.aload_n 0, 1) := by decide +kernel
theorem dX7_restore_1 : decode cX7_restore 1 = .ok (.getfield 19, 3) := by decide +kernel
theorem dX7_restore_4 : decode cX7_restore 4 = .ok (.ifCond .ne 6, 3) := by decide +kernel
theorem dX7_restore_7 : decode cX7_restore 7 = .ok (.bipush (-5), 2) := by decide +kernel
theorem dX7_restore_9 : decode cX7_restore 9 = .ok (.ireturn, 1) := by decide +kernel
theorem dX7_restore_10 : decode cX7_restore 10 = .ok (.aload_n 0, 1) := by decide +kernel
theorem dX7_restore_11 : decode cX7_restore 11 = .ok (.invokevirtual 73, 3) := by decide +kernel
theorem dX7_restore_14 : decode cX7_restore 14 = .ok (.aload_n 0, 1) := by decide +kernel
theorem dX7_restore_15 : decode cX7_restore 15 = .ok (.getfield 12, 3) := by decide +kernel
theorem dX7_restore_18 : decode cX7_restore 18 = .ok (.aload_n 0, 1) := by decide +kernel
theorem dX7_restore_19 : decode cX7_restore 19 = .ok (.getfield 16, 3) := by decide +kernel
theorem dX7_restore_22 : decode cX7_restore 22 = .ok (.invokevirtual 80, 3) := by decide +kernel
theorem dX7_restore_25 : decode cX7_restore 25 = .ok (.aload_n 0, 1) := by decide +kernel
theorem dX7_restore_26 : decode cX7_restore 26 = .ok (.getfield 12, 3) := by decide +kernel
theorem dX7_restore_29 : decode cX7_restore 29 = .ok (.getfield 107, 3) := by decide +kernel
theorem dX7_restore_32 : decode cX7_restore 32 = .ok (.ireturn, 1) := by decide +kernel
theorem dX7_captainOf_0 : decode cX7_captainOf 0 = .ok (.iload_n 1, 1) := by decide +kernel
theorem dX7_captainOf_1 : decode cX7_captainOf 1 = .ok (.invokestatic 55, 3) := by decide +kernel
theorem dX7_captainOf_4 : decode cX7_captainOf 4 = .ok (.ifCond .ne 5, 3) := by decide +kernel
theorem dX7_captainOf_7 : decode cX7_captainOf 7 = .ok (.iconst (-1), 1) := by decide +kernel
theorem dX7_captainOf_8 : decode cX7_captainOf 8 = .ok (.ireturn, 1) := by decide +kernel
theorem dX7_captainOf_9 : decode cX7_captainOf 9 = .ok (.iload_n 2, 1) := by decide +kernel
theorem dX7_captainOf_10 : decode cX7_captainOf 10 = .ok (.ifCond .lt 9, 3) := by decide +kernel
theorem dX7_captainOf_13 : decode cX7_captainOf 13 = .ok (.iload_n 2, 1) := by decide +kernel
theorem dX7_captainOf_14 : decode cX7_captainOf 14 = .ok (.bipush 10, 2) := by decide +kernel
theorem dX7_captainOf_16 : decode cX7_captainOf 16 = .ok (.if_icmp .le 6, 3) := by decide +kernel
theorem dX7_captainOf_19 : decode cX7_captainOf 19 = .ok (.bipush (-2), 2) := by decide +kernel
theorem dX7_captainOf_21 : decode cX7_captainOf 21 = .ok (.ireturn, 1) := by decide +kernel
theorem dX7_captainOf_22 : decode cX7_captainOf 22 = .ok (.iload_n 2, 1) := by decide +kernel
theorem dX7_captainOf_23 : decode cX7_captainOf 23 = .ok (.iconst 4, 1) := by decide +kernel
theorem dX7_captainOf_24 : decode cX7_captainOf 24 = .ok (.if_icmp .ne 14, 3) := by decide +kernel
theorem dX7_captainOf_27 : decode cX7_captainOf 27 = .ok (.aload_n 0, 1) := by decide +kernel
theorem dX7_captainOf_28 : decode cX7_captainOf 28 = .ok (.iload_n 1, 1) := by decide +kernel
theorem dX7_captainOf_29 : decode cX7_captainOf 29 = .ok (.invokevirtual 127, 3) := by decide +kernel
theorem dX7_captainOf_32 : decode cX7_captainOf 32 = .ok (.getfield 131, 3) := by decide +kernel
theorem dX7_captainOf_35 : decode cX7_captainOf 35 = .ok (.goto 16, 3) := by decide +kernel
theorem dX7_captainOf_38 : decode cX7_captainOf 38 = .ok (.aload_n 0, 1) := by decide +kernel
theorem dX7_captainOf_39 : decode cX7_captainOf 39 = .ok (.getfield 12, 3) := by decide +kernel
theorem dX7_captainOf_42 : decode cX7_captainOf 42 = .ok (.getfield 63, 3) := by decide +kernel
theorem dX7_captainOf_45 : decode cX7_captainOf 45 = .ok (.iload_n 1, 1) := by decide +kernel
theorem dX7_captainOf_46 : decode cX7_captainOf 46 = .ok (.aaload, 1) := by decide +kernel
theorem dX7_captainOf_47 : decode cX7_captainOf 47 = .ok (.iload_n 2, 1) := by decide +kernel
theorem dX7_captainOf_48 : decode cX7_captainOf 48 = .ok (.invokevirtual 67, 3) := by decide +kernel
theorem dX7_captainOf_51 : decode cX7_captainOf 51 = .ok (.ireturn, 1) := by decide +kernel
theorem dX7_printed_0 : decode cX7_printed 0 = .ok (.iload_n 1, 1) := by decide +kernel
theorem dX7_printed_1 : decode cX7_printed 1 = .ok (.invokestatic 55, 3) := by decide +kernel
theorem dX7_printed_4 : decode cX7_printed 4 = .ok (.ifCond .ne 5, 3) := by decide +kernel
theorem dX7_printed_7 : decode cX7_printed 7 = .ok (.iconst (-1), 1) := by decide +kernel
theorem dX7_printed_8 : decode cX7_printed 8 = .ok (.ireturn, 1) := by decide +kernel
theorem dX7_printed_9 : decode cX7_printed 9 = .ok (.aload_n 0, 1) := by decide +kernel
theorem dX7_printed_10 : decode cX7_printed 10 = .ok (.iload_n 1, 1) := by decide +kernel
theorem dX7_printed_11 : decode cX7_printed 11 = .ok (.invokevirtual 127, 3) := by decide +kernel
theorem dX7_printed_14 : decode cX7_printed 14 = .ok (.astore 4, 2) := by decide +kernel
theorem dX7_printed_16 : decode cX7_printed 16 = .ok (.aload 4, 2) := by decide +kernel
theorem dX7_printed_18 : decode cX7_printed 18 = .ok (.iload_n 2, 1) := by decide +kernel
theorem dX7_printed_19 : decode cX7_printed 19 = .ok (.invokevirtual 136, 3) := by decide +kernel
theorem dX7_printed_22 : decode cX7_printed 22 = .ok (.ifCond .ne 5, 3) := by decide +kernel
theorem dX7_printed_25 : decode cX7_printed 25 = .ok (.iconst (-1), 1) := by decide +kernel
theorem dX7_printed_26 : decode cX7_printed 26 = .ok (.ireturn, 1) := by decide +kernel
theorem dX7_printed_27 : decode cX7_printed 27 = .ok (.iload_n 3, 1) := by decide +kernel
theorem dX7_printed_28 : decode cX7_printed 28 = .ok (.lookupswitch 42 #[(0, 28), (1, 35)], 28) := by decide +kernel
theorem dX7_printed_56 : decode cX7_printed 56 = .ok (.aload 4, 2) := by decide +kernel
theorem dX7_printed_58 : decode cX7_printed 58 = .ok (.iload_n 2, 1) := by decide +kernel
theorem dX7_printed_59 : decode cX7_printed 59 = .ok (.invokevirtual 139, 3) := by decide +kernel
theorem dX7_printed_62 : decode cX7_printed 62 = .ok (.ireturn, 1) := by decide +kernel
theorem dX7_printed_63 : decode cX7_printed 63 = .ok (.aload 4, 2) := by decide +kernel
theorem dX7_printed_65 : decode cX7_printed 65 = .ok (.iload_n 2, 1) := by decide +kernel
theorem dX7_printed_66 : decode cX7_printed 66 = .ok (.invokevirtual 142, 3) := by decide +kernel
theorem dX7_printed_69 : decode cX7_printed 69 = .ok (.ireturn, 1) := by decide +kernel
theorem dX7_printed_70 : decode cX7_printed 70 = .ok (.bipush (-2), 2) := by decide +kernel
theorem dX7_printed_72 : decode cX7_printed 72 = .ok (.ireturn, 1) := by decide +kernel
theorem dX7_level_0 : decode cX7_level 0 = .ok (.iload_n 1, 1) := by decide +kernel
theorem dX7_level_1 : decode cX7_level 1 = .ok (.invokestatic 55, 3) := by decide +kernel
theorem dX7_level_4 : decode cX7_level 4 = .ok (.ifCond .ne 8, 3) := by decide +kernel
theorem dX7_level_7 : decode cX7_level 7 = .ok (.iload_n 1, 1) := by decide +kernel
theorem dX7_level_8 : decode cX7_level 8 = .ok (.iconst 3, 1) := by decide +kernel
theorem dX7_level_9 : decode cX7_level 9 = .ok (.if_icmp .ne 7, 3) := by decide +kernel
theorem dX7_level_12 : decode cX7_level 12 = .ok (.iconst 1, 1) := by decide +kernel
theorem dX7_level_13 : decode cX7_level 13 = .ok (.goto 4, 3) := by decide +kernel
theorem dX7_level_16 : decode cX7_level 16 = .ok (.iconst 0, 1) := by decide +kernel
theorem dX7_level_17 : decode cX7_level 17 = .ok (.istore 4, 2) := by decide +kernel
theorem dX7_level_19 : decode cX7_level 19 = .ok (.iload 4, 2) := by decide +kernel
theorem dX7_level_21 : decode cX7_level 21 = .ok (.ifCond .eq 13, 3) := by decide +kernel
theorem dX7_level_24 : decode cX7_level 24 = .ok (.iload_n 2, 1) := by decide +kernel
theorem dX7_level_25 : decode cX7_level 25 = .ok (.ifCond .lt 9, 3) := by decide +kernel
theorem dX7_level_28 : decode cX7_level 28 = .ok (.iload_n 2, 1) := by decide +kernel
theorem dX7_level_29 : decode cX7_level 29 = .ok (.bipush 24, 2) := by decide +kernel
theorem dX7_level_31 : decode cX7_level 31 = .ok (.if_icmp .lt 5, 3) := by decide +kernel
theorem dX7_level_34 : decode cX7_level 34 = .ok (.iconst (-1), 1) := by decide +kernel
theorem dX7_level_35 : decode cX7_level 35 = .ok (.ireturn, 1) := by decide +kernel
theorem dX7_level_36 : decode cX7_level 36 = .ok (.iload_n 1, 1) := by decide +kernel
theorem dX7_level_37 : decode cX7_level 37 = .ok (.invokestatic 55, 3) := by decide +kernel
theorem dX7_level_40 : decode cX7_level 40 = .ok (.ifCond .eq 18, 3) := by decide +kernel
theorem dX7_level_43 : decode cX7_level 43 = .ok (.aload_n 0, 1) := by decide +kernel
theorem dX7_level_44 : decode cX7_level 44 = .ok (.getfield 12, 3) := by decide +kernel
theorem dX7_level_47 : decode cX7_level 47 = .ok (.getfield 63, 3) := by decide +kernel
theorem dX7_level_50 : decode cX7_level 50 = .ok (.iload_n 1, 1) := by decide +kernel
theorem dX7_level_51 : decode cX7_level 51 = .ok (.aaload, 1) := by decide +kernel
theorem dX7_level_52 : decode cX7_level 52 = .ok (.getfield 145, 3) := by decide +kernel
theorem dX7_level_55 : decode cX7_level 55 = .ok (.goto 10, 3) := by decide +kernel
theorem dX7_level_58 : decode cX7_level 58 = .ok (.aload_n 0, 1) := by decide +kernel
theorem dX7_level_59 : decode cX7_level 59 = .ok (.getfield 12, 3) := by decide +kernel
theorem dX7_level_62 : decode cX7_level 62 = .ok (.getfield 91, 3) := by decide +kernel
theorem dX7_level_65 : decode cX7_level 65 = .ok (.istore 5, 2) := by decide +kernel
theorem dX7_level_67 : decode cX7_level 67 = .ok (.iload_n 3, 1) := by decide +kernel
theorem dX7_level_68 : decode cX7_level 68 = .ok (.lookupswitch 42 #[(0, 28), (1, 35)], 28) := by decide +kernel
theorem dX7_level_96 : decode cX7_level 96 = .ok (.iload 5, 2) := by decide +kernel
theorem dX7_level_98 : decode cX7_level 98 = .ok (.iload_n 2, 1) := by decide +kernel
theorem dX7_level_99 : decode cX7_level 99 = .ok (.invokestatic 148, 3) := by decide +kernel
theorem dX7_level_102 : decode cX7_level 102 = .ok (.ireturn, 1) := by decide +kernel
theorem dX7_level_103 : decode cX7_level 103 = .ok (.iload 5, 2) := by decide +kernel
theorem dX7_level_105 : decode cX7_level 105 = .ok (.iload_n 2, 1) := by decide +kernel
theorem dX7_level_106 : decode cX7_level 106 = .ok (.invokestatic 152, 3) := by decide +kernel
theorem dX7_level_109 : decode cX7_level 109 = .ok (.ireturn, 1) := by decide +kernel
theorem dX7_level_110 : decode cX7_level 110 = .ok (.bipush (-2), 2) := by decide +kernel
theorem dX7_level_112 : decode cX7_level 112 = .ok (.ireturn, 1) := by decide +kernel
theorem dX7_uses_0 : decode cX7_uses 0 = .ok (.iload_n 1, 1) := by decide +kernel
theorem dX7_uses_1 : decode cX7_uses 1 = .ok (.ifCond .lt 18, 3) := by decide +kernel
theorem dX7_uses_4 : decode cX7_uses 4 = .ok (.iload_n 1, 1) := by decide +kernel
theorem dX7_uses_5 : decode cX7_uses 5 = .ok (.iconst 2, 1) := by decide +kernel
theorem dX7_uses_6 : decode cX7_uses 6 = .ok (.if_icmp .ge 13, 3) := by decide +kernel
theorem dX7_uses_9 : decode cX7_uses 9 = .ok (.iload_n 2, 1) := by decide +kernel
theorem dX7_uses_10 : decode cX7_uses 10 = .ok (.ifCond .lt 9, 3) := by decide +kernel
theorem dX7_uses_13 : decode cX7_uses 13 = .ok (.iload_n 2, 1) := by decide +kernel
theorem dX7_uses_14 : decode cX7_uses 14 = .ok (.bipush 24, 2) := by decide +kernel
theorem dX7_uses_16 : decode cX7_uses 16 = .ok (.if_icmp .lt 5, 3) := by decide +kernel
theorem dX7_uses_19 : decode cX7_uses 19 = .ok (.iconst (-1), 1) := by decide +kernel
theorem dX7_uses_20 : decode cX7_uses 20 = .ok (.ireturn, 1) := by decide +kernel
theorem dX7_uses_21 : decode cX7_uses 21 = .ok (.aload_n 0, 1) := by decide +kernel
theorem dX7_uses_22 : decode cX7_uses 22 = .ok (.getfield 44, 3) := by decide +kernel
theorem dX7_uses_25 : decode cX7_uses 25 = .ok (.aload_n 0, 1) := by decide +kernel
theorem dX7_uses_26 : decode cX7_uses 26 = .ok (.getfield 12, 3) := by decide +kernel
theorem dX7_uses_29 : decode cX7_uses 29 = .ok (.invokevirtual 155, 3) := by decide +kernel
theorem dX7_uses_32 : decode cX7_uses 32 = .ok (.aload_n 0, 1) := by decide +kernel
theorem dX7_uses_33 : decode cX7_uses 33 = .ok (.getfield 44, 3) := by decide +kernel
theorem dX7_uses_36 : decode cX7_uses 36 = .ok (.iload_n 2, 1) := by decide +kernel
theorem dX7_uses_37 : decode cX7_uses 37 = .ok (.iload_n 1, 1) := by decide +kernel
theorem dX7_uses_38 : decode cX7_uses 38 = .ok (.invokestatic 158, 3) := by decide +kernel
theorem dX7_uses_41 : decode cX7_uses 41 = .ok (.invokevirtual 161, 3) := by decide +kernel
theorem dX7_uses_44 : decode cX7_uses 44 = .ok (.ireturn, 1) := by decide +kernel
theorem dX7_clash_0 : decode cX7_clash 0 = .ok (.aload_n 0, 1) := by decide +kernel
theorem dX7_clash_1 : decode cX7_clash 1 = .ok (.getfield 44, 3) := by decide +kernel
theorem dX7_clash_4 : decode cX7_clash 4 = .ok (.aload_n 0, 1) := by decide +kernel
theorem dX7_clash_5 : decode cX7_clash 5 = .ok (.getfield 12, 3) := by decide +kernel
theorem dX7_clash_8 : decode cX7_clash 8 = .ok (.invokevirtual 155, 3) := by decide +kernel
theorem dX7_clash_11 : decode cX7_clash 11 = .ok (.aload_n 0, 1) := by decide +kernel
theorem dX7_clash_12 : decode cX7_clash 12 = .ok (.getfield 44, 3) := by decide +kernel
theorem dX7_clash_15 : decode cX7_clash 15 = .ok (.iload_n 1, 1) := by decide +kernel
theorem dX7_clash_16 : decode cX7_clash 16 = .ok (.invokevirtual 164, 3) := by decide +kernel
theorem dX7_clash_19 : decode cX7_clash 19 = .ok (.istore_n 3, 1) := by decide +kernel
theorem dX7_clash_20 : decode cX7_clash 20 = .ok (.iload_n 3, 1) := by decide +kernel
theorem dX7_clash_21 : decode cX7_clash 21 = .ok (.bipush (-5), 2) := by decide +kernel
theorem dX7_clash_23 : decode cX7_clash 23 = .ok (.if_icmp .ne 5, 3) := by decide +kernel
theorem dX7_clash_26 : decode cX7_clash 26 = .ok (.iconst (-1), 1) := by decide +kernel
theorem dX7_clash_27 : decode cX7_clash 27 = .ok (.ireturn, 1) := by decide +kernel
theorem dX7_clash_28 : decode cX7_clash 28 = .ok (.iload_n 2, 1) := by decide +kernel
theorem dX7_clash_29 : decode cX7_clash 29 = .ok (.tableswitch 44 0 2 #[27, 31, 35], 27) := by decide +kernel
theorem dX7_clash_56 : decode cX7_clash 56 = .ok (.iload_n 3, 1) := by decide +kernel
theorem dX7_clash_57 : decode cX7_clash 57 = .ok (.iconst 2, 1) := by decide +kernel
theorem dX7_clash_58 : decode cX7_clash 58 = .ok (.idiv, 1) := by decide +kernel
theorem dX7_clash_59 : decode cX7_clash 59 = .ok (.ireturn, 1) := by decide +kernel
theorem dX7_clash_60 : decode cX7_clash 60 = .ok (.iload_n 3, 1) := by decide +kernel
theorem dX7_clash_61 : decode cX7_clash 61 = .ok (.iconst 2, 1) := by decide +kernel
theorem dX7_clash_62 : decode cX7_clash 62 = .ok (.irem, 1) := by decide +kernel
theorem dX7_clash_63 : decode cX7_clash 63 = .ok (.ireturn, 1) := by decide +kernel
theorem dX7_clash_64 : decode cX7_clash 64 = .ok (.aload_n 0, 1) := by decide +kernel
theorem dX7_clash_65 : decode cX7_clash 65 = .ok (.getfield 44, 3) := by decide +kernel
theorem dX7_clash_68 : decode cX7_clash 68 = .ok (.iload_n 3, 1) := by decide +kernel
theorem dX7_clash_69 : decode cX7_clash 69 = .ok (.invokevirtual 161, 3) := by decide +kernel
theorem dX7_clash_72 : decode cX7_clash 72 = .ok (.ireturn, 1) := by decide +kernel
theorem dX7_clash_73 : decode cX7_clash 73 = .ok (.bipush (-2), 2) := by decide +kernel
theorem dX7_clash_75 : decode cX7_clash 75 = .ok (.ireturn, 1) := by decide +kernel
theorem dX7_hours_0 : decode cX7_hours 0 = .ok (.iload_n 1, 1) := by decide +kernel
theorem dX7_hours_1 : decode cX7_hours 1 = .ok (.invokestatic 55, 3) := by decide +kernel
theorem dX7_hours_4 : decode cX7_hours 4 = .ok (.ifCond .ne 5, 3) := by decide +kernel
theorem dX7_hours_7 : decode cX7_hours 7 = .ok (.iconst (-1), 1) := by decide +kernel
theorem dX7_hours_8 : decode cX7_hours 8 = .ok (.ireturn, 1) := by decide +kernel
theorem dX7_hours_9 : decode cX7_hours 9 = .ok (.aload_n 0, 1) := by decide +kernel
theorem dX7_hours_10 : decode cX7_hours 10 = .ok (.getfield 12, 3) := by decide +kernel
theorem dX7_hours_13 : decode cX7_hours 13 = .ok (.getfield 63, 3) := by decide +kernel
theorem dX7_hours_16 : decode cX7_hours 16 = .ok (.iload_n 1, 1) := by decide +kernel
theorem dX7_hours_17 : decode cX7_hours 17 = .ok (.aaload, 1) := by decide +kernel
theorem dX7_hours_18 : decode cX7_hours 18 = .ok (.astore_n 3, 1) := by decide +kernel
theorem dX7_hours_19 : decode cX7_hours 19 = .ok (.aload_n 3, 1) := by decide +kernel
theorem dX7_hours_20 : decode cX7_hours 20 = .ok (.getfield 145, 3) := by decide +kernel
theorem dX7_hours_23 : decode cX7_hours 23 = .ok (.aload_n 3, 1) := by decide +kernel
theorem dX7_hours_24 : decode cX7_hours 24 = .ok (.getfield 167, 3) := by decide +kernel
theorem dX7_hours_27 : decode cX7_hours 27 = .ok (.invokestatic 170, 3) := by decide +kernel
theorem dX7_hours_30 : decode cX7_hours 30 = .ok (.istore 4, 2) := by decide +kernel
theorem dX7_hours_32 : decode cX7_hours 32 = .ok (.aload_n 0, 1) := by decide +kernel
theorem dX7_hours_33 : decode cX7_hours 33 = .ok (.getfield 12, 3) := by decide +kernel
theorem dX7_hours_36 : decode cX7_hours 36 = .ok (.getfield 91, 3) := by decide +kernel
theorem dX7_hours_39 : decode cX7_hours 39 = .ok (.aload_n 3, 1) := by decide +kernel
theorem dX7_hours_40 : decode cX7_hours 40 = .ok (.getfield 167, 3) := by decide +kernel
theorem dX7_hours_43 : decode cX7_hours 43 = .ok (.invokestatic 170, 3) := by decide +kernel
theorem dX7_hours_46 : decode cX7_hours 46 = .ok (.istore 5, 2) := by decide +kernel
theorem dX7_hours_48 : decode cX7_hours 48 = .ok (.iload_n 2, 1) := by decide +kernel
theorem dX7_hours_49 : decode cX7_hours 49 = .ok (.tableswitch 39 0 2 #[27, 30, 33], 27) := by decide +kernel
theorem dX7_hours_76 : decode cX7_hours 76 = .ok (.iload 4, 2) := by decide +kernel
theorem dX7_hours_78 : decode cX7_hours 78 = .ok (.ireturn, 1) := by decide +kernel
theorem dX7_hours_79 : decode cX7_hours 79 = .ok (.iload 5, 2) := by decide +kernel
theorem dX7_hours_81 : decode cX7_hours 81 = .ok (.ireturn, 1) := by decide +kernel
theorem dX7_hours_82 : decode cX7_hours 82 = .ok (.iload 4, 2) := by decide +kernel
theorem dX7_hours_84 : decode cX7_hours 84 = .ok (.iload 5, 2) := by decide +kernel
theorem dX7_hours_86 : decode cX7_hours 86 = .ok (.ixor, 1) := by decide +kernel
theorem dX7_hours_87 : decode cX7_hours 87 = .ok (.ireturn, 1) := by decide +kernel
theorem dX7_hours_88 : decode cX7_hours 88 = .ok (.bipush (-2), 2) := by decide +kernel
theorem dX7_hours_90 : decode cX7_hours 90 = .ok (.ireturn, 1) := by decide +kernel
theorem dX7_count_0 : decode cX7_count 0 = .ok (.iload_n 1, 1) := by decide +kernel
theorem dX7_count_1 : decode cX7_count 1 = .ok (.tableswitch 211 0 13 #[71, 79, 87, 95, 114, 133, 142, 152, 160, 170, 180, 185, 193, 202], 71) := by decide +kernel
theorem dX7_count_72 : decode cX7_count 72 = .ok (.aload_n 0, 1) := by decide +kernel
theorem dX7_count_73 : decode cX7_count 73 = .ok (.getfield 12, 3) := by decide +kernel
theorem dX7_count_76 : decode cX7_count 76 = .ok (.getfield 107, 3) := by decide +kernel
theorem dX7_count_79 : decode cX7_count 79 = .ok (.ireturn, 1) := by decide +kernel
theorem dX7_count_80 : decode cX7_count 80 = .ok (.aload_n 0, 1) := by decide +kernel
theorem dX7_count_81 : decode cX7_count 81 = .ok (.getfield 12, 3) := by decide +kernel
theorem dX7_count_84 : decode cX7_count 84 = .ok (.getfield 91, 3) := by decide +kernel
theorem dX7_count_87 : decode cX7_count 87 = .ok (.ireturn, 1) := by decide +kernel
theorem dX7_count_88 : decode cX7_count 88 = .ok (.aload_n 0, 1) := by decide +kernel
theorem dX7_count_89 : decode cX7_count 89 = .ok (.getfield 12, 3) := by decide +kernel
theorem dX7_count_92 : decode cX7_count 92 = .ok (.getfield 104, 3) := by decide +kernel
theorem dX7_count_95 : decode cX7_count 95 = .ok (.ireturn, 1) := by decide +kernel
theorem dX7_count_96 : decode cX7_count 96 = .ok (.aload_n 0, 1) := by decide +kernel
theorem dX7_count_97 : decode cX7_count 97 = .ok (.getfield 44, 3) := by decide +kernel
theorem dX7_count_100 : decode cX7_count 100 = .ok (.aload_n 0, 1) := by decide +kernel
theorem dX7_count_101 : decode cX7_count 101 = .ok (.getfield 12, 3) := by decide +kernel
theorem dX7_count_104 : decode cX7_count 104 = .ok (.invokevirtual 155, 3) := by decide +kernel
theorem dX7_count_107 : decode cX7_count 107 = .ok (.aload_n 0, 1) := by decide +kernel
theorem dX7_count_108 : decode cX7_count 108 = .ok (.getfield 44, 3) := by decide +kernel
theorem dX7_count_111 : decode cX7_count 111 = .ok (.invokevirtual 173, 3) := by decide +kernel
theorem dX7_count_114 : decode cX7_count 114 = .ok (.ireturn, 1) := by decide +kernel
theorem dX7_count_115 : decode cX7_count 115 = .ok (.aload_n 0, 1) := by decide +kernel
theorem dX7_count_116 : decode cX7_count 116 = .ok (.getfield 44, 3) := by decide +kernel
theorem dX7_count_119 : decode cX7_count 119 = .ok (.aload_n 0, 1) := by decide +kernel
theorem dX7_count_120 : decode cX7_count 120 = .ok (.getfield 12, 3) := by decide +kernel
theorem dX7_count_123 : decode cX7_count 123 = .ok (.invokevirtual 155, 3) := by decide +kernel
theorem dX7_count_126 : decode cX7_count 126 = .ok (.aload_n 0, 1) := by decide +kernel
theorem dX7_count_127 : decode cX7_count 127 = .ok (.getfield 44, 3) := by decide +kernel
theorem dX7_count_130 : decode cX7_count 130 = .ok (.invokevirtual 177, 3) := by decide +kernel
theorem dX7_count_133 : decode cX7_count 133 = .ok (.ireturn, 1) := by decide +kernel
theorem dX7_count_134 : decode cX7_count 134 = .ok (.aload_n 0, 1) := by decide +kernel
theorem dX7_count_135 : decode cX7_count 135 = .ok (.getfield 12, 3) := by decide +kernel
theorem dX7_count_138 : decode cX7_count 138 = .ok (.iconst 5, 1) := by decide +kernel
theorem dX7_count_139 : decode cX7_count 139 = .ok (.invokevirtual 179, 3) := by decide +kernel
theorem dX7_count_142 : decode cX7_count 142 = .ok (.ireturn, 1) := by decide +kernel
theorem dX7_count_143 : decode cX7_count 143 = .ok (.aload_n 0, 1) := by decide +kernel
theorem dX7_count_144 : decode cX7_count 144 = .ok (.getfield 12, 3) := by decide +kernel
theorem dX7_count_147 : decode cX7_count 147 = .ok (.bipush 9, 2) := by decide +kernel
theorem dX7_count_149 : decode cX7_count 149 = .ok (.invokevirtual 179, 3) := by decide +kernel
theorem dX7_count_152 : decode cX7_count 152 = .ok (.ireturn, 1) := by decide +kernel
theorem dX7_count_153 : decode cX7_count 153 = .ok (.aload_n 0, 1) := by decide +kernel
theorem dX7_count_154 : decode cX7_count 154 = .ok (.getfield 12, 3) := by decide +kernel
theorem dX7_count_157 : decode cX7_count 157 = .ok (.getfield 180, 3) := by decide +kernel
theorem dX7_count_160 : decode cX7_count 160 = .ok (.ireturn, 1) := by decide +kernel
theorem dX7_count_161 : decode cX7_count 161 = .ok (.aload_n 0, 1) := by decide +kernel
theorem dX7_count_162 : decode cX7_count 162 = .ok (.getfield 12, 3) := by decide +kernel
theorem dX7_count_165 : decode cX7_count 165 = .ok (.bipush 6, 2) := by decide +kernel
theorem dX7_count_167 : decode cX7_count 167 = .ok (.invokevirtual 179, 3) := by decide +kernel
theorem dX7_count_170 : decode cX7_count 170 = .ok (.ireturn, 1) := by decide +kernel
theorem dX7_count_171 : decode cX7_count 171 = .ok (.aload_n 0, 1) := by decide +kernel
theorem dX7_count_172 : decode cX7_count 172 = .ok (.getfield 12, 3) := by decide +kernel
theorem dX7_count_175 : decode cX7_count 175 = .ok (.bipush 7, 2) := by decide +kernel
theorem dX7_count_177 : decode cX7_count 177 = .ok (.invokevirtual 179, 3) := by decide +kernel
theorem dX7_count_180 : decode cX7_count 180 = .ok (.ireturn, 1) := by decide +kernel
theorem dX7_count_181 : decode cX7_count 181 = .ok (.aload_n 0, 1) := by decide +kernel
theorem dX7_count_182 : decode cX7_count 182 = .ok (.getfield 27, 3) := by decide +kernel
theorem dX7_count_185 : decode cX7_count 185 = .ok (.ireturn, 1) := by decide +kernel
theorem dX7_count_186 : decode cX7_count 186 = .ok (.aload_n 0, 1) := by decide +kernel
theorem dX7_count_187 : decode cX7_count 187 = .ok (.getfield 34, 3) := by decide +kernel
theorem dX7_count_190 : decode cX7_count 190 = .ok (.getfield 124, 3) := by decide +kernel
theorem dX7_count_193 : decode cX7_count 193 = .ok (.ireturn, 1) := by decide +kernel
theorem dX7_count_194 : decode cX7_count 194 = .ok (.aload_n 0, 1) := by decide +kernel
theorem dX7_count_195 : decode cX7_count 195 = .ok (.getfield 12, 3) := by decide +kernel
theorem dX7_count_198 : decode cX7_count 198 = .ok (.iconst 0, 1) := by decide +kernel
theorem dX7_count_199 : decode cX7_count 199 = .ok (.invokevirtual 97, 3) := by decide +kernel
theorem dX7_count_202 : decode cX7_count 202 = .ok (.ireturn, 1) := by decide +kernel
theorem dX7_count_203 : decode cX7_count 203 = .ok (.aload_n 0, 1) := by decide +kernel
theorem dX7_count_204 : decode cX7_count 204 = .ok (.getfield 12, 3) := by decide +kernel
theorem dX7_count_207 : decode cX7_count 207 = .ok (.iconst 1, 1) := by decide +kernel
theorem dX7_count_208 : decode cX7_count 208 = .ok (.invokevirtual 97, 3) := by decide +kernel
theorem dX7_count_211 : decode cX7_count 211 = .ok (.ireturn, 1) := by decide +kernel
theorem dX7_count_212 : decode cX7_count 212 = .ok (.bipush (-2), 2) := by decide +kernel
theorem dX7_count_214 : decode cX7_count 214 = .ok (.ireturn, 1) := by decide +kernel
theorem dX7_made_0 : decode cX7_made 0 = .ok (.aload_n 0, 1) := by decide +kernel
theorem dX7_made_1 : decode cX7_made 1 = .ok (.getfield 12, 3) := by decide +kernel
theorem dX7_made_4 : decode cX7_made 4 = .ok (.iconst 5, 1) := by decide +kernel
theorem dX7_made_5 : decode cX7_made 5 = .ok (.invokevirtual 179, 3) := by decide +kernel
theorem dX7_made_8 : decode cX7_made 8 = .ok (.istore_n 1, 1) := by decide +kernel
theorem dX7_made_9 : decode cX7_made 9 = .ok (.iload_n 1, 1) := by decide +kernel
theorem dX7_made_10 : decode cX7_made 10 = .ok (.aload_n 0, 1) := by decide +kernel
theorem dX7_made_11 : decode cX7_made 11 = .ok (.getfield 12, 3) := by decide +kernel
theorem dX7_made_14 : decode cX7_made 14 = .ok (.bipush 9, 2) := by decide +kernel
theorem dX7_made_16 : decode cX7_made 16 = .ok (.invokevirtual 179, 3) := by decide +kernel
theorem dX7_made_19 : decode cX7_made 19 = .ok (.iadd, 1) := by decide +kernel
theorem dX7_made_20 : decode cX7_made 20 = .ok (.istore_n 2, 1) := by decide +kernel
theorem dX7_made_21 : decode cX7_made 21 = .ok (.iload_n 2, 1) := by decide +kernel
theorem dX7_made_22 : decode cX7_made 22 = .ok (.ifCond .le 11, 3) := by decide +kernel
theorem dX7_made_25 : decode cX7_made 25 = .ok (.iload_n 1, 1) := by decide +kernel
theorem dX7_made_26 : decode cX7_made 26 = .ok (.i2f, 1) := by decide +kernel
theorem dX7_made_27 : decode cX7_made 27 = .ok (.iload_n 2, 1) := by decide +kernel
theorem dX7_made_28 : decode cX7_made 28 = .ok (.i2f, 1) := by decide +kernel
theorem dX7_made_29 : decode cX7_made 29 = .ok (.fdiv, 1) := by decide +kernel
theorem dX7_made_30 : decode cX7_made 30 = .ok (.goto 4, 3) := by decide +kernel
theorem dX7_made_33 : decode cX7_made 33 = .ok (.fconst 1, 1) := by decide +kernel
theorem dX7_made_34 : decode cX7_made 34 = .ok (.freturn, 1) := by decide +kernel
theorem dX7_ifSailed_0 : decode cX7_ifSailed 0 = .ok (.aload_n 0, 1) := by decide +kernel
theorem dX7_ifSailed_1 : decode cX7_ifSailed 1 = .ok (.getfield 51, 3) := by decide +kernel
theorem dX7_ifSailed_4 : decode cX7_ifSailed 4 = .ok (.aload_n 0, 1) := by decide +kernel
theorem dX7_ifSailed_5 : decode cX7_ifSailed 5 = .ok (.getfield 12, 3) := by decide +kernel
theorem dX7_ifSailed_8 : decode cX7_ifSailed 8 = .ok (.invokevirtual 110, 3) := by decide +kernel
theorem dX7_ifSailed_11 : decode cX7_ifSailed 11 = .ok (.iload_n 1, 1) := by decide +kernel
theorem dX7_ifSailed_12 : decode cX7_ifSailed 12 = .ok (.tableswitch 102 0 5 #[40, 49, 59, 69, 79, 87], 40) := by decide +kernel
theorem dX7_ifSailed_52 : decode cX7_ifSailed 52 = .ok (.aload_n 0, 1) := by decide +kernel
theorem dX7_ifSailed_53 : decode cX7_ifSailed 53 = .ok (.getfield 51, 3) := by decide +kernel
theorem dX7_ifSailed_56 : decode cX7_ifSailed 56 = .ok (.iconst 5, 1) := by decide +kernel
theorem dX7_ifSailed_57 : decode cX7_ifSailed 57 = .ok (.invokevirtual 117, 3) := by decide +kernel
theorem dX7_ifSailed_60 : decode cX7_ifSailed 60 = .ok (.ireturn, 1) := by decide +kernel
theorem dX7_ifSailed_61 : decode cX7_ifSailed 61 = .ok (.aload_n 0, 1) := by decide +kernel
theorem dX7_ifSailed_62 : decode cX7_ifSailed 62 = .ok (.getfield 51, 3) := by decide +kernel
theorem dX7_ifSailed_65 : decode cX7_ifSailed 65 = .ok (.bipush 9, 2) := by decide +kernel
theorem dX7_ifSailed_67 : decode cX7_ifSailed 67 = .ok (.invokevirtual 117, 3) := by decide +kernel
theorem dX7_ifSailed_70 : decode cX7_ifSailed 70 = .ok (.ireturn, 1) := by decide +kernel
theorem dX7_ifSailed_71 : decode cX7_ifSailed 71 = .ok (.aload_n 0, 1) := by decide +kernel
theorem dX7_ifSailed_72 : decode cX7_ifSailed 72 = .ok (.getfield 51, 3) := by decide +kernel
theorem dX7_ifSailed_75 : decode cX7_ifSailed 75 = .ok (.bipush 6, 2) := by decide +kernel
theorem dX7_ifSailed_77 : decode cX7_ifSailed 77 = .ok (.invokevirtual 117, 3) := by decide +kernel
theorem dX7_ifSailed_80 : decode cX7_ifSailed 80 = .ok (.ireturn, 1) := by decide +kernel
theorem dX7_ifSailed_81 : decode cX7_ifSailed 81 = .ok (.aload_n 0, 1) := by decide +kernel
theorem dX7_ifSailed_82 : decode cX7_ifSailed 82 = .ok (.getfield 51, 3) := by decide +kernel
theorem dX7_ifSailed_85 : decode cX7_ifSailed 85 = .ok (.bipush 7, 2) := by decide +kernel
theorem dX7_ifSailed_87 : decode cX7_ifSailed 87 = .ok (.invokevirtual 117, 3) := by decide +kernel
theorem dX7_ifSailed_90 : decode cX7_ifSailed 90 = .ok (.ireturn, 1) := by decide +kernel
theorem dX7_ifSailed_91 : decode cX7_ifSailed 91 = .ok (.aload_n 0, 1) := by decide +kernel
theorem dX7_ifSailed_92 : decode cX7_ifSailed 92 = .ok (.getfield 51, 3) := by decide +kernel
theorem dX7_ifSailed_95 : decode cX7_ifSailed 95 = .ok (.getfield 183, 3) := by decide +kernel
theorem dX7_ifSailed_98 : decode cX7_ifSailed 98 = .ok (.ireturn, 1) := by decide +kernel
theorem dX7_ifSailed_99 : decode cX7_ifSailed 99 = .ok (.aload_n 0, 1) := by decide +kernel
theorem dX7_ifSailed_100 : decode cX7_ifSailed 100 = .ok (.getfield 51, 3) := by decide +kernel
theorem dX7_ifSailed_103 : decode cX7_ifSailed 103 = .ok (.aload_n 0, 1) := by decide +kernel
theorem dX7_ifSailed_104 : decode cX7_ifSailed 104 = .ok (.getfield 12, 3) := by decide +kernel
theorem dX7_ifSailed_107 : decode cX7_ifSailed 107 = .ok (.getfield 184, 3) := by decide +kernel
theorem dX7_ifSailed_110 : decode cX7_ifSailed 110 = .ok (.invokevirtual 187, 3) := by decide +kernel
theorem dX7_ifSailed_113 : decode cX7_ifSailed 113 = .ok (.ireturn, 1) := by decide +kernel
theorem dX7_ifSailed_114 : decode cX7_ifSailed 114 = .ok (.bipush (-2), 2) := by decide +kernel
theorem dX7_ifSailed_116 : decode cX7_ifSailed 116 = .ok (.ireturn, 1) := by decide +kernel
theorem dX7_bestHour_0 : decode cX7_bestHour 0 = .ok (.iload_n 1, 1) := by decide +kernel
theorem dX7_bestHour_1 : decode cX7_bestHour 1 = .ok (.invokestatic 55, 3) := by decide +kernel
theorem dX7_bestHour_4 : decode cX7_bestHour 4 = .ok (.ifCond .ne 5, 3) := by decide +kernel
theorem dX7_bestHour_7 : decode cX7_bestHour 7 = .ok (.iconst (-1), 1) := by decide +kernel
theorem dX7_bestHour_8 : decode cX7_bestHour 8 = .ok (.ireturn, 1) := by decide +kernel
theorem dX7_bestHour_9 : decode cX7_bestHour 9 = .ok (.aload_n 0, 1) := by decide +kernel
theorem dX7_bestHour_10 : decode cX7_bestHour 10 = .ok (.getfield 38, 3) := by decide +kernel
theorem dX7_bestHour_13 : decode cX7_bestHour 13 = .ok (.aload_n 0, 1) := by decide +kernel
theorem dX7_bestHour_14 : decode cX7_bestHour 14 = .ok (.getfield 12, 3) := by decide +kernel
theorem dX7_bestHour_17 : decode cX7_bestHour 17 = .ok (.invokevirtual 80, 3) := by decide +kernel
theorem dX7_bestHour_20 : decode cX7_bestHour 20 = .ok (.iconst 0, 1) := by decide +kernel
theorem dX7_bestHour_21 : decode cX7_bestHour 21 = .ok (.istore_n 2, 1) := by decide +kernel
theorem dX7_bestHour_22 : decode cX7_bestHour 22 = .ok (.bipush 49, 2) := by decide +kernel
theorem dX7_bestHour_24 : decode cX7_bestHour 24 = .ok (.istore_n 3, 1) := by decide +kernel
theorem dX7_bestHour_25 : decode cX7_bestHour 25 = .ok (.iconst 0, 1) := by decide +kernel
theorem dX7_bestHour_26 : decode cX7_bestHour 26 = .ok (.istore 4, 2) := by decide +kernel
theorem dX7_bestHour_28 : decode cX7_bestHour 28 = .ok (.iconst 0, 1) := by decide +kernel
theorem dX7_bestHour_29 : decode cX7_bestHour 29 = .ok (.istore 5, 2) := by decide +kernel
theorem dX7_bestHour_31 : decode cX7_bestHour 31 = .ok (.iload 5, 2) := by decide +kernel
theorem dX7_bestHour_33 : decode cX7_bestHour 33 = .ok (.bipush 24, 2) := by decide +kernel
theorem dX7_bestHour_35 : decode cX7_bestHour 35 = .ok (.if_icmp .ge 86, 3) := by decide +kernel
theorem dX7_bestHour_38 : decode cX7_bestHour 38 = .ok (.aload_n 0, 1) := by decide +kernel
theorem dX7_bestHour_39 : decode cX7_bestHour 39 = .ok (.getfield 38, 3) := by decide +kernel
theorem dX7_bestHour_42 : decode cX7_bestHour 42 = .ok (.getfield 63, 3) := by decide +kernel
theorem dX7_bestHour_45 : decode cX7_bestHour 45 = .ok (.iload_n 1, 1) := by decide +kernel
theorem dX7_bestHour_46 : decode cX7_bestHour 46 = .ok (.aaload, 1) := by decide +kernel
theorem dX7_bestHour_47 : decode cX7_bestHour 47 = .ok (.iload 5, 2) := by decide +kernel
theorem dX7_bestHour_49 : decode cX7_bestHour 49 = .ok (.putfield 190, 3) := by decide +kernel
theorem dX7_bestHour_52 : decode cX7_bestHour 52 = .ok (.aload_n 0, 1) := by decide +kernel
theorem dX7_bestHour_53 : decode cX7_bestHour 53 = .ok (.getfield 44, 3) := by decide +kernel
theorem dX7_bestHour_56 : decode cX7_bestHour 56 = .ok (.aload_n 0, 1) := by decide +kernel
theorem dX7_bestHour_57 : decode cX7_bestHour 57 = .ok (.getfield 38, 3) := by decide +kernel
theorem dX7_bestHour_60 : decode cX7_bestHour 60 = .ok (.invokevirtual 155, 3) := by decide +kernel
theorem dX7_bestHour_63 : decode cX7_bestHour 63 = .ok (.aload_n 0, 1) := by decide +kernel
theorem dX7_bestHour_64 : decode cX7_bestHour 64 = .ok (.getfield 44, 3) := by decide +kernel
theorem dX7_bestHour_67 : decode cX7_bestHour 67 = .ok (.invokevirtual 173, 3) := by decide +kernel
theorem dX7_bestHour_70 : decode cX7_bestHour 70 = .ok (.istore 6, 2) := by decide +kernel
theorem dX7_bestHour_72 : decode cX7_bestHour 72 = .ok (.aload_n 0, 1) := by decide +kernel
theorem dX7_bestHour_73 : decode cX7_bestHour 73 = .ok (.getfield 44, 3) := by decide +kernel
theorem dX7_bestHour_76 : decode cX7_bestHour 76 = .ok (.getfield 193, 3) := by decide +kernel
theorem dX7_bestHour_79 : decode cX7_bestHour 79 = .ok (.iload_n 1, 1) := by decide +kernel
theorem dX7_bestHour_80 : decode cX7_bestHour 80 = .ok (.aaload, 1) := by decide +kernel
theorem dX7_bestHour_81 : decode cX7_bestHour 81 = .ok (.getfield 131, 3) := by decide +kernel
theorem dX7_bestHour_84 : decode cX7_bestHour 84 = .ok (.istore 7, 2) := by decide +kernel
theorem dX7_bestHour_86 : decode cX7_bestHour 86 = .ok (.iload 6, 2) := by decide +kernel
theorem dX7_bestHour_88 : decode cX7_bestHour 88 = .ok (.iload_n 3, 1) := by decide +kernel
theorem dX7_bestHour_89 : decode cX7_bestHour 89 = .ok (.if_icmp .lt 16, 3) := by decide +kernel
theorem dX7_bestHour_92 : decode cX7_bestHour 92 = .ok (.iload 6, 2) := by decide +kernel
theorem dX7_bestHour_94 : decode cX7_bestHour 94 = .ok (.iload_n 3, 1) := by decide +kernel
theorem dX7_bestHour_95 : decode cX7_bestHour 95 = .ok (.if_icmp .ne 20, 3) := by decide +kernel
theorem dX7_bestHour_98 : decode cX7_bestHour 98 = .ok (.iload 7, 2) := by decide +kernel
theorem dX7_bestHour_100 : decode cX7_bestHour 100 = .ok (.iload 4, 2) := by decide +kernel
theorem dX7_bestHour_102 : decode cX7_bestHour 102 = .ok (.if_icmp .le 13, 3) := by decide +kernel
theorem dX7_bestHour_105 : decode cX7_bestHour 105 = .ok (.iload 5, 2) := by decide +kernel
theorem dX7_bestHour_107 : decode cX7_bestHour 107 = .ok (.istore_n 2, 1) := by decide +kernel
theorem dX7_bestHour_108 : decode cX7_bestHour 108 = .ok (.iload 6, 2) := by decide +kernel
theorem dX7_bestHour_110 : decode cX7_bestHour 110 = .ok (.istore_n 3, 1) := by decide +kernel
theorem dX7_bestHour_111 : decode cX7_bestHour 111 = .ok (.iload 7, 2) := by decide +kernel
theorem dX7_bestHour_113 : decode cX7_bestHour 113 = .ok (.istore 4, 2) := by decide +kernel
theorem dX7_bestHour_115 : decode cX7_bestHour 115 = .ok (.iinc 5 1, 3) := by decide +kernel
theorem dX7_bestHour_118 : decode cX7_bestHour 118 = .ok (.goto (-87), 3) := by decide +kernel
theorem dX7_bestHour_121 : decode cX7_bestHour 121 = .ok (.iload_n 2, 1) := by decide +kernel
theorem dX7_bestHour_122 : decode cX7_bestHour 122 = .ok (.ireturn, 1) := by decide +kernel
theorem dX7_bestPhase_0 : decode cX7_bestPhase 0 = .ok (.iload_n 1, 1) := by decide +kernel
theorem dX7_bestPhase_1 : decode cX7_bestPhase 1 = .ok (.invokestatic 55, 3) := by decide +kernel
theorem dX7_bestPhase_4 : decode cX7_bestPhase 4 = .ok (.ifCond .ne 5, 3) := by decide +kernel
theorem dX7_bestPhase_7 : decode cX7_bestPhase 7 = .ok (.iconst (-1), 1) := by decide +kernel
theorem dX7_bestPhase_8 : decode cX7_bestPhase 8 = .ok (.ireturn, 1) := by decide +kernel
theorem dX7_bestPhase_9 : decode cX7_bestPhase 9 = .ok (.aload_n 0, 1) := by decide +kernel
theorem dX7_bestPhase_10 : decode cX7_bestPhase 10 = .ok (.getfield 38, 3) := by decide +kernel
theorem dX7_bestPhase_13 : decode cX7_bestPhase 13 = .ok (.aload_n 0, 1) := by decide +kernel
theorem dX7_bestPhase_14 : decode cX7_bestPhase 14 = .ok (.getfield 12, 3) := by decide +kernel
theorem dX7_bestPhase_17 : decode cX7_bestPhase 17 = .ok (.invokevirtual 80, 3) := by decide +kernel
theorem dX7_bestPhase_20 : decode cX7_bestPhase 20 = .ok (.iconst 0, 1) := by decide +kernel
theorem dX7_bestPhase_21 : decode cX7_bestPhase 21 = .ok (.istore_n 2, 1) := by decide +kernel
theorem dX7_bestPhase_22 : decode cX7_bestPhase 22 = .ok (.iconst (-1), 1) := by decide +kernel
theorem dX7_bestPhase_23 : decode cX7_bestPhase 23 = .ok (.istore_n 3, 1) := by decide +kernel
theorem dX7_bestPhase_24 : decode cX7_bestPhase 24 = .ok (.iconst 0, 1) := by decide +kernel
theorem dX7_bestPhase_25 : decode cX7_bestPhase 25 = .ok (.istore 4, 2) := by decide +kernel
theorem dX7_bestPhase_27 : decode cX7_bestPhase 27 = .ok (.iload 4, 2) := by decide +kernel
theorem dX7_bestPhase_29 : decode cX7_bestPhase 29 = .ok (.bipush 12, 2) := by decide +kernel
theorem dX7_bestPhase_31 : decode cX7_bestPhase 31 = .ok (.if_icmp .ge 56, 3) := by decide +kernel
theorem dX7_bestPhase_34 : decode cX7_bestPhase 34 = .ok (.aload_n 0, 1) := by decide +kernel
theorem dX7_bestPhase_35 : decode cX7_bestPhase 35 = .ok (.getfield 38, 3) := by decide +kernel
theorem dX7_bestPhase_38 : decode cX7_bestPhase 38 = .ok (.getfield 63, 3) := by decide +kernel
theorem dX7_bestPhase_41 : decode cX7_bestPhase 41 = .ok (.iload_n 1, 1) := by decide +kernel
theorem dX7_bestPhase_42 : decode cX7_bestPhase 42 = .ok (.aaload, 1) := by decide +kernel
theorem dX7_bestPhase_43 : decode cX7_bestPhase 43 = .ok (.iload 4, 2) := by decide +kernel
theorem dX7_bestPhase_45 : decode cX7_bestPhase 45 = .ok (.putfield 145, 3) := by decide +kernel
theorem dX7_bestPhase_48 : decode cX7_bestPhase 48 = .ok (.aload_n 0, 1) := by decide +kernel
theorem dX7_bestPhase_49 : decode cX7_bestPhase 49 = .ok (.getfield 51, 3) := by decide +kernel
theorem dX7_bestPhase_52 : decode cX7_bestPhase 52 = .ok (.aload_n 0, 1) := by decide +kernel
theorem dX7_bestPhase_53 : decode cX7_bestPhase 53 = .ok (.getfield 38, 3) := by decide +kernel
theorem dX7_bestPhase_56 : decode cX7_bestPhase 56 = .ok (.invokevirtual 110, 3) := by decide +kernel
theorem dX7_bestPhase_59 : decode cX7_bestPhase 59 = .ok (.aload_n 0, 1) := by decide +kernel
theorem dX7_bestPhase_60 : decode cX7_bestPhase 60 = .ok (.getfield 51, 3) := by decide +kernel
theorem dX7_bestPhase_63 : decode cX7_bestPhase 63 = .ok (.iconst 5, 1) := by decide +kernel
theorem dX7_bestPhase_64 : decode cX7_bestPhase 64 = .ok (.invokevirtual 117, 3) := by decide +kernel
theorem dX7_bestPhase_67 : decode cX7_bestPhase 67 = .ok (.istore 5, 2) := by decide +kernel
theorem dX7_bestPhase_69 : decode cX7_bestPhase 69 = .ok (.iload 5, 2) := by decide +kernel
theorem dX7_bestPhase_71 : decode cX7_bestPhase 71 = .ok (.iload_n 3, 1) := by decide +kernel
theorem dX7_bestPhase_72 : decode cX7_bestPhase 72 = .ok (.if_icmp .le 9, 3) := by decide +kernel
theorem dX7_bestPhase_75 : decode cX7_bestPhase 75 = .ok (.iload 4, 2) := by decide +kernel
theorem dX7_bestPhase_77 : decode cX7_bestPhase 77 = .ok (.istore_n 2, 1) := by decide +kernel
theorem dX7_bestPhase_78 : decode cX7_bestPhase 78 = .ok (.iload 5, 2) := by decide +kernel
theorem dX7_bestPhase_80 : decode cX7_bestPhase 80 = .ok (.istore_n 3, 1) := by decide +kernel
theorem dX7_bestPhase_81 : decode cX7_bestPhase 81 = .ok (.iinc 4 1, 3) := by decide +kernel
theorem dX7_bestPhase_84 : decode cX7_bestPhase 84 = .ok (.goto (-57), 3) := by decide +kernel
theorem dX7_bestPhase_87 : decode cX7_bestPhase 87 = .ok (.iload_n 2, 1) := by decide +kernel
theorem dX7_bestPhase_88 : decode cX7_bestPhase 88 = .ok (.ireturn, 1) := by decide +kernel
theorem dX7_isCaptain_0 : decode cX7_isCaptain 0 = .ok (.iload_n 0, 1) := by decide +kernel
theorem dX7_isCaptain_1 : decode cX7_isCaptain 1 = .ok (.ifCond .lt 12, 3) := by decide +kernel
theorem dX7_isCaptain_4 : decode cX7_isCaptain 4 = .ok (.iload_n 0, 1) := by decide +kernel
theorem dX7_isCaptain_5 : decode cX7_isCaptain 5 = .ok (.iconst 3, 1) := by decide +kernel
theorem dX7_isCaptain_6 : decode cX7_isCaptain 6 = .ok (.if_icmp .ge 7, 3) := by decide +kernel
theorem dX7_isCaptain_9 : decode cX7_isCaptain 9 = .ok (.iconst 1, 1) := by decide +kernel
theorem dX7_isCaptain_10 : decode cX7_isCaptain 10 = .ok (.goto 4, 3) := by decide +kernel
theorem dX7_isCaptain_13 : decode cX7_isCaptain 13 = .ok (.iconst 0, 1) := by decide +kernel
theorem dX7_isCaptain_14 : decode cX7_isCaptain 14 = .ok (.ireturn, 1) := by decide +kernel
theorem dX7_isValueOfCaptain_0 : decode cX7_isValueOfCaptain 0 = .ok (.getstatic 197, 3) := by decide +kernel
theorem dX7_isValueOfCaptain_3 : decode cX7_isValueOfCaptain 3 = .ok (.getstatic 201, 3) := by decide +kernel
theorem dX7_isValueOfCaptain_6 : decode cX7_isValueOfCaptain 6 = .ok (.iload_n 0, 1) := by decide +kernel
theorem dX7_isValueOfCaptain_7 : decode cX7_isValueOfCaptain 7 = .ok (.iload_n 1, 1) := by decide +kernel
theorem dX7_isValueOfCaptain_8 : decode cX7_isValueOfCaptain 8 = .ok (.invokestatic 204, 3) := by decide +kernel
theorem dX7_isValueOfCaptain_11 : decode cX7_isValueOfCaptain 11 = .ok (.ireturn, 1) := by decide +kernel
theorem dX7_isValueOfSetting_0 : decode cX7_isValueOfSetting 0 = .ok (.getstatic 208, 3) := by decide +kernel
theorem dX7_isValueOfSetting_3 : decode cX7_isValueOfSetting 3 = .ok (.getstatic 211, 3) := by decide +kernel
theorem dX7_isValueOfSetting_6 : decode cX7_isValueOfSetting 6 = .ok (.iload_n 0, 1) := by decide +kernel
theorem dX7_isValueOfSetting_7 : decode cX7_isValueOfSetting 7 = .ok (.iload_n 1, 1) := by decide +kernel
theorem dX7_isValueOfSetting_8 : decode cX7_isValueOfSetting 8 = .ok (.invokestatic 204, 3) := by decide +kernel
theorem dX7_isValueOfSetting_11 : decode cX7_isValueOfSetting 11 = .ok (.ireturn, 1) := by decide +kernel
theorem dX7_isWithin_0 : decode cX7_isWithin 0 = .ok (.iload_n 2, 1) := by decide +kernel
theorem dX7_isWithin_1 : decode cX7_isWithin 1 = .ok (.ifCond .lt 33, 3) := by decide +kernel
theorem dX7_isWithin_4 : decode cX7_isWithin 4 = .ok (.iload_n 2, 1) := by decide +kernel
theorem dX7_isWithin_5 : decode cX7_isWithin 5 = .ok (.aload_n 0, 1) := by decide +kernel
theorem dX7_isWithin_6 : decode cX7_isWithin 6 = .ok (.arraylength, 1) := by decide +kernel
theorem dX7_isWithin_7 : decode cX7_isWithin 7 = .ok (.if_icmp .ge 27, 3) := by decide +kernel
theorem dX7_isWithin_10 : decode cX7_isWithin 10 = .ok (.iload_n 2, 1) := by decide +kernel
theorem dX7_isWithin_11 : decode cX7_isWithin 11 = .ok (.aload_n 1, 1) := by decide +kernel
theorem dX7_isWithin_12 : decode cX7_isWithin 12 = .ok (.arraylength, 1) := by decide +kernel
theorem dX7_isWithin_13 : decode cX7_isWithin 13 = .ok (.if_icmp .ge 21, 3) := by decide +kernel
theorem dX7_isWithin_16 : decode cX7_isWithin 16 = .ok (.iload_n 3, 1) := by decide +kernel
theorem dX7_isWithin_17 : decode cX7_isWithin 17 = .ok (.aload_n 0, 1) := by decide +kernel
theorem dX7_isWithin_18 : decode cX7_isWithin 18 = .ok (.iload_n 2, 1) := by decide +kernel
theorem dX7_isWithin_19 : decode cX7_isWithin 19 = .ok (.iaload, 1) := by decide +kernel
theorem dX7_isWithin_20 : decode cX7_isWithin 20 = .ok (.if_icmp .lt 14, 3) := by decide +kernel
theorem dX7_isWithin_23 : decode cX7_isWithin 23 = .ok (.iload_n 3, 1) := by decide +kernel
theorem dX7_isWithin_24 : decode cX7_isWithin 24 = .ok (.aload_n 1, 1) := by decide +kernel
theorem dX7_isWithin_25 : decode cX7_isWithin 25 = .ok (.iload_n 2, 1) := by decide +kernel
theorem dX7_isWithin_26 : decode cX7_isWithin 26 = .ok (.iaload, 1) := by decide +kernel
theorem dX7_isWithin_27 : decode cX7_isWithin 27 = .ok (.if_icmp .gt 7, 3) := by decide +kernel
theorem dX7_isWithin_30 : decode cX7_isWithin 30 = .ok (.iconst 1, 1) := by decide +kernel
theorem dX7_isWithin_31 : decode cX7_isWithin 31 = .ok (.goto 4, 3) := by decide +kernel
theorem dX7_isWithin_34 : decode cX7_isWithin 34 = .ok (.iconst 0, 1) := by decide +kernel
theorem dX7_isWithin_35 : decode cX7_isWithin 35 = .ok (.ireturn, 1) := by decide +kernel
theorem dX7_levelAt_0 : decode cX7_levelAt 0 = .ok (.iload_n 1, 1) := by decide +kernel
theorem dX7_levelAt_1 : decode cX7_levelAt 1 = .ok (.iload_n 0, 1) := by decide +kernel
theorem dX7_levelAt_2 : decode cX7_levelAt 2 = .ok (.iadd, 1) := by decide +kernel
theorem dX7_levelAt_3 : decode cX7_levelAt 3 = .ok (.bipush 12, 2) := by decide +kernel
theorem dX7_levelAt_5 : decode cX7_levelAt 5 = .ok (.irem, 1) := by decide +kernel
theorem dX7_levelAt_6 : decode cX7_levelAt 6 = .ok (.bipush 6, 2) := by decide +kernel
theorem dX7_levelAt_8 : decode cX7_levelAt 8 = .ok (.isub, 1) := by decide +kernel
theorem dX7_levelAt_9 : decode cX7_levelAt 9 = .ok (.invokestatic 214, 3) := by decide +kernel
theorem dX7_levelAt_12 : decode cX7_levelAt 12 = .ok (.ireturn, 1) := by decide +kernel
theorem dX7_levelReached_0 : decode cX7_levelReached 0 = .ok (.iload_n 0, 1) := by decide +kernel
theorem dX7_levelReached_1 : decode cX7_levelReached 1 = .ok (.iconst 0, 1) := by decide +kernel
theorem dX7_levelReached_2 : decode cX7_levelReached 2 = .ok (.invokestatic 148, 3) := by decide +kernel
theorem dX7_levelReached_5 : decode cX7_levelReached 5 = .ok (.istore_n 2, 1) := by decide +kernel
theorem dX7_levelReached_6 : decode cX7_levelReached 6 = .ok (.iload_n 0, 1) := by decide +kernel
theorem dX7_levelReached_7 : decode cX7_levelReached 7 = .ok (.bipush 6, 2) := by decide +kernel
theorem dX7_levelReached_9 : decode cX7_levelReached 9 = .ok (.if_icmp .ge 7, 3) := by decide +kernel
theorem dX7_levelReached_12 : decode cX7_levelReached 12 = .ok (.iconst 1, 1) := by decide +kernel
theorem dX7_levelReached_13 : decode cX7_levelReached 13 = .ok (.goto 4, 3) := by decide +kernel
theorem dX7_levelReached_16 : decode cX7_levelReached 16 = .ok (.iconst 0, 1) := by decide +kernel
theorem dX7_levelReached_17 : decode cX7_levelReached 17 = .ok (.istore_n 3, 1) := by decide +kernel
theorem dX7_levelReached_18 : decode cX7_levelReached 18 = .ok (.iconst 0, 1) := by decide +kernel
theorem dX7_levelReached_19 : decode cX7_levelReached 19 = .ok (.istore 4, 2) := by decide +kernel
theorem dX7_levelReached_21 : decode cX7_levelReached 21 = .ok (.iload 4, 2) := by decide +kernel
theorem dX7_levelReached_23 : decode cX7_levelReached 23 = .ok (.iload_n 1, 1) := by decide +kernel
theorem dX7_levelReached_24 : decode cX7_levelReached 24 = .ok (.if_icmp .ge 38, 3) := by decide +kernel
theorem dX7_levelReached_27 : decode cX7_levelReached 27 = .ok (.iload_n 2, 1) := by decide +kernel
theorem dX7_levelReached_28 : decode cX7_levelReached 28 = .ok (.iload_n 3, 1) := by decide +kernel
theorem dX7_levelReached_29 : decode cX7_levelReached 29 = .ok (.ifCond .eq 7, 3) := by decide +kernel
theorem dX7_levelReached_32 : decode cX7_levelReached 32 = .ok (.iconst (-1), 1) := by decide +kernel
theorem dX7_levelReached_33 : decode cX7_levelReached 33 = .ok (.goto 4, 3) := by decide +kernel
theorem dX7_levelReached_36 : decode cX7_levelReached 36 = .ok (.iconst 1, 1) := by decide +kernel
theorem dX7_levelReached_37 : decode cX7_levelReached 37 = .ok (.iadd, 1) := by decide +kernel
theorem dX7_levelReached_38 : decode cX7_levelReached 38 = .ok (.istore_n 2, 1) := by decide +kernel
theorem dX7_levelReached_39 : decode cX7_levelReached 39 = .ok (.iload_n 2, 1) := by decide +kernel
theorem dX7_levelReached_40 : decode cX7_levelReached 40 = .ok (.ifCond .ne 8, 3) := by decide +kernel
theorem dX7_levelReached_43 : decode cX7_levelReached 43 = .ok (.iconst 0, 1) := by decide +kernel
theorem dX7_levelReached_44 : decode cX7_levelReached 44 = .ok (.istore_n 3, 1) := by decide +kernel
theorem dX7_levelReached_45 : decode cX7_levelReached 45 = .ok (.goto 11, 3) := by decide +kernel
theorem dX7_levelReached_48 : decode cX7_levelReached 48 = .ok (.iload_n 2, 1) := by decide +kernel
theorem dX7_levelReached_49 : decode cX7_levelReached 49 = .ok (.bipush 6, 2) := by decide +kernel
theorem dX7_levelReached_51 : decode cX7_levelReached 51 = .ok (.if_icmp .ne 5, 3) := by decide +kernel
theorem dX7_levelReached_54 : decode cX7_levelReached 54 = .ok (.iconst 1, 1) := by decide +kernel
theorem dX7_levelReached_55 : decode cX7_levelReached 55 = .ok (.istore_n 3, 1) := by decide +kernel
theorem dX7_levelReached_56 : decode cX7_levelReached 56 = .ok (.iinc 4 1, 3) := by decide +kernel
theorem dX7_levelReached_59 : decode cX7_levelReached 59 = .ok (.goto (-38), 3) := by decide +kernel
theorem dX7_levelReached_62 : decode cX7_levelReached 62 = .ok (.iload_n 2, 1) := by decide +kernel
theorem dX7_levelReached_63 : decode cX7_levelReached 63 = .ok (.ireturn, 1) := by decide +kernel
theorem dX7_hoursWithWater_0 : decode cX7_hoursWithWater 0 = .ok (.iconst 0, 1) := by decide +kernel
theorem dX7_hoursWithWater_1 : decode cX7_hoursWithWater 1 = .ok (.istore_n 2, 1) := by decide +kernel
theorem dX7_hoursWithWater_2 : decode cX7_hoursWithWater 2 = .ok (.iconst 0, 1) := by decide +kernel
theorem dX7_hoursWithWater_3 : decode cX7_hoursWithWater 3 = .ok (.istore_n 3, 1) := by decide +kernel
theorem dX7_hoursWithWater_4 : decode cX7_hoursWithWater 4 = .ok (.iload_n 3, 1) := by decide +kernel
theorem dX7_hoursWithWater_5 : decode cX7_hoursWithWater 5 = .ok (.bipush 24, 2) := by decide +kernel
theorem dX7_hoursWithWater_7 : decode cX7_hoursWithWater 7 = .ok (.if_icmp .ge 24, 3) := by decide +kernel
theorem dX7_hoursWithWater_10 : decode cX7_hoursWithWater 10 = .ok (.iload_n 0, 1) := by decide +kernel
theorem dX7_hoursWithWater_11 : decode cX7_hoursWithWater 11 = .ok (.iload_n 3, 1) := by decide +kernel
theorem dX7_hoursWithWater_12 : decode cX7_hoursWithWater 12 = .ok (.invokestatic 148, 3) := by decide +kernel
theorem dX7_hoursWithWater_15 : decode cX7_hoursWithWater 15 = .ok (.iload_n 1, 1) := by decide +kernel
theorem dX7_hoursWithWater_16 : decode cX7_hoursWithWater 16 = .ok (.if_icmp .lt 9, 3) := by decide +kernel
theorem dX7_hoursWithWater_19 : decode cX7_hoursWithWater 19 = .ok (.iload_n 2, 1) := by decide +kernel
theorem dX7_hoursWithWater_20 : decode cX7_hoursWithWater 20 = .ok (.iconst 1, 1) := by decide +kernel
theorem dX7_hoursWithWater_21 : decode cX7_hoursWithWater 21 = .ok (.iload_n 3, 1) := by decide +kernel
theorem dX7_hoursWithWater_22 : decode cX7_hoursWithWater 22 = .ok (.ishl, 1) := by decide +kernel
theorem dX7_hoursWithWater_23 : decode cX7_hoursWithWater 23 = .ok (.ior, 1) := by decide +kernel
theorem dX7_hoursWithWater_24 : decode cX7_hoursWithWater 24 = .ok (.istore_n 2, 1) := by decide +kernel
theorem dX7_hoursWithWater_25 : decode cX7_hoursWithWater 25 = .ok (.iinc 3 1, 3) := by decide +kernel
theorem dX7_hoursWithWater_28 : decode cX7_hoursWithWater 28 = .ok (.goto (-24), 3) := by decide +kernel
theorem dX7_hoursWithWater_31 : decode cX7_hoursWithWater 31 = .ok (.iload_n 2, 1) := by decide +kernel
theorem dX7_hoursWithWater_32 : decode cX7_hoursWithWater 32 = .ok (.ireturn, 1) := by decide +kernel
theorem dX7_timetableOf_0 : decode cX7_timetableOf 0 = .ok (.aload_n 0, 1) := by decide +kernel
theorem dX7_timetableOf_1 : decode cX7_timetableOf 1 = .ok (.getfield 44, 3) := by decide +kernel
theorem dX7_timetableOf_4 : decode cX7_timetableOf 4 = .ok (.aload_n 0, 1) := by decide +kernel
theorem dX7_timetableOf_5 : decode cX7_timetableOf 5 = .ok (.getfield 12, 3) := by decide +kernel
theorem dX7_timetableOf_8 : decode cX7_timetableOf 8 = .ok (.invokevirtual 155, 3) := by decide +kernel
theorem dX7_timetableOf_11 : decode cX7_timetableOf 11 = .ok (.aload_n 0, 1) := by decide +kernel
theorem dX7_timetableOf_12 : decode cX7_timetableOf 12 = .ok (.getfield 44, 3) := by decide +kernel
theorem dX7_timetableOf_15 : decode cX7_timetableOf 15 = .ok (.getfield 193, 3) := by decide +kernel
theorem dX7_timetableOf_18 : decode cX7_timetableOf 18 = .ok (.iload_n 1, 1) := by decide +kernel
theorem dX7_timetableOf_19 : decode cX7_timetableOf 19 = .ok (.aaload, 1) := by decide +kernel
theorem dX7_timetableOf_20 : decode cX7_timetableOf 20 = .ok (.areturn, 1) := by decide +kernel
theorem dX7_record_0 : decode cX7_record 0 = .ok (.aload_n 0, 1) := by decide +kernel
theorem dX7_record_1 : decode cX7_record 1 = .ok (.getfield 27, 3) := by decide +kernel
theorem dX7_record_4 : decode cX7_record 4 = .ok (.aload_n 0, 1) := by decide +kernel
theorem dX7_record_5 : decode cX7_record 5 = .ok (.getfield 23, 3) := by decide +kernel
theorem dX7_record_8 : decode cX7_record 8 = .ok (.arraylength, 1) := by decide +kernel
theorem dX7_record_9 : decode cX7_record 9 = .ok (.if_icmp .lt 65, 3) := by decide +kernel
theorem dX7_record_12 : decode cX7_record 12 = .ok (.aload_n 0, 1) := by decide +kernel
theorem dX7_record_13 : decode cX7_record 13 = .ok (.getfield 23, 3) := by decide +kernel
theorem dX7_record_16 : decode cX7_record 16 = .ok (.iconst 0, 1) := by decide +kernel
theorem dX7_record_17 : decode cX7_record 17 = .ok (.aaload, 1) := by decide +kernel
theorem dX7_record_18 : decode cX7_record 18 = .ok (.astore_n 1, 1) := by decide +kernel
theorem dX7_record_19 : decode cX7_record 19 = .ok (.iconst 1, 1) := by decide +kernel
theorem dX7_record_20 : decode cX7_record 20 = .ok (.istore_n 2, 1) := by decide +kernel
theorem dX7_record_21 : decode cX7_record 21 = .ok (.iload_n 2, 1) := by decide +kernel
theorem dX7_record_22 : decode cX7_record 22 = .ok (.aload_n 0, 1) := by decide +kernel
theorem dX7_record_23 : decode cX7_record 23 = .ok (.getfield 23, 3) := by decide +kernel
theorem dX7_record_26 : decode cX7_record 26 = .ok (.arraylength, 1) := by decide +kernel
theorem dX7_record_27 : decode cX7_record 27 = .ok (.if_icmp .ge 23, 3) := by decide +kernel
theorem dX7_record_30 : decode cX7_record 30 = .ok (.aload_n 0, 1) := by decide +kernel
theorem dX7_record_31 : decode cX7_record 31 = .ok (.getfield 23, 3) := by decide +kernel
theorem dX7_record_34 : decode cX7_record 34 = .ok (.iload_n 2, 1) := by decide +kernel
theorem dX7_record_35 : decode cX7_record 35 = .ok (.iconst 1, 1) := by decide +kernel
theorem dX7_record_36 : decode cX7_record 36 = .ok (.isub, 1) := by decide +kernel
theorem dX7_record_37 : decode cX7_record 37 = .ok (.aload_n 0, 1) := by decide +kernel
theorem dX7_record_38 : decode cX7_record 38 = .ok (.getfield 23, 3) := by decide +kernel
theorem dX7_record_41 : decode cX7_record 41 = .ok (.iload_n 2, 1) := by decide +kernel
theorem dX7_record_42 : decode cX7_record 42 = .ok (.aaload, 1) := by decide +kernel
theorem dX7_record_43 : decode cX7_record 43 = .ok (.aastore, 1) := by decide +kernel
theorem dX7_record_44 : decode cX7_record 44 = .ok (.iinc 2 1, 3) := by decide +kernel
theorem dX7_record_47 : decode cX7_record 47 = .ok (.goto (-26), 3) := by decide +kernel
theorem dX7_record_50 : decode cX7_record 50 = .ok (.aload_n 0, 1) := by decide +kernel
theorem dX7_record_51 : decode cX7_record 51 = .ok (.getfield 23, 3) := by decide +kernel
theorem dX7_record_54 : decode cX7_record 54 = .ok (.aload_n 0, 1) := by decide +kernel
theorem dX7_record_55 : decode cX7_record 55 = .ok (.getfield 23, 3) := by decide +kernel
theorem dX7_record_58 : decode cX7_record 58 = .ok (.arraylength, 1) := by decide +kernel
theorem dX7_record_59 : decode cX7_record 59 = .ok (.iconst 1, 1) := by decide +kernel
theorem dX7_record_60 : decode cX7_record 60 = .ok (.isub, 1) := by decide +kernel
theorem dX7_record_61 : decode cX7_record 61 = .ok (.aload_n 1, 1) := by decide +kernel
theorem dX7_record_62 : decode cX7_record 62 = .ok (.aastore, 1) := by decide +kernel
theorem dX7_record_63 : decode cX7_record 63 = .ok (.aload_n 0, 1) := by decide +kernel
theorem dX7_record_64 : decode cX7_record 64 = .ok (.aload_n 0, 1) := by decide +kernel
theorem dX7_record_65 : decode cX7_record 65 = .ok (.getfield 23, 3) := by decide +kernel
theorem dX7_record_68 : decode cX7_record 68 = .ok (.arraylength, 1) := by decide +kernel
theorem dX7_record_69 : decode cX7_record 69 = .ok (.iconst 1, 1) := by decide +kernel
theorem dX7_record_70 : decode cX7_record 70 = .ok (.isub, 1) := by decide +kernel
theorem dX7_record_71 : decode cX7_record 71 = .ok (.putfield 27, 3) := by decide +kernel
theorem dX7_record_74 : decode cX7_record 74 = .ok (.aload_n 0, 1) := by decide +kernel
theorem dX7_record_75 : decode cX7_record 75 = .ok (.getfield 23, 3) := by decide +kernel
theorem dX7_record_78 : decode cX7_record 78 = .ok (.aload_n 0, 1) := by decide +kernel
theorem dX7_record_79 : decode cX7_record 79 = .ok (.getfield 27, 3) := by decide +kernel
theorem dX7_record_82 : decode cX7_record 82 = .ok (.aaload, 1) := by decide +kernel
theorem dX7_record_83 : decode cX7_record 83 = .ok (.aload_n 0, 1) := by decide +kernel
theorem dX7_record_84 : decode cX7_record 84 = .ok (.getfield 12, 3) := by decide +kernel
theorem dX7_record_87 : decode cX7_record 87 = .ok (.invokevirtual 80, 3) := by decide +kernel
theorem dX7_record_90 : decode cX7_record 90 = .ok (.aload_n 0, 1) := by decide +kernel
theorem dX7_record_91 : decode cX7_record 91 = .ok (.dup, 1) := by decide +kernel
theorem dX7_record_92 : decode cX7_record 92 = .ok (.getfield 27, 3) := by decide +kernel
theorem dX7_record_95 : decode cX7_record 95 = .ok (.iconst 1, 1) := by decide +kernel
theorem dX7_record_96 : decode cX7_record 96 = .ok (.iadd, 1) := by decide +kernel
theorem dX7_record_97 : decode cX7_record 97 = .ok (.putfield 27, 3) := by decide +kernel
theorem dX7_record_100 : decode cX7_record 100 = .ok (.return_, 1) := by decide +kernel
theorem dX8_init_0 : decode cX8_init 0 = .ok (.aload_n 0, 1) := by decide +kernel
theorem dX8_init_1 : decode cX8_init 1 = .ok (.invokespecial 1, 3) := by decide +kernel
theorem dX8_init_4 : decode cX8_init 4 = .ok (.aload_n 0, 1) := by decide +kernel
theorem dX8_init_5 : decode cX8_init 5 = .ok (.bipush 36, 2) := by decide +kernel
theorem dX8_init_7 : decode cX8_init 7 = .ok (.newarray .int, 2) := by decide +kernel
theorem dX8_init_9 : decode cX8_init 9 = .ok (.putfield 7, 3) := by decide +kernel
theorem dX8_init_12 : decode cX8_init 12 = .ok (.aload_n 0, 1) := by decide +kernel
theorem dX8_init_13 : decode cX8_init 13 = .ok (.bipush 36, 2) := by decide +kernel
theorem dX8_init_15 : decode cX8_init 15 = .ok (.newarray .int, 2) := by decide +kernel
theorem dX8_init_17 : decode cX8_init 17 = .ok (.putfield 13, 3) := by decide +kernel
theorem dX8_init_20 : decode cX8_init 20 = .ok (.aload_n 0, 1) := by decide +kernel
theorem dX8_init_21 : decode cX8_init 21 = .ok (.bipush 36, 2) := by decide +kernel
theorem dX8_init_23 : decode cX8_init 23 = .ok (.newarray .int, 2) := by decide +kernel
theorem dX8_init_25 : decode cX8_init 25 = .ok (.putfield 16, 3) := by decide +kernel
theorem dX8_init_28 : decode cX8_init 28 = .ok (.aload_n 0, 1) := by decide +kernel
theorem dX8_init_29 : decode cX8_init 29 = .ok (.sipush 144, 3) := by decide +kernel
theorem dX8_init_32 : decode cX8_init 32 = .ok (.newarray .int, 2) := by decide +kernel
theorem dX8_init_34 : decode cX8_init 34 = .ok (.putfield 19, 3) := by decide +kernel
theorem dX8_init_37 : decode cX8_init 37 = .ok (.aload_n 0, 1) := by decide +kernel
theorem dX8_init_38 : decode cX8_init 38 = .ok (.bipush 60, 2) := by decide +kernel
theorem dX8_init_40 : decode cX8_init 40 = .ok (.newarray .int, 2) := by decide +kernel
theorem dX8_init_42 : decode cX8_init 42 = .ok (.putfield 22, 3) := by decide +kernel
theorem dX8_init_45 : decode cX8_init 45 = .ok (.aload_n 0, 1) := by decide +kernel
theorem dX8_init_46 : decode cX8_init 46 = .ok (.bipush 24, 2) := by decide +kernel
theorem dX8_init_48 : decode cX8_init 48 = .ok (.newarray .int, 2) := by decide +kernel
theorem dX8_init_50 : decode cX8_init 50 = .ok (.putfield 25, 3) := by decide +kernel
theorem dX8_init_53 : decode cX8_init 53 = .ok (.aload_n 0, 1) := by decide +kernel
theorem dX8_init_54 : decode cX8_init 54 = .ok (.iconst 3, 1) := by decide +kernel
theorem dX8_init_55 : decode cX8_init 55 = .ok (.newarray .int, 2) := by decide +kernel
theorem dX8_init_57 : decode cX8_init 57 = .ok (.putfield 28, 3) := by decide +kernel
theorem dX8_init_60 : decode cX8_init 60 = .ok (.aload_n 0, 1) := by decide +kernel
theorem dX8_init_61 : decode cX8_init 61 = .ok (.iconst 3, 1) := by decide +kernel
theorem dX8_init_62 : decode cX8_init 62 = .ok (.newarray .int, 2) := by decide +kernel
theorem dX8_init_64 : decode cX8_init 64 = .ok (.putfield 31, 3) := by decide +kernel
theorem dX8_init_67 : decode cX8_init 67 = .ok (.aload_n 0, 1) := by decide +kernel
theorem dX8_init_68 : decode cX8_init 68 = .ok (.iconst 3, 1) := by decide +kernel
theorem dX8_init_69 : decode cX8_init 69 = .ok (.newarray .int, 2) := by decide +kernel
theorem dX8_init_71 : decode cX8_init 71 = .ok (.putfield 34, 3) := by decide +kernel
theorem dX8_init_74 : decode cX8_init 74 = .ok (.aload_n 0, 1) := by decide +kernel
theorem dX8_init_75 : decode cX8_init 75 = .ok (.iconst 3, 1) := by decide +kernel
theorem dX8_init_76 : decode cX8_init 76 = .ok (.newarray .int, 2) := by decide +kernel
theorem dX8_init_78 : decode cX8_init 78 = .ok (.putfield 37, 3) := by decide +kernel
theorem dX8_init_81 : decode cX8_init 81 = .ok (.aload_n 0, 1) := by decide +kernel
theorem dX8_init_82 : decode cX8_init 82 = .ok (.iconst 3, 1) := by decide +kernel
theorem dX8_init_83 : decode cX8_init 83 = .ok (.newarray .int, 2) := by decide +kernel
theorem dX8_init_85 : decode cX8_init 85 = .ok (.putfield 40, 3) := by decide +kernel
theorem dX8_init_88 : decode cX8_init 88 = .ok (.aload_n 0, 1) := by decide +kernel
theorem dX8_init_89 : decode cX8_init 89 = .ok (.getfield 7, 3) := by decide +kernel
theorem dX8_init_92 : decode cX8_init 92 = .ok (.iconst 2, 1) := by decide +kernel
theorem dX8_init_93 : decode cX8_init 93 = .ok (.iconst 1, 1) := by decide +kernel
theorem dX8_init_94 : decode cX8_init 94 = .ok (.iastore, 1) := by decide +kernel
theorem dX8_init_95 : decode cX8_init 95 = .ok (.aload_n 0, 1) := by decide +kernel
theorem dX8_init_96 : decode cX8_init 96 = .ok (.getfield 7, 3) := by decide +kernel
theorem dX8_init_99 : decode cX8_init 99 = .ok (.iconst 3, 1) := by decide +kernel
theorem dX8_init_100 : decode cX8_init 100 = .ok (.iconst 1, 1) := by decide +kernel
theorem dX8_init_101 : decode cX8_init 101 = .ok (.iastore, 1) := by decide +kernel
theorem dX8_init_102 : decode cX8_init 102 = .ok (.aload_n 0, 1) := by decide +kernel
end
section
theorem dX8_init_103 : decode cX8_init 103 = .ok (.getfield 7, 3) := by decide +kernel
theorem dX8_init_106 : decode cX8_init 106 = .ok (.iconst 4, 1) := by decide +kernel
theorem dX8_init_107 : decode cX8_init 107 = .ok (.iconst 3, 1) := by decide +kernel
theorem dX8_init_108 : decode cX8_init 108 = .ok (.iastore, 1) := by decide +kernel
theorem dX8_init_109 : decode cX8_init 109 = .ok (.iconst 0, 1) := by decide +kernel
theorem dX8_init_110 : decode cX8_init 110 = .ok (.istore_n 1, 1) := by decide +kernel
theorem dX8_init_111 : decode cX8_init 111 = .ok (.iload_n 1, 1) := by decide +kernel
theorem dX8_init_112 : decode cX8_init 112 = .ok (.iconst 3, 1) := by decide +kernel
theorem dX8_init_113 : decode cX8_init 113 = .ok (.if_icmp .ge 42, 3) := by decide +kernel
theorem dX8_init_116 : decode cX8_init 116 = .ok (.aload_n 0, 1) := by decide +kernel
theorem dX8_init_117 : decode cX8_init 117 = .ok (.iload_n 1, 1) := by decide +kernel
theorem dX8_init_118 : decode cX8_init 118 = .ok (.iconst 0, 1) := by decide +kernel
theorem dX8_init_119 : decode cX8_init 119 = .ok (.iconst 4, 1) := by decide +kernel
theorem dX8_init_120 : decode cX8_init 120 = .ok (.iload_n 1, 1) := by decide +kernel
theorem dX8_init_121 : decode cX8_init 121 = .ok (.imul, 1) := by decide +kernel
theorem dX8_init_122 : decode cX8_init 122 = .ok (.invokevirtual 43, 3) := by decide +kernel
theorem dX8_init_125 : decode cX8_init 125 = .ok (.aload_n 0, 1) := by decide +kernel
theorem dX8_init_126 : decode cX8_init 126 = .ok (.iload_n 1, 1) := by decide +kernel
theorem dX8_init_127 : decode cX8_init 127 = .ok (.iconst 1, 1) := by decide +kernel
theorem dX8_init_128 : decode cX8_init 128 = .ok (.iconst 2, 1) := by decide +kernel
theorem dX8_init_129 : decode cX8_init 129 = .ok (.invokevirtual 43, 3) := by decide +kernel
theorem dX8_init_132 : decode cX8_init 132 = .ok (.aload_n 0, 1) := by decide +kernel
theorem dX8_init_133 : decode cX8_init 133 = .ok (.iload_n 1, 1) := by decide +kernel
theorem dX8_init_134 : decode cX8_init 134 = .ok (.iconst 2, 1) := by decide +kernel
theorem dX8_init_135 : decode cX8_init 135 = .ok (.bipush 6, 2) := by decide +kernel
theorem dX8_init_137 : decode cX8_init 137 = .ok (.invokevirtual 43, 3) := by decide +kernel
theorem dX8_init_140 : decode cX8_init 140 = .ok (.aload_n 0, 1) := by decide +kernel
theorem dX8_init_141 : decode cX8_init 141 = .ok (.iload_n 1, 1) := by decide +kernel
theorem dX8_init_142 : decode cX8_init 142 = .ok (.iconst 3, 1) := by decide +kernel
theorem dX8_init_143 : decode cX8_init 143 = .ok (.iload_n 1, 1) := by decide +kernel
theorem dX8_init_144 : decode cX8_init 144 = .ok (.iconst 2, 1) := by decide +kernel
theorem dX8_init_145 : decode cX8_init 145 = .ok (.irem, 1) := by decide +kernel
theorem dX8_init_146 : decode cX8_init 146 = .ok (.invokevirtual 43, 3) := by decide +kernel
theorem dX8_init_149 : decode cX8_init 149 = .ok (.iinc 1 1, 3) := by decide +kernel
theorem dX8_init_152 : decode cX8_init 152 = .ok (.goto (-41), 3) := by decide +kernel
theorem dX8_init_155 : decode cX8_init 155 = .ok (.return_, 1) := by decide +kernel
theorem dX8_in_0 : decode cX8_in 0 = .ok (.iload_n 0, 1) := by decide +kernel
theorem dX8_in_1 : decode cX8_in 1 = .ok (.iload_n 1, 1) := by decide +kernel
theorem dX8_in_2 : decode cX8_in 2 = .ok (.if_icmp .lt 12, 3) := by decide +kernel
theorem dX8_in_5 : decode cX8_in 5 = .ok (.iload_n 0, 1) := by decide +kernel
theorem dX8_in_6 : decode cX8_in 6 = .ok (.iload_n 2, 1) := by decide +kernel
theorem dX8_in_7 : decode cX8_in 7 = .ok (.if_icmp .gt 7, 3) := by decide +kernel
theorem dX8_in_10 : decode cX8_in 10 = .ok (.iconst 1, 1) := by decide +kernel
theorem dX8_in_11 : decode cX8_in 11 = .ok (.goto 4, 3) := by decide +kernel
theorem dX8_in_14 : decode cX8_in 14 = .ok (.iconst 0, 1) := by decide +kernel
theorem dX8_in_15 : decode cX8_in 15 = .ok (.ireturn, 1) := by decide +kernel
theorem dX8_record_0 : decode cX8_record 0 = .ok (.aload_n 0, 1) := by decide +kernel
theorem dX8_record_1 : decode cX8_record 1 = .ok (.getfield 47, 3) := by decide +kernel
theorem dX8_record_4 : decode cX8_record 4 = .ok (.iconst 4, 1) := by decide +kernel
theorem dX8_record_5 : decode cX8_record 5 = .ok (.if_icmp .ne 42, 3) := by decide +kernel
theorem dX8_record_8 : decode cX8_record 8 = .ok (.iconst 0, 1) := by decide +kernel
theorem dX8_record_9 : decode cX8_record 9 = .ok (.istore_n 1, 1) := by decide +kernel
theorem dX8_record_10 : decode cX8_record 10 = .ok (.iload_n 1, 1) := by decide +kernel
theorem dX8_record_11 : decode cX8_record 11 = .ok (.bipush 108, 2) := by decide +kernel
theorem dX8_record_13 : decode cX8_record 13 = .ok (.if_icmp .ge 24, 3) := by decide +kernel
theorem dX8_record_16 : decode cX8_record 16 = .ok (.aload_n 0, 1) := by decide +kernel
theorem dX8_record_17 : decode cX8_record 17 = .ok (.getfield 19, 3) := by decide +kernel
theorem dX8_record_20 : decode cX8_record 20 = .ok (.iload_n 1, 1) := by decide +kernel
theorem dX8_record_21 : decode cX8_record 21 = .ok (.aload_n 0, 1) := by decide +kernel
theorem dX8_record_22 : decode cX8_record 22 = .ok (.getfield 19, 3) := by decide +kernel
theorem dX8_record_25 : decode cX8_record 25 = .ok (.iload_n 1, 1) := by decide +kernel
theorem dX8_record_26 : decode cX8_record 26 = .ok (.bipush 36, 2) := by decide +kernel
theorem dX8_record_28 : decode cX8_record 28 = .ok (.iadd, 1) := by decide +kernel
theorem dX8_record_29 : decode cX8_record 29 = .ok (.iaload, 1) := by decide +kernel
theorem dX8_record_30 : decode cX8_record 30 = .ok (.iastore, 1) := by decide +kernel
theorem dX8_record_31 : decode cX8_record 31 = .ok (.iinc 1 1, 3) := by decide +kernel
theorem dX8_record_34 : decode cX8_record 34 = .ok (.goto (-24), 3) := by decide +kernel
theorem dX8_record_37 : decode cX8_record 37 = .ok (.aload_n 0, 1) := by decide +kernel
theorem dX8_record_38 : decode cX8_record 38 = .ok (.dup, 1) := by decide +kernel
theorem dX8_record_39 : decode cX8_record 39 = .ok (.getfield 47, 3) := by decide +kernel
theorem dX8_record_42 : decode cX8_record 42 = .ok (.iconst 1, 1) := by decide +kernel
theorem dX8_record_43 : decode cX8_record 43 = .ok (.isub, 1) := by decide +kernel
theorem dX8_record_44 : decode cX8_record 44 = .ok (.putfield 47, 3) := by decide +kernel
theorem dX8_record_47 : decode cX8_record 47 = .ok (.iconst 0, 1) := by decide +kernel
theorem dX8_record_48 : decode cX8_record 48 = .ok (.istore_n 1, 1) := by decide +kernel
theorem dX8_record_49 : decode cX8_record 49 = .ok (.iload_n 1, 1) := by decide +kernel
theorem dX8_record_50 : decode cX8_record 50 = .ok (.bipush 36, 2) := by decide +kernel
theorem dX8_record_52 : decode cX8_record 52 = .ok (.if_icmp .ge 29, 3) := by decide +kernel
theorem dX8_record_55 : decode cX8_record 55 = .ok (.aload_n 0, 1) := by decide +kernel
theorem dX8_record_56 : decode cX8_record 56 = .ok (.getfield 19, 3) := by decide +kernel
theorem dX8_record_59 : decode cX8_record 59 = .ok (.bipush 36, 2) := by decide +kernel
theorem dX8_record_61 : decode cX8_record 61 = .ok (.aload_n 0, 1) := by decide +kernel
theorem dX8_record_62 : decode cX8_record 62 = .ok (.getfield 47, 3) := by decide +kernel
theorem dX8_record_65 : decode cX8_record 65 = .ok (.imul, 1) := by decide +kernel
theorem dX8_record_66 : decode cX8_record 66 = .ok (.iload_n 1, 1) := by decide +kernel
theorem dX8_record_67 : decode cX8_record 67 = .ok (.iadd, 1) := by decide +kernel
theorem dX8_record_68 : decode cX8_record 68 = .ok (.aload_n 0, 1) := by decide +kernel
theorem dX8_record_69 : decode cX8_record 69 = .ok (.getfield 7, 3) := by decide +kernel
theorem dX8_record_72 : decode cX8_record 72 = .ok (.iload_n 1, 1) := by decide +kernel
theorem dX8_record_73 : decode cX8_record 73 = .ok (.iaload, 1) := by decide +kernel
theorem dX8_record_74 : decode cX8_record 74 = .ok (.iastore, 1) := by decide +kernel
theorem dX8_record_75 : decode cX8_record 75 = .ok (.iinc 1 1, 3) := by decide +kernel
theorem dX8_record_78 : decode cX8_record 78 = .ok (.goto (-29), 3) := by decide +kernel
theorem dX8_record_81 : decode cX8_record 81 = .ok (.aload_n 0, 1) := by decide +kernel
theorem dX8_record_82 : decode cX8_record 82 = .ok (.dup, 1) := by decide +kernel
theorem dX8_record_83 : decode cX8_record 83 = .ok (.getfield 47, 3) := by decide +kernel
theorem dX8_record_86 : decode cX8_record 86 = .ok (.iconst 1, 1) := by decide +kernel
theorem dX8_record_87 : decode cX8_record 87 = .ok (.iadd, 1) := by decide +kernel
theorem dX8_record_88 : decode cX8_record 88 = .ok (.putfield 47, 3) := by decide +kernel
theorem dX8_record_91 : decode cX8_record 91 = .ok (.return_, 1) := by decide +kernel
theorem dX8_lay_0 : decode cX8_lay 0 = .ok (.iconst 0, 1) := by decide +kernel
theorem dX8_lay_1 : decode cX8_lay 1 = .ok (.istore_n 1, 1) := by decide +kernel
theorem dX8_lay_2 : decode cX8_lay 2 = .ok (.iload_n 1, 1) := by decide +kernel
theorem dX8_lay_3 : decode cX8_lay 3 = .ok (.bipush 36, 2) := by decide +kernel
theorem dX8_lay_5 : decode cX8_lay 5 = .ok (.if_icmp .ge 21, 3) := by decide +kernel
theorem dX8_lay_8 : decode cX8_lay 8 = .ok (.aload_n 0, 1) := by decide +kernel
theorem dX8_lay_9 : decode cX8_lay 9 = .ok (.getfield 16, 3) := by decide +kernel
theorem dX8_lay_12 : decode cX8_lay 12 = .ok (.iload_n 1, 1) := by decide +kernel
theorem dX8_lay_13 : decode cX8_lay 13 = .ok (.aload_n 0, 1) := by decide +kernel
theorem dX8_lay_14 : decode cX8_lay 14 = .ok (.getfield 7, 3) := by decide +kernel
theorem dX8_lay_17 : decode cX8_lay 17 = .ok (.iload_n 1, 1) := by decide +kernel
theorem dX8_lay_18 : decode cX8_lay 18 = .ok (.iaload, 1) := by decide +kernel
theorem dX8_lay_19 : decode cX8_lay 19 = .ok (.iastore, 1) := by decide +kernel
theorem dX8_lay_20 : decode cX8_lay 20 = .ok (.iinc 1 1, 3) := by decide +kernel
theorem dX8_lay_23 : decode cX8_lay 23 = .ok (.goto (-21), 3) := by decide +kernel
theorem dX8_lay_26 : decode cX8_lay 26 = .ok (.return_, 1) := by decide +kernel
theorem dX8_takeBack_0 : decode cX8_takeBack 0 = .ok (.iconst 0, 1) := by decide +kernel
theorem dX8_takeBack_1 : decode cX8_takeBack 1 = .ok (.istore_n 1, 1) := by decide +kernel
theorem dX8_takeBack_2 : decode cX8_takeBack 2 = .ok (.iload_n 1, 1) := by decide +kernel
theorem dX8_takeBack_3 : decode cX8_takeBack 3 = .ok (.bipush 36, 2) := by decide +kernel
theorem dX8_takeBack_5 : decode cX8_takeBack 5 = .ok (.if_icmp .ge 21, 3) := by decide +kernel
theorem dX8_takeBack_8 : decode cX8_takeBack 8 = .ok (.aload_n 0, 1) := by decide +kernel
theorem dX8_takeBack_9 : decode cX8_takeBack 9 = .ok (.getfield 7, 3) := by decide +kernel
theorem dX8_takeBack_12 : decode cX8_takeBack 12 = .ok (.iload_n 1, 1) := by decide +kernel
theorem dX8_takeBack_13 : decode cX8_takeBack 13 = .ok (.aload_n 0, 1) := by decide +kernel
theorem dX8_takeBack_14 : decode cX8_takeBack 14 = .ok (.getfield 16, 3) := by decide +kernel
theorem dX8_takeBack_17 : decode cX8_takeBack 17 = .ok (.iload_n 1, 1) := by decide +kernel
theorem dX8_takeBack_18 : decode cX8_takeBack 18 = .ok (.iaload, 1) := by decide +kernel
theorem dX8_takeBack_19 : decode cX8_takeBack 19 = .ok (.iastore, 1) := by decide +kernel
theorem dX8_takeBack_20 : decode cX8_takeBack 20 = .ok (.iinc 1 1, 3) := by decide +kernel
theorem dX8_takeBack_23 : decode cX8_takeBack 23 = .ok (.goto (-21), 3) := by decide +kernel
theorem dX8_takeBack_26 : decode cX8_takeBack 26 = .ok (.return_, 1) := by decide +kernel
theorem dX8_isCaptain_0 : decode cX8_isCaptain 0 = .ok (.iload_n 0, 1) := by decide +kernel
theorem dX8_isCaptain_1 : decode cX8_isCaptain 1 = .ok (.iconst 0, 1) := by decide +kernel
theorem dX8_isCaptain_2 : decode cX8_isCaptain 2 = .ok (.iconst 2, 1) := by decide +kernel
theorem dX8_isCaptain_3 : decode cX8_isCaptain 3 = .ok (.invokestatic 51, 3) := by decide +kernel
theorem dX8_isCaptain_6 : decode cX8_isCaptain 6 = .ok (.ireturn, 1) := by decide +kernel
theorem dX8_of_0 : decode cX8_of 0 = .ok (.aload_n 0, 1) := by decide +kernel
theorem dX8_of_1 : decode cX8_of 1 = .ok (.getfield 7, 3) := by decide +kernel
theorem dX8_of_4 : decode cX8_of 4 = .ok (.bipush 6, 2) := by decide +kernel
theorem dX8_of_6 : decode cX8_of 6 = .ok (.bipush 10, 2) := by decide +kernel
theorem dX8_of_8 : decode cX8_of 8 = .ok (.iload_n 1, 1) := by decide +kernel
theorem dX8_of_9 : decode cX8_of 9 = .ok (.imul, 1) := by decide +kernel
theorem dX8_of_10 : decode cX8_of 10 = .ok (.iadd, 1) := by decide +kernel
theorem dX8_of_11 : decode cX8_of 11 = .ok (.iload_n 2, 1) := by decide +kernel
theorem dX8_of_12 : decode cX8_of 12 = .ok (.iadd, 1) := by decide +kernel
theorem dX8_of_13 : decode cX8_of 13 = .ok (.iaload, 1) := by decide +kernel
theorem dX8_of_14 : decode cX8_of 14 = .ok (.ireturn, 1) := by decide +kernel
theorem dX8_put_0 : decode cX8_put 0 = .ok (.aload_n 0, 1) := by decide +kernel
theorem dX8_put_1 : decode cX8_put 1 = .ok (.getfield 7, 3) := by decide +kernel
theorem dX8_put_4 : decode cX8_put 4 = .ok (.bipush 6, 2) := by decide +kernel
theorem dX8_put_6 : decode cX8_put 6 = .ok (.bipush 10, 2) := by decide +kernel
theorem dX8_put_8 : decode cX8_put 8 = .ok (.iload_n 1, 1) := by decide +kernel
theorem dX8_put_9 : decode cX8_put 9 = .ok (.imul, 1) := by decide +kernel
theorem dX8_put_10 : decode cX8_put 10 = .ok (.iadd, 1) := by decide +kernel
theorem dX8_put_11 : decode cX8_put 11 = .ok (.iload_n 2, 1) := by decide +kernel
theorem dX8_put_12 : decode cX8_put 12 = .ok (.iadd, 1) := by decide +kernel
theorem dX8_put_13 : decode cX8_put 13 = .ok (.iload_n 3, 1) := by decide +kernel
theorem dX8_put_14 : decode cX8_put 14 = .ok (.iastore, 1) := by decide +kernel
theorem dX8_put_15 : decode cX8_put 15 = .ok (.return_, 1) := by decide +kernel
theorem dX8_more_0 : decode cX8_more 0 = .ok (.aload_n 0, 1) := by decide +kernel
theorem dX8_more_1 : decode cX8_more 1 = .ok (.iload_n 1, 1) := by decide +kernel
theorem dX8_more_2 : decode cX8_more 2 = .ok (.iload_n 2, 1) := by decide +kernel
theorem dX8_more_3 : decode cX8_more 3 = .ok (.aload_n 0, 1) := by decide +kernel
theorem dX8_more_4 : decode cX8_more 4 = .ok (.iload_n 1, 1) := by decide +kernel
theorem dX8_more_5 : decode cX8_more 5 = .ok (.iload_n 2, 1) := by decide +kernel
theorem dX8_more_6 : decode cX8_more 6 = .ok (.invokevirtual 55, 3) := by decide +kernel
theorem dX8_more_9 : decode cX8_more 9 = .ok (.iload_n 3, 1) := by decide +kernel
theorem dX8_more_10 : decode cX8_more 10 = .ok (.iadd, 1) := by decide +kernel
theorem dX8_more_11 : decode cX8_more 11 = .ok (.invokevirtual 43, 3) := by decide +kernel
theorem dX8_more_14 : decode cX8_more 14 = .ok (.return_, 1) := by decide +kernel
theorem dX8_sumOf_0 : decode cX8_sumOf 0 = .ok (.aload_n 0, 1) := by decide +kernel
theorem dX8_sumOf_1 : decode cX8_sumOf 1 = .ok (.iconst 0, 1) := by decide +kernel
theorem dX8_sumOf_2 : decode cX8_sumOf 2 = .ok (.iload_n 1, 1) := by decide +kernel
theorem dX8_sumOf_3 : decode cX8_sumOf 3 = .ok (.invokevirtual 55, 3) := by decide +kernel
theorem dX8_sumOf_6 : decode cX8_sumOf 6 = .ok (.aload_n 0, 1) := by decide +kernel
theorem dX8_sumOf_7 : decode cX8_sumOf 7 = .ok (.iconst 1, 1) := by decide +kernel
theorem dX8_sumOf_8 : decode cX8_sumOf 8 = .ok (.iload_n 1, 1) := by decide +kernel
theorem dX8_sumOf_9 : decode cX8_sumOf 9 = .ok (.invokevirtual 55, 3) := by decide +kernel
theorem dX8_sumOf_12 : decode cX8_sumOf 12 = .ok (.iadd, 1) := by decide +kernel
theorem dX8_sumOf_13 : decode cX8_sumOf 13 = .ok (.aload_n 0, 1) := by decide +kernel
theorem dX8_sumOf_14 : decode cX8_sumOf 14 = .ok (.iconst 2, 1) := by decide +kernel
theorem dX8_sumOf_15 : decode cX8_sumOf 15 = .ok (.iload_n 1, 1) := by decide +kernel
theorem dX8_sumOf_16 : decode cX8_sumOf 16 = .ok (.invokevirtual 55, 3) := by decide +kernel
theorem dX8_sumOf_19 : decode cX8_sumOf 19 = .ok (.iadd, 1) := by decide +kernel
theorem dX8_sumOf_20 : decode cX8_sumOf 20 = .ok (.ireturn, 1) := by decide +kernel
theorem dX8_levelOf_0 : decode cX8_levelOf 0 = .ok (.iload_n 1, 1) := by decide +kernel
theorem dX8_levelOf_1 : decode cX8_levelOf 1 = .ok (.iload_n 0, 1) := by decide +kernel
theorem dX8_levelOf_2 : decode cX8_levelOf 2 = .ok (.iadd, 1) := by decide +kernel
theorem dX8_levelOf_3 : decode cX8_levelOf 3 = .ok (.bipush 12, 2) := by decide +kernel
theorem dX8_levelOf_5 : decode cX8_levelOf 5 = .ok (.irem, 1) := by decide +kernel
theorem dX8_levelOf_6 : decode cX8_levelOf 6 = .ok (.bipush 6, 2) := by decide +kernel
theorem dX8_levelOf_8 : decode cX8_levelOf 8 = .ok (.isub, 1) := by decide +kernel
theorem dX8_levelOf_9 : decode cX8_levelOf 9 = .ok (.istore_n 2, 1) := by decide +kernel
theorem dX8_levelOf_10 : decode cX8_levelOf 10 = .ok (.iload_n 2, 1) := by decide +kernel
theorem dX8_levelOf_11 : decode cX8_levelOf 11 = .ok (.ifCond .ge 8, 3) := by decide +kernel
theorem dX8_levelOf_14 : decode cX8_levelOf 14 = .ok (.iload_n 2, 1) := by decide +kernel
theorem dX8_levelOf_15 : decode cX8_levelOf 15 = .ok (.ineg, 1) := by decide +kernel
theorem dX8_levelOf_16 : decode cX8_levelOf 16 = .ok (.goto 4, 3) := by decide +kernel
theorem dX8_levelOf_19 : decode cX8_levelOf 19 = .ok (.iload_n 2, 1) := by decide +kernel
theorem dX8_levelOf_20 : decode cX8_levelOf 20 = .ok (.ireturn, 1) := by decide +kernel
theorem dX8_isEnough_0 : decode cX8_isEnough 0 = .ok (.iload_n 2, 1) := by decide +kernel
theorem dX8_isEnough_1 : decode cX8_isEnough 1 = .ok (.iload_n 3, 1) := by decide +kernel
theorem dX8_isEnough_2 : decode cX8_isEnough 2 = .ok (.invokestatic 59, 3) := by decide +kernel
theorem dX8_isEnough_5 : decode cX8_isEnough 5 = .ok (.aload_n 0, 1) := by decide +kernel
theorem dX8_isEnough_6 : decode cX8_isEnough 6 = .ok (.iload_n 1, 1) := by decide +kernel
theorem dX8_isEnough_7 : decode cX8_isEnough 7 = .ok (.iconst 1, 1) := by decide +kernel
theorem dX8_isEnough_8 : decode cX8_isEnough 8 = .ok (.invokevirtual 55, 3) := by decide +kernel
theorem dX8_isEnough_11 : decode cX8_isEnough 11 = .ok (.if_icmp .lt 7, 3) := by decide +kernel
theorem dX8_isEnough_14 : decode cX8_isEnough 14 = .ok (.iconst 1, 1) := by decide +kernel
theorem dX8_isEnough_15 : decode cX8_isEnough 15 = .ok (.goto 4, 3) := by decide +kernel
theorem dX8_isEnough_18 : decode cX8_isEnough 18 = .ok (.iconst 0, 1) := by decide +kernel
theorem dX8_isEnough_19 : decode cX8_isEnough 19 = .ok (.ireturn, 1) := by decide +kernel
theorem dX8_print_0 : decode cX8_print 0 = .ok (.aload_n 0, 1) := by decide +kernel
theorem dX8_print_1 : decode cX8_print 1 = .ok (.getfield 28, 3) := by decide +kernel
theorem dX8_print_4 : decode cX8_print 4 = .ok (.iload_n 1, 1) := by decide +kernel
theorem dX8_print_5 : decode cX8_print 5 = .ok (.iconst 0, 1) := by decide +kernel
theorem dX8_print_6 : decode cX8_print 6 = .ok (.iastore, 1) := by decide +kernel
theorem dX8_print_7 : decode cX8_print 7 = .ok (.aload_n 0, 1) := by decide +kernel
theorem dX8_print_8 : decode cX8_print 8 = .ok (.iload_n 1, 1) := by decide +kernel
theorem dX8_print_9 : decode cX8_print 9 = .ok (.iconst 2, 1) := by decide +kernel
theorem dX8_print_10 : decode cX8_print 10 = .ok (.invokevirtual 55, 3) := by decide +kernel
theorem dX8_print_13 : decode cX8_print 13 = .ok (.istore_n 2, 1) := by decide +kernel
theorem dX8_print_14 : decode cX8_print 14 = .ok (.iload_n 2, 1) := by decide +kernel
theorem dX8_print_15 : decode cX8_print 15 = .ok (.iconst 2, 1) := by decide +kernel
theorem dX8_print_16 : decode cX8_print 16 = .ok (.iadd, 1) := by decide +kernel
theorem dX8_print_17 : decode cX8_print 17 = .ok (.bipush 23, 2) := by decide +kernel
theorem dX8_print_19 : decode cX8_print 19 = .ok (.if_icmp .gt 57, 3) := by decide +kernel
theorem dX8_print_22 : decode cX8_print 22 = .ok (.aload_n 0, 1) := by decide +kernel
theorem dX8_print_23 : decode cX8_print 23 = .ok (.iload_n 1, 1) := by decide +kernel
theorem dX8_print_24 : decode cX8_print 24 = .ok (.aload_n 0, 1) := by decide +kernel
theorem dX8_print_25 : decode cX8_print 25 = .ok (.iload_n 1, 1) := by decide +kernel
theorem dX8_print_26 : decode cX8_print 26 = .ok (.iconst 0, 1) := by decide +kernel
theorem dX8_print_27 : decode cX8_print 27 = .ok (.invokevirtual 55, 3) := by decide +kernel
theorem dX8_print_30 : decode cX8_print 30 = .ok (.iload_n 2, 1) := by decide +kernel
theorem dX8_print_31 : decode cX8_print 31 = .ok (.invokevirtual 62, 3) := by decide +kernel
theorem dX8_print_34 : decode cX8_print 34 = .ok (.ifCond .eq 36, 3) := by decide +kernel
theorem dX8_print_37 : decode cX8_print 37 = .ok (.aload_n 0, 1) := by decide +kernel
theorem dX8_print_38 : decode cX8_print 38 = .ok (.getfield 25, 3) := by decide +kernel
theorem dX8_print_41 : decode cX8_print 41 = .ok (.bipush 8, 2) := by decide +kernel
theorem dX8_print_43 : decode cX8_print 43 = .ok (.iload_n 1, 1) := by decide +kernel
theorem dX8_print_44 : decode cX8_print 44 = .ok (.imul, 1) := by decide +kernel
theorem dX8_print_45 : decode cX8_print 45 = .ok (.aload_n 0, 1) := by decide +kernel
theorem dX8_print_46 : decode cX8_print 46 = .ok (.getfield 28, 3) := by decide +kernel
theorem dX8_print_49 : decode cX8_print 49 = .ok (.iload_n 1, 1) := by decide +kernel
theorem dX8_print_50 : decode cX8_print 50 = .ok (.iaload, 1) := by decide +kernel
theorem dX8_print_51 : decode cX8_print 51 = .ok (.iadd, 1) := by decide +kernel
theorem dX8_print_52 : decode cX8_print 52 = .ok (.iload_n 2, 1) := by decide +kernel
theorem dX8_print_53 : decode cX8_print 53 = .ok (.iastore, 1) := by decide +kernel
theorem dX8_print_54 : decode cX8_print 54 = .ok (.aload_n 0, 1) := by decide +kernel
theorem dX8_print_55 : decode cX8_print 55 = .ok (.getfield 28, 3) := by decide +kernel
theorem dX8_print_58 : decode cX8_print 58 = .ok (.iload_n 1, 1) := by decide +kernel
theorem dX8_print_59 : decode cX8_print 59 = .ok (.dup2, 1) := by decide +kernel
theorem dX8_print_60 : decode cX8_print 60 = .ok (.iaload, 1) := by decide +kernel
theorem dX8_print_61 : decode cX8_print 61 = .ok (.iconst 1, 1) := by decide +kernel
theorem dX8_print_62 : decode cX8_print 62 = .ok (.iadd, 1) := by decide +kernel
theorem dX8_print_63 : decode cX8_print 63 = .ok (.iastore, 1) := by decide +kernel
theorem dX8_print_64 : decode cX8_print 64 = .ok (.iinc 2 3, 3) := by decide +kernel
theorem dX8_print_67 : decode cX8_print 67 = .ok (.goto (-53), 3) := by decide +kernel
theorem dX8_print_70 : decode cX8_print 70 = .ok (.iinc 2 1, 3) := by decide +kernel
theorem dX8_print_73 : decode cX8_print 73 = .ok (.goto (-59), 3) := by decide +kernel
theorem dX8_print_76 : decode cX8_print 76 = .ok (.return_, 1) := by decide +kernel
theorem dX8_printAll_0 : decode cX8_printAll 0 = .ok (.iconst 0, 1) := by decide +kernel
theorem dX8_printAll_1 : decode cX8_printAll 1 = .ok (.istore_n 1, 1) := by decide +kernel
theorem dX8_printAll_2 : decode cX8_printAll 2 = .ok (.iload_n 1, 1) := by decide +kernel
theorem dX8_printAll_3 : decode cX8_printAll 3 = .ok (.iconst 3, 1) := by decide +kernel
theorem dX8_printAll_4 : decode cX8_printAll 4 = .ok (.if_icmp .ge 14, 3) := by decide +kernel
theorem dX8_printAll_7 : decode cX8_printAll 7 = .ok (.aload_n 0, 1) := by decide +kernel
theorem dX8_printAll_8 : decode cX8_printAll 8 = .ok (.iload_n 1, 1) := by decide +kernel
theorem dX8_printAll_9 : decode cX8_printAll 9 = .ok (.invokevirtual 65, 3) := by decide +kernel
theorem dX8_printAll_12 : decode cX8_printAll 12 = .ok (.iinc 1 1, 3) := by decide +kernel
theorem dX8_printAll_15 : decode cX8_printAll 15 = .ok (.goto (-13), 3) := by decide +kernel
theorem dX8_printAll_18 : decode cX8_printAll 18 = .ok (.return_, 1) := by decide +kernel
theorem dX8_hourOf_0 : decode cX8_hourOf 0 = .ok (.aload_n 0, 1) := by decide +kernel
theorem dX8_hourOf_1 : decode cX8_hourOf 1 = .ok (.getfield 25, 3) := by decide +kernel
theorem dX8_hourOf_4 : decode cX8_hourOf 4 = .ok (.bipush 8, 2) := by decide +kernel
theorem dX8_hourOf_6 : decode cX8_hourOf 6 = .ok (.iload_n 1, 1) := by decide +kernel
theorem dX8_hourOf_7 : decode cX8_hourOf 7 = .ok (.imul, 1) := by decide +kernel
theorem dX8_hourOf_8 : decode cX8_hourOf 8 = .ok (.iload_n 2, 1) := by decide +kernel
theorem dX8_hourOf_9 : decode cX8_hourOf 9 = .ok (.iadd, 1) := by decide +kernel
theorem dX8_hourOf_10 : decode cX8_hourOf 10 = .ok (.iaload, 1) := by decide +kernel
theorem dX8_hourOf_11 : decode cX8_hourOf 11 = .ok (.ireturn, 1) := by decide +kernel
theorem dX8_pierOf_0 : decode cX8_pierOf 0 = .ok (.aload_n 0, 1) := by decide +kernel
theorem dX8_pierOf_1 : decode cX8_pierOf 1 = .ok (.iload_n 1, 1) := by decide +kernel
theorem dX8_pierOf_2 : decode cX8_pierOf 2 = .ok (.iconst 3, 1) := by decide +kernel
theorem dX8_pierOf_3 : decode cX8_pierOf 3 = .ok (.invokevirtual 55, 3) := by decide +kernel
theorem dX8_pierOf_6 : decode cX8_pierOf 6 = .ok (.iload_n 2, 1) := by decide +kernel
theorem dX8_pierOf_7 : decode cX8_pierOf 7 = .ok (.iadd, 1) := by decide +kernel
theorem dX8_pierOf_8 : decode cX8_pierOf 8 = .ok (.iconst 2, 1) := by decide +kernel
theorem dX8_pierOf_9 : decode cX8_pierOf 9 = .ok (.irem, 1) := by decide +kernel
theorem dX8_pierOf_10 : decode cX8_pierOf 10 = .ok (.ireturn, 1) := by decide +kernel
theorem dX8_usesPier_0 : decode cX8_usesPier 0 = .ok (.iconst 0, 1) := by decide +kernel
theorem dX8_usesPier_1 : decode cX8_usesPier 1 = .ok (.istore 4, 2) := by decide +kernel
theorem dX8_usesPier_3 : decode cX8_usesPier 3 = .ok (.iload 4, 2) := by decide +kernel
theorem dX8_usesPier_5 : decode cX8_usesPier 5 = .ok (.aload_n 0, 1) := by decide +kernel
theorem dX8_usesPier_6 : decode cX8_usesPier 6 = .ok (.getfield 28, 3) := by decide +kernel
theorem dX8_usesPier_9 : decode cX8_usesPier 9 = .ok (.iload_n 1, 1) := by decide +kernel
theorem dX8_usesPier_10 : decode cX8_usesPier 10 = .ok (.iaload, 1) := by decide +kernel
theorem dX8_usesPier_11 : decode cX8_usesPier 11 = .ok (.if_icmp .ge 81, 3) := by decide +kernel
theorem dX8_usesPier_14 : decode cX8_usesPier 14 = .ok (.aload_n 0, 1) := by decide +kernel
theorem dX8_usesPier_15 : decode cX8_usesPier 15 = .ok (.iload_n 1, 1) := by decide +kernel
theorem dX8_usesPier_16 : decode cX8_usesPier 16 = .ok (.iload 4, 2) := by decide +kernel
theorem dX8_usesPier_18 : decode cX8_usesPier 18 = .ok (.invokevirtual 69, 3) := by decide +kernel
theorem dX8_usesPier_21 : decode cX8_usesPier 21 = .ok (.iload_n 3, 1) := by decide +kernel
theorem dX8_usesPier_22 : decode cX8_usesPier 22 = .ok (.if_icmp .ne 18, 3) := by decide +kernel
theorem dX8_usesPier_25 : decode cX8_usesPier 25 = .ok (.aload_n 0, 1) := by decide +kernel
theorem dX8_usesPier_26 : decode cX8_usesPier 26 = .ok (.iload_n 1, 1) := by decide +kernel
theorem dX8_usesPier_27 : decode cX8_usesPier 27 = .ok (.iload 4, 2) := by decide +kernel
theorem dX8_usesPier_29 : decode cX8_usesPier 29 = .ok (.invokevirtual 72, 3) := by decide +kernel
theorem dX8_usesPier_32 : decode cX8_usesPier 32 = .ok (.iload_n 2, 1) := by decide +kernel
theorem dX8_usesPier_33 : decode cX8_usesPier 33 = .ok (.if_icmp .ne 7, 3) := by decide +kernel
theorem dX8_usesPier_36 : decode cX8_usesPier 36 = .ok (.iconst 1, 1) := by decide +kernel
theorem dX8_usesPier_37 : decode cX8_usesPier 37 = .ok (.goto 4, 3) := by decide +kernel
theorem dX8_usesPier_40 : decode cX8_usesPier 40 = .ok (.iconst 0, 1) := by decide +kernel
theorem dX8_usesPier_41 : decode cX8_usesPier 41 = .ok (.istore 5, 2) := by decide +kernel
theorem dX8_usesPier_43 : decode cX8_usesPier 43 = .ok (.aload_n 0, 1) := by decide +kernel
theorem dX8_usesPier_44 : decode cX8_usesPier 44 = .ok (.iload_n 1, 1) := by decide +kernel
theorem dX8_usesPier_45 : decode cX8_usesPier 45 = .ok (.iload 4, 2) := by decide +kernel
theorem dX8_usesPier_47 : decode cX8_usesPier 47 = .ok (.invokevirtual 69, 3) := by decide +kernel
theorem dX8_usesPier_50 : decode cX8_usesPier 50 = .ok (.iconst 2, 1) := by decide +kernel
theorem dX8_usesPier_51 : decode cX8_usesPier 51 = .ok (.iadd, 1) := by decide +kernel
theorem dX8_usesPier_52 : decode cX8_usesPier 52 = .ok (.iload_n 3, 1) := by decide +kernel
theorem dX8_usesPier_53 : decode cX8_usesPier 53 = .ok (.if_icmp .ne 18, 3) := by decide +kernel
theorem dX8_usesPier_56 : decode cX8_usesPier 56 = .ok (.aload_n 0, 1) := by decide +kernel
theorem dX8_usesPier_57 : decode cX8_usesPier 57 = .ok (.iload_n 1, 1) := by decide +kernel
theorem dX8_usesPier_58 : decode cX8_usesPier 58 = .ok (.iload 4, 2) := by decide +kernel
theorem dX8_usesPier_60 : decode cX8_usesPier 60 = .ok (.invokevirtual 72, 3) := by decide +kernel
theorem dX8_usesPier_63 : decode cX8_usesPier 63 = .ok (.iload_n 2, 1) := by decide +kernel
theorem dX8_usesPier_64 : decode cX8_usesPier 64 = .ok (.if_icmp .eq 7, 3) := by decide +kernel
theorem dX8_usesPier_67 : decode cX8_usesPier 67 = .ok (.iconst 1, 1) := by decide +kernel
theorem dX8_usesPier_68 : decode cX8_usesPier 68 = .ok (.goto 4, 3) := by decide +kernel
theorem dX8_usesPier_71 : decode cX8_usesPier 71 = .ok (.iconst 0, 1) := by decide +kernel
theorem dX8_usesPier_72 : decode cX8_usesPier 72 = .ok (.istore 6, 2) := by decide +kernel
theorem dX8_usesPier_74 : decode cX8_usesPier 74 = .ok (.iload 5, 2) := by decide +kernel
theorem dX8_usesPier_76 : decode cX8_usesPier 76 = .ok (.ifCond .ne 8, 3) := by decide +kernel
theorem dX8_usesPier_79 : decode cX8_usesPier 79 = .ok (.iload 6, 2) := by decide +kernel
theorem dX8_usesPier_81 : decode cX8_usesPier 81 = .ok (.ifCond .eq 5, 3) := by decide +kernel
theorem dX8_usesPier_84 : decode cX8_usesPier 84 = .ok (.iconst 1, 1) := by decide +kernel
theorem dX8_usesPier_85 : decode cX8_usesPier 85 = .ok (.ireturn, 1) := by decide +kernel
theorem dX8_usesPier_86 : decode cX8_usesPier 86 = .ok (.iinc 4 1, 3) := by decide +kernel
theorem dX8_usesPier_89 : decode cX8_usesPier 89 = .ok (.goto (-86), 3) := by decide +kernel
theorem dX8_usesPier_92 : decode cX8_usesPier 92 = .ok (.iconst 0, 1) := by decide +kernel
theorem dX8_usesPier_93 : decode cX8_usesPier 93 = .ok (.ireturn, 1) := by decide +kernel
theorem dX8_usesSet_0 : decode cX8_usesSet 0 = .ok (.iconst 0, 1) := by decide +kernel
theorem dX8_usesSet_1 : decode cX8_usesSet 1 = .ok (.istore_n 3, 1) := by decide +kernel
theorem dX8_usesSet_2 : decode cX8_usesSet 2 = .ok (.iconst 0, 1) := by decide +kernel
theorem dX8_usesSet_3 : decode cX8_usesSet 3 = .ok (.istore 4, 2) := by decide +kernel
theorem dX8_usesSet_5 : decode cX8_usesSet 5 = .ok (.iload 4, 2) := by decide +kernel
theorem dX8_usesSet_7 : decode cX8_usesSet 7 = .ok (.iconst 3, 1) := by decide +kernel
theorem dX8_usesSet_8 : decode cX8_usesSet 8 = .ok (.if_icmp .ge 31, 3) := by decide +kernel
theorem dX8_usesSet_11 : decode cX8_usesSet 11 = .ok (.iload_n 3, 1) := by decide +kernel
theorem dX8_usesSet_12 : decode cX8_usesSet 12 = .ok (.aload_n 0, 1) := by decide +kernel
theorem dX8_usesSet_13 : decode cX8_usesSet 13 = .ok (.iload 4, 2) := by decide +kernel
theorem dX8_usesSet_15 : decode cX8_usesSet 15 = .ok (.iload_n 1, 1) := by decide +kernel
theorem dX8_usesSet_16 : decode cX8_usesSet 16 = .ok (.iload_n 2, 1) := by decide +kernel
theorem dX8_usesSet_17 : decode cX8_usesSet 17 = .ok (.invokevirtual 75, 3) := by decide +kernel
theorem dX8_usesSet_20 : decode cX8_usesSet 20 = .ok (.ifCond .eq 10, 3) := by decide +kernel
theorem dX8_usesSet_23 : decode cX8_usesSet 23 = .ok (.iconst 1, 1) := by decide +kernel
theorem dX8_usesSet_24 : decode cX8_usesSet 24 = .ok (.iload 4, 2) := by decide +kernel
theorem dX8_usesSet_26 : decode cX8_usesSet 26 = .ok (.ishl, 1) := by decide +kernel
theorem dX8_usesSet_27 : decode cX8_usesSet 27 = .ok (.goto 4, 3) := by decide +kernel
theorem dX8_usesSet_30 : decode cX8_usesSet 30 = .ok (.iconst 0, 1) := by decide +kernel
theorem dX8_usesSet_31 : decode cX8_usesSet 31 = .ok (.ior, 1) := by decide +kernel
theorem dX8_usesSet_32 : decode cX8_usesSet 32 = .ok (.istore_n 3, 1) := by decide +kernel
theorem dX8_usesSet_33 : decode cX8_usesSet 33 = .ok (.iinc 4 1, 3) := by decide +kernel
theorem dX8_usesSet_36 : decode cX8_usesSet 36 = .ok (.goto (-31), 3) := by decide +kernel
theorem dX8_usesSet_39 : decode cX8_usesSet 39 = .ok (.iload_n 3, 1) := by decide +kernel
theorem dX8_usesSet_40 : decode cX8_usesSet 40 = .ok (.ireturn, 1) := by decide +kernel
theorem dX8_bits_0 : decode cX8_bits 0 = .ok (.iload_n 0, 1) := by decide +kernel
theorem dX8_bits_1 : decode cX8_bits 1 = .ok (.iconst 1, 1) := by decide +kernel
theorem dX8_bits_2 : decode cX8_bits 2 = .ok (.iand, 1) := by decide +kernel
theorem dX8_bits_3 : decode cX8_bits 3 = .ok (.iload_n 0, 1) := by decide +kernel
theorem dX8_bits_4 : decode cX8_bits 4 = .ok (.iconst 1, 1) := by decide +kernel
theorem dX8_bits_5 : decode cX8_bits 5 = .ok (.ishr, 1) := by decide +kernel
theorem dX8_bits_6 : decode cX8_bits 6 = .ok (.iconst 1, 1) := by decide +kernel
theorem dX8_bits_7 : decode cX8_bits 7 = .ok (.iand, 1) := by decide +kernel
theorem dX8_bits_8 : decode cX8_bits 8 = .ok (.iadd, 1) := by decide +kernel
theorem dX8_bits_9 : decode cX8_bits 9 = .ok (.iload_n 0, 1) := by decide +kernel
theorem dX8_bits_10 : decode cX8_bits 10 = .ok (.iconst 2, 1) := by decide +kernel
theorem dX8_bits_11 : decode cX8_bits 11 = .ok (.ishr, 1) := by decide +kernel
theorem dX8_bits_12 : decode cX8_bits 12 = .ok (.iconst 1, 1) := by decide +kernel
theorem dX8_bits_13 : decode cX8_bits 13 = .ok (.iand, 1) := by decide +kernel
theorem dX8_bits_14 : decode cX8_bits 14 = .ok (.iadd, 1) := by decide +kernel
theorem dX8_bits_15 : decode cX8_bits 15 = .ok (.ireturn, 1) := by decide +kernel
theorem dX8_clashes_0 : decode cX8_clashes 0 = .ok (.iconst 0, 1) := by decide +kernel
theorem dX8_clashes_1 : decode cX8_clashes 1 = .ok (.istore_n 1, 1) := by decide +kernel
theorem dX8_clashes_2 : decode cX8_clashes 2 = .ok (.iconst 0, 1) := by decide +kernel
theorem dX8_clashes_3 : decode cX8_clashes 3 = .ok (.istore_n 2, 1) := by decide +kernel
theorem dX8_clashes_4 : decode cX8_clashes 4 = .ok (.iload_n 2, 1) := by decide +kernel
theorem dX8_clashes_5 : decode cX8_clashes 5 = .ok (.bipush 48, 2) := by decide +kernel
theorem dX8_clashes_7 : decode cX8_clashes 7 = .ok (.if_icmp .ge 34, 3) := by decide +kernel
theorem dX8_clashes_10 : decode cX8_clashes 10 = .ok (.iload_n 1, 1) := by decide +kernel
theorem dX8_clashes_11 : decode cX8_clashes 11 = .ok (.aload_n 0, 1) := by decide +kernel
theorem dX8_clashes_12 : decode cX8_clashes 12 = .ok (.iload_n 2, 1) := by decide +kernel
theorem dX8_clashes_13 : decode cX8_clashes 13 = .ok (.iconst 2, 1) := by decide +kernel
theorem dX8_clashes_14 : decode cX8_clashes 14 = .ok (.irem, 1) := by decide +kernel
theorem dX8_clashes_15 : decode cX8_clashes 15 = .ok (.iload_n 2, 1) := by decide +kernel
theorem dX8_clashes_16 : decode cX8_clashes 16 = .ok (.iconst 2, 1) := by decide +kernel
theorem dX8_clashes_17 : decode cX8_clashes 17 = .ok (.idiv, 1) := by decide +kernel
theorem dX8_clashes_18 : decode cX8_clashes 18 = .ok (.invokevirtual 78, 3) := by decide +kernel
theorem dX8_clashes_21 : decode cX8_clashes 21 = .ok (.invokestatic 81, 3) := by decide +kernel
theorem dX8_clashes_24 : decode cX8_clashes 24 = .ok (.iconst 1, 1) := by decide +kernel
theorem dX8_clashes_25 : decode cX8_clashes 25 = .ok (.if_icmp .le 7, 3) := by decide +kernel
theorem dX8_clashes_28 : decode cX8_clashes 28 = .ok (.iconst 1, 1) := by decide +kernel
theorem dX8_clashes_29 : decode cX8_clashes 29 = .ok (.goto 4, 3) := by decide +kernel
theorem dX8_clashes_32 : decode cX8_clashes 32 = .ok (.iconst 0, 1) := by decide +kernel
theorem dX8_clashes_33 : decode cX8_clashes 33 = .ok (.iadd, 1) := by decide +kernel
theorem dX8_clashes_34 : decode cX8_clashes 34 = .ok (.istore_n 1, 1) := by decide +kernel
theorem dX8_clashes_35 : decode cX8_clashes 35 = .ok (.iinc 2 1, 3) := by decide +kernel
theorem dX8_clashes_38 : decode cX8_clashes 38 = .ok (.goto (-34), 3) := by decide +kernel
theorem dX8_clashes_41 : decode cX8_clashes 41 = .ok (.iload_n 1, 1) := by decide +kernel
theorem dX8_clashes_42 : decode cX8_clashes 42 = .ok (.ireturn, 1) := by decide +kernel
theorem dX8_isThere_0 : decode cX8_isThere 0 = .ok (.aload_n 0, 1) := by decide +kernel
theorem dX8_isThere_1 : decode cX8_isThere 1 = .ok (.getfield 31, 3) := by decide +kernel
theorem dX8_isThere_4 : decode cX8_isThere 4 = .ok (.iload_n 1, 1) := by decide +kernel
theorem dX8_isThere_5 : decode cX8_isThere 5 = .ok (.iaload, 1) := by decide +kernel
theorem dX8_isThere_6 : decode cX8_isThere 6 = .ok (.iload_n 2, 1) := by decide +kernel
theorem dX8_isThere_7 : decode cX8_isThere 7 = .ok (.if_icmp .ne 17, 3) := by decide +kernel
theorem dX8_isThere_10 : decode cX8_isThere 10 = .ok (.aload_n 0, 1) := by decide +kernel
theorem dX8_isThere_11 : decode cX8_isThere 11 = .ok (.getfield 34, 3) := by decide +kernel
theorem dX8_isThere_14 : decode cX8_isThere 14 = .ok (.iload_n 1, 1) := by decide +kernel
theorem dX8_isThere_15 : decode cX8_isThere 15 = .ok (.iaload, 1) := by decide +kernel
theorem dX8_isThere_16 : decode cX8_isThere 16 = .ok (.iload_n 3, 1) := by decide +kernel
theorem dX8_isThere_17 : decode cX8_isThere 17 = .ok (.if_icmp .gt 7, 3) := by decide +kernel
theorem dX8_isThere_20 : decode cX8_isThere 20 = .ok (.iconst 1, 1) := by decide +kernel
theorem dX8_isThere_21 : decode cX8_isThere 21 = .ok (.goto 4, 3) := by decide +kernel
theorem dX8_isThere_24 : decode cX8_isThere 24 = .ok (.iconst 0, 1) := by decide +kernel
theorem dX8_isThere_25 : decode cX8_isThere 25 = .ok (.ireturn, 1) := by decide +kernel
theorem dX8_wants_0 : decode cX8_wants 0 = .ok (.aload_n 0, 1) := by decide +kernel
theorem dX8_wants_1 : decode cX8_wants 1 = .ok (.getfield 34, 3) := by decide +kernel
theorem dX8_wants_4 : decode cX8_wants 4 = .ok (.iload_n 1, 1) := by decide +kernel
theorem dX8_wants_5 : decode cX8_wants 5 = .ok (.iaload, 1) := by decide +kernel
theorem dX8_wants_6 : decode cX8_wants 6 = .ok (.iload_n 2, 1) := by decide +kernel
theorem dX8_wants_7 : decode cX8_wants 7 = .ok (.if_icmp .gt 45, 3) := by decide +kernel
theorem dX8_wants_10 : decode cX8_wants 10 = .ok (.aload_n 0, 1) := by decide +kernel
theorem dX8_wants_11 : decode cX8_wants 11 = .ok (.getfield 37, 3) := by decide +kernel
theorem dX8_wants_14 : decode cX8_wants 14 = .ok (.iload_n 1, 1) := by decide +kernel
theorem dX8_wants_15 : decode cX8_wants 15 = .ok (.iaload, 1) := by decide +kernel
theorem dX8_wants_16 : decode cX8_wants 16 = .ok (.aload_n 0, 1) := by decide +kernel
theorem dX8_wants_17 : decode cX8_wants 17 = .ok (.getfield 28, 3) := by decide +kernel
theorem dX8_wants_20 : decode cX8_wants 20 = .ok (.iload_n 1, 1) := by decide +kernel
theorem dX8_wants_21 : decode cX8_wants 21 = .ok (.iaload, 1) := by decide +kernel
theorem dX8_wants_22 : decode cX8_wants 22 = .ok (.if_icmp .ge 30, 3) := by decide +kernel
theorem dX8_wants_25 : decode cX8_wants 25 = .ok (.aload_n 0, 1) := by decide +kernel
theorem dX8_wants_26 : decode cX8_wants 26 = .ok (.iload_n 1, 1) := by decide +kernel
theorem dX8_wants_27 : decode cX8_wants 27 = .ok (.aload_n 0, 1) := by decide +kernel
theorem dX8_wants_28 : decode cX8_wants 28 = .ok (.getfield 37, 3) := by decide +kernel
theorem dX8_wants_31 : decode cX8_wants 31 = .ok (.iload_n 1, 1) := by decide +kernel
theorem dX8_wants_32 : decode cX8_wants 32 = .ok (.iaload, 1) := by decide +kernel
theorem dX8_wants_33 : decode cX8_wants 33 = .ok (.invokevirtual 69, 3) := by decide +kernel
theorem dX8_wants_36 : decode cX8_wants 36 = .ok (.iload_n 2, 1) := by decide +kernel
theorem dX8_wants_37 : decode cX8_wants 37 = .ok (.if_icmp .gt 15, 3) := by decide +kernel
theorem dX8_wants_40 : decode cX8_wants 40 = .ok (.iload_n 2, 1) := by decide +kernel
theorem dX8_wants_41 : decode cX8_wants 41 = .ok (.iconst 2, 1) := by decide +kernel
theorem dX8_wants_42 : decode cX8_wants 42 = .ok (.iadd, 1) := by decide +kernel
theorem dX8_wants_43 : decode cX8_wants 43 = .ok (.bipush 23, 2) := by decide +kernel
theorem dX8_wants_45 : decode cX8_wants 45 = .ok (.if_icmp .gt 7, 3) := by decide +kernel
theorem dX8_wants_48 : decode cX8_wants 48 = .ok (.iconst 1, 1) := by decide +kernel
theorem dX8_wants_49 : decode cX8_wants 49 = .ok (.goto 4, 3) := by decide +kernel
theorem dX8_wants_52 : decode cX8_wants 52 = .ok (.iconst 0, 1) := by decide +kernel
theorem dX8_wants_53 : decode cX8_wants 53 = .ok (.ireturn, 1) := by decide +kernel
theorem dX8_depart_0 : decode cX8_depart 0 = .ok (.aload_n 0, 1) := by decide +kernel
theorem dX8_depart_1 : decode cX8_depart 1 = .ok (.getfield 31, 3) := by decide +kernel
theorem dX8_depart_4 : decode cX8_depart 4 = .ok (.iload_n 1, 1) := by decide +kernel
theorem dX8_depart_5 : decode cX8_depart 5 = .ok (.iconst 1, 1) := by decide +kernel
theorem dX8_depart_6 : decode cX8_depart 6 = .ok (.aload_n 0, 1) := by decide +kernel
theorem dX8_depart_7 : decode cX8_depart 7 = .ok (.getfield 31, 3) := by decide +kernel
theorem dX8_depart_10 : decode cX8_depart 10 = .ok (.iload_n 1, 1) := by decide +kernel
theorem dX8_depart_11 : decode cX8_depart 11 = .ok (.iaload, 1) := by decide +kernel
theorem dX8_depart_12 : decode cX8_depart 12 = .ok (.isub, 1) := by decide +kernel
theorem dX8_depart_13 : decode cX8_depart 13 = .ok (.iastore, 1) := by decide +kernel
theorem dX8_depart_14 : decode cX8_depart 14 = .ok (.aload_n 0, 1) := by decide +kernel
theorem dX8_depart_15 : decode cX8_depart 15 = .ok (.getfield 34, 3) := by decide +kernel
theorem dX8_depart_18 : decode cX8_depart 18 = .ok (.iload_n 1, 1) := by decide +kernel
theorem dX8_depart_19 : decode cX8_depart 19 = .ok (.iload_n 2, 1) := by decide +kernel
theorem dX8_depart_20 : decode cX8_depart 20 = .ok (.iconst 2, 1) := by decide +kernel
theorem dX8_depart_21 : decode cX8_depart 21 = .ok (.iadd, 1) := by decide +kernel
theorem dX8_depart_22 : decode cX8_depart 22 = .ok (.iastore, 1) := by decide +kernel
theorem dX8_depart_23 : decode cX8_depart 23 = .ok (.aload_n 0, 1) := by decide +kernel
theorem dX8_depart_24 : decode cX8_depart 24 = .ok (.getfield 37, 3) := by decide +kernel
theorem dX8_depart_27 : decode cX8_depart 27 = .ok (.iload_n 1, 1) := by decide +kernel
theorem dX8_depart_28 : decode cX8_depart 28 = .ok (.dup2, 1) := by decide +kernel
theorem dX8_depart_29 : decode cX8_depart 29 = .ok (.iaload, 1) := by decide +kernel
theorem dX8_depart_30 : decode cX8_depart 30 = .ok (.iconst 1, 1) := by decide +kernel
theorem dX8_depart_31 : decode cX8_depart 31 = .ok (.iadd, 1) := by decide +kernel
theorem dX8_depart_32 : decode cX8_depart 32 = .ok (.iastore, 1) := by decide +kernel
theorem dX8_depart_33 : decode cX8_depart 33 = .ok (.aload_n 0, 1) := by decide +kernel
theorem dX8_depart_34 : decode cX8_depart 34 = .ok (.iload_n 1, 1) := by decide +kernel
theorem dX8_depart_35 : decode cX8_depart 35 = .ok (.iconst 4, 1) := by decide +kernel
theorem dX8_depart_36 : decode cX8_depart 36 = .ok (.iconst 1, 1) := by decide +kernel
theorem dX8_depart_37 : decode cX8_depart 37 = .ok (.invokevirtual 85, 3) := by decide +kernel
theorem dX8_depart_40 : decode cX8_depart 40 = .ok (.return_, 1) := by decide +kernel
theorem dX8_draw_0 : decode cX8_draw 0 = .ok (.aload_n 0, 1) := by decide +kernel
theorem dX8_draw_1 : decode cX8_draw 1 = .ok (.getfield 7, 3) := by decide +kernel
theorem dX8_draw_4 : decode cX8_draw 4 = .ok (.iconst 2, 1) := by decide +kernel
theorem dX8_draw_5 : decode cX8_draw 5 = .ok (.bipush 75, 2) := by decide +kernel
theorem dX8_draw_7 : decode cX8_draw 7 = .ok (.aload_n 0, 1) := by decide +kernel
theorem dX8_draw_8 : decode cX8_draw 8 = .ok (.getfield 7, 3) := by decide +kernel
theorem dX8_draw_11 : decode cX8_draw 11 = .ok (.iconst 2, 1) := by decide +kernel
theorem dX8_draw_12 : decode cX8_draw 12 = .ok (.iaload, 1) := by decide +kernel
theorem dX8_draw_13 : decode cX8_draw 13 = .ok (.imul, 1) := by decide +kernel
theorem dX8_draw_14 : decode cX8_draw 14 = .ok (.bipush 74, 2) := by decide +kernel
theorem dX8_draw_16 : decode cX8_draw 16 = .ok (.iadd, 1) := by decide +kernel
theorem dX8_draw_17 : decode cX8_draw 17 = .ok (.ldc 88, 2) := by decide +kernel
theorem dX8_draw_19 : decode cX8_draw 19 = .ok (.irem, 1) := by decide +kernel
theorem dX8_draw_20 : decode cX8_draw 20 = .ok (.iastore, 1) := by decide +kernel
theorem dX8_draw_21 : decode cX8_draw 21 = .ok (.aload_n 0, 1) := by decide +kernel
theorem dX8_draw_22 : decode cX8_draw 22 = .ok (.getfield 7, 3) := by decide +kernel
theorem dX8_draw_25 : decode cX8_draw 25 = .ok (.iconst 5, 1) := by decide +kernel
theorem dX8_draw_26 : decode cX8_draw 26 = .ok (.dup2, 1) := by decide +kernel
theorem dX8_draw_27 : decode cX8_draw 27 = .ok (.iaload, 1) := by decide +kernel
theorem dX8_draw_28 : decode cX8_draw 28 = .ok (.iconst 1, 1) := by decide +kernel
theorem dX8_draw_29 : decode cX8_draw 29 = .ok (.iadd, 1) := by decide +kernel
theorem dX8_draw_30 : decode cX8_draw 30 = .ok (.iastore, 1) := by decide +kernel
theorem dX8_draw_31 : decode cX8_draw 31 = .ok (.aload_n 0, 1) := by decide +kernel
theorem dX8_draw_32 : decode cX8_draw 32 = .ok (.getfield 7, 3) := by decide +kernel
theorem dX8_draw_35 : decode cX8_draw 35 = .ok (.iconst 2, 1) := by decide +kernel
theorem dX8_draw_36 : decode cX8_draw 36 = .ok (.iaload, 1) := by decide +kernel
theorem dX8_draw_37 : decode cX8_draw 37 = .ok (.iload_n 1, 1) := by decide +kernel
theorem dX8_draw_38 : decode cX8_draw 38 = .ok (.invokestatic 81, 3) := by decide +kernel
theorem dX8_draw_41 : decode cX8_draw 41 = .ok (.irem, 1) := by decide +kernel
theorem dX8_draw_42 : decode cX8_draw 42 = .ok (.istore_n 2, 1) := by decide +kernel
theorem dX8_draw_43 : decode cX8_draw 43 = .ok (.iconst 0, 1) := by decide +kernel
theorem dX8_draw_44 : decode cX8_draw 44 = .ok (.istore_n 3, 1) := by decide +kernel
theorem dX8_draw_45 : decode cX8_draw 45 = .ok (.iload_n 1, 1) := by decide +kernel
theorem dX8_draw_46 : decode cX8_draw 46 = .ok (.iload_n 3, 1) := by decide +kernel
theorem dX8_draw_47 : decode cX8_draw 47 = .ok (.ishr, 1) := by decide +kernel
theorem dX8_draw_48 : decode cX8_draw 48 = .ok (.iconst 1, 1) := by decide +kernel
theorem dX8_draw_49 : decode cX8_draw 49 = .ok (.iand, 1) := by decide +kernel
theorem dX8_draw_50 : decode cX8_draw 50 = .ok (.ifCond .eq 7, 3) := by decide +kernel
theorem dX8_draw_53 : decode cX8_draw 53 = .ok (.iload_n 2, 1) := by decide +kernel
theorem dX8_draw_54 : decode cX8_draw 54 = .ok (.ifCond .le 17, 3) := by decide +kernel
theorem dX8_draw_57 : decode cX8_draw 57 = .ok (.iload_n 2, 1) := by decide +kernel
theorem dX8_draw_58 : decode cX8_draw 58 = .ok (.iload_n 1, 1) := by decide +kernel
theorem dX8_draw_59 : decode cX8_draw 59 = .ok (.iload_n 3, 1) := by decide +kernel
theorem dX8_draw_60 : decode cX8_draw 60 = .ok (.ishr, 1) := by decide +kernel
theorem dX8_draw_61 : decode cX8_draw 61 = .ok (.iconst 1, 1) := by decide +kernel
theorem dX8_draw_62 : decode cX8_draw 62 = .ok (.iand, 1) := by decide +kernel
theorem dX8_draw_63 : decode cX8_draw 63 = .ok (.isub, 1) := by decide +kernel
theorem dX8_draw_64 : decode cX8_draw 64 = .ok (.istore_n 2, 1) := by decide +kernel
theorem dX8_draw_65 : decode cX8_draw 65 = .ok (.iinc 3 1, 3) := by decide +kernel
theorem dX8_draw_68 : decode cX8_draw 68 = .ok (.goto (-23), 3) := by decide +kernel
theorem dX8_draw_71 : decode cX8_draw 71 = .ok (.iload_n 3, 1) := by decide +kernel
theorem dX8_draw_72 : decode cX8_draw 72 = .ok (.ireturn, 1) := by decide +kernel
theorem dX8_givePier_0 : decode cX8_givePier 0 = .ok (.iload_n 2, 1) := by decide +kernel
theorem dX8_givePier_1 : decode cX8_givePier 1 = .ok (.ifCond .ne 15, 3) := by decide +kernel
theorem dX8_givePier_4 : decode cX8_givePier 4 = .ok (.iload_n 1, 1) := by decide +kernel
theorem dX8_givePier_5 : decode cX8_givePier 5 = .ok (.invokestatic 81, 3) := by decide +kernel
theorem dX8_givePier_8 : decode cX8_givePier 8 = .ok (.iconst 1, 1) := by decide +kernel
theorem dX8_givePier_9 : decode cX8_givePier 9 = .ok (.if_icmp .le 7, 3) := by decide +kernel
theorem dX8_givePier_12 : decode cX8_givePier 12 = .ok (.iconst 1, 1) := by decide +kernel
theorem dX8_givePier_13 : decode cX8_givePier 13 = .ok (.goto 4, 3) := by decide +kernel
theorem dX8_givePier_16 : decode cX8_givePier 16 = .ok (.iconst 0, 1) := by decide +kernel
theorem dX8_givePier_17 : decode cX8_givePier 17 = .ok (.istore 4, 2) := by decide +kernel
theorem dX8_givePier_19 : decode cX8_givePier 19 = .ok (.iload_n 2, 1) := by decide +kernel
theorem dX8_givePier_20 : decode cX8_givePier 20 = .ok (.ifCond .ne 7, 3) := by decide +kernel
theorem dX8_givePier_23 : decode cX8_givePier 23 = .ok (.iload_n 1, 1) := by decide +kernel
theorem dX8_givePier_24 : decode cX8_givePier 24 = .ok (.ifCond .ne 8, 3) := by decide +kernel
theorem dX8_givePier_27 : decode cX8_givePier 27 = .ok (.bipush (-5), 2) := by decide +kernel
theorem dX8_givePier_29 : decode cX8_givePier 29 = .ok (.goto 19, 3) := by decide +kernel
theorem dX8_givePier_32 : decode cX8_givePier 32 = .ok (.iload 4, 2) := by decide +kernel
theorem dX8_givePier_34 : decode cX8_givePier 34 = .ok (.ifCond .eq 11, 3) := by decide +kernel
theorem dX8_givePier_37 : decode cX8_givePier 37 = .ok (.aload_n 0, 1) := by decide +kernel
theorem dX8_givePier_38 : decode cX8_givePier 38 = .ok (.iload_n 1, 1) := by decide +kernel
theorem dX8_givePier_39 : decode cX8_givePier 39 = .ok (.invokevirtual 89, 3) := by decide +kernel
theorem dX8_givePier_42 : decode cX8_givePier 42 = .ok (.goto 6, 3) := by decide +kernel
theorem dX8_givePier_45 : decode cX8_givePier 45 = .ok (.iload_n 1, 1) := by decide +kernel
theorem dX8_givePier_46 : decode cX8_givePier 46 = .ok (.iconst 2, 1) := by decide +kernel
theorem dX8_givePier_47 : decode cX8_givePier 47 = .ok (.idiv, 1) := by decide +kernel
theorem dX8_givePier_48 : decode cX8_givePier 48 = .ok (.istore 5, 2) := by decide +kernel
theorem dX8_givePier_50 : decode cX8_givePier 50 = .ok (.iconst 0, 1) := by decide +kernel
theorem dX8_givePier_51 : decode cX8_givePier 51 = .ok (.istore 6, 2) := by decide +kernel
theorem dX8_givePier_53 : decode cX8_givePier 53 = .ok (.iload 6, 2) := by decide +kernel
theorem dX8_givePier_55 : decode cX8_givePier 55 = .ok (.iconst 3, 1) := by decide +kernel
theorem dX8_givePier_56 : decode cX8_givePier 56 = .ok (.if_icmp .ge 65, 3) := by decide +kernel
theorem dX8_givePier_59 : decode cX8_givePier 59 = .ok (.iload_n 1, 1) := by decide +kernel
theorem dX8_givePier_60 : decode cX8_givePier 60 = .ok (.iload 6, 2) := by decide +kernel
theorem dX8_givePier_62 : decode cX8_givePier 62 = .ok (.ishr, 1) := by decide +kernel
theorem dX8_givePier_63 : decode cX8_givePier 63 = .ok (.iconst 1, 1) := by decide +kernel
theorem dX8_givePier_64 : decode cX8_givePier 64 = .ok (.iand, 1) := by decide +kernel
theorem dX8_givePier_65 : decode cX8_givePier 65 = .ok (.ifCond .ne 6, 3) := by decide +kernel
theorem dX8_givePier_68 : decode cX8_givePier 68 = .ok (.goto 47, 3) := by decide +kernel
theorem dX8_givePier_71 : decode cX8_givePier 71 = .ok (.iload 6, 2) := by decide +kernel
theorem dX8_givePier_73 : decode cX8_givePier 73 = .ok (.iload 5, 2) := by decide +kernel
theorem dX8_givePier_75 : decode cX8_givePier 75 = .ok (.if_icmp .ne 13, 3) := by decide +kernel
theorem dX8_givePier_78 : decode cX8_givePier 78 = .ok (.aload_n 0, 1) := by decide +kernel
theorem dX8_givePier_79 : decode cX8_givePier 79 = .ok (.iload 6, 2) := by decide +kernel
theorem dX8_givePier_81 : decode cX8_givePier 81 = .ok (.iload_n 3, 1) := by decide +kernel
theorem dX8_givePier_82 : decode cX8_givePier 82 = .ok (.invokevirtual 92, 3) := by decide +kernel
theorem dX8_givePier_85 : decode cX8_givePier 85 = .ok (.goto 30, 3) := by decide +kernel
theorem dX8_givePier_88 : decode cX8_givePier 88 = .ok (.aload_n 0, 1) := by decide +kernel
theorem dX8_givePier_89 : decode cX8_givePier 89 = .ok (.iload 6, 2) := by decide +kernel
theorem dX8_givePier_91 : decode cX8_givePier 91 = .ok (.bipush 6, 2) := by decide +kernel
theorem dX8_givePier_93 : decode cX8_givePier 93 = .ok (.iconst 1, 1) := by decide +kernel
theorem dX8_givePier_94 : decode cX8_givePier 94 = .ok (.invokevirtual 85, 3) := by decide +kernel
theorem dX8_givePier_97 : decode cX8_givePier 97 = .ok (.aload_n 0, 1) := by decide +kernel
theorem dX8_givePier_98 : decode cX8_givePier 98 = .ok (.iload 6, 2) := by decide +kernel
theorem dX8_givePier_100 : decode cX8_givePier 100 = .ok (.bipush 7, 2) := by decide +kernel
theorem dX8_givePier_102 : decode cX8_givePier 102 = .ok (.iload 4, 2) := by decide +kernel
theorem dX8_givePier_104 : decode cX8_givePier 104 = .ok (.ifCond .eq 7, 3) := by decide +kernel
theorem dX8_givePier_107 : decode cX8_givePier 107 = .ok (.iconst 1, 1) := by decide +kernel
theorem dX8_givePier_108 : decode cX8_givePier 108 = .ok (.goto 4, 3) := by decide +kernel
theorem dX8_givePier_111 : decode cX8_givePier 111 = .ok (.iconst 0, 1) := by decide +kernel
theorem dX8_givePier_112 : decode cX8_givePier 112 = .ok (.invokevirtual 85, 3) := by decide +kernel
theorem dX8_givePier_115 : decode cX8_givePier 115 = .ok (.iinc 6 1, 3) := by decide +kernel
theorem dX8_givePier_118 : decode cX8_givePier 118 = .ok (.goto (-65), 3) := by decide +kernel
theorem dX8_givePier_121 : decode cX8_givePier 121 = .ok (.return_, 1) := by decide +kernel
theorem dX8_goOn_0 : decode cX8_goOn 0 = .ok (.iconst 0, 1) := by decide +kernel
theorem dX8_goOn_1 : decode cX8_goOn 1 = .ok (.istore_n 2, 1) := by decide +kernel
theorem dX8_goOn_2 : decode cX8_goOn 2 = .ok (.iconst 0, 1) := by decide +kernel
theorem dX8_goOn_3 : decode cX8_goOn 3 = .ok (.istore_n 3, 1) := by decide +kernel
theorem dX8_goOn_4 : decode cX8_goOn 4 = .ok (.iconst 0, 1) := by decide +kernel
theorem dX8_goOn_5 : decode cX8_goOn 5 = .ok (.istore 4, 2) := by decide +kernel
theorem dX8_goOn_7 : decode cX8_goOn 7 = .ok (.iconst 0, 1) := by decide +kernel
theorem dX8_goOn_8 : decode cX8_goOn 8 = .ok (.istore 5, 2) := by decide +kernel
theorem dX8_goOn_10 : decode cX8_goOn 10 = .ok (.iload 5, 2) := by decide +kernel
theorem dX8_goOn_12 : decode cX8_goOn 12 = .ok (.iconst 3, 1) := by decide +kernel
theorem dX8_goOn_13 : decode cX8_goOn 13 = .ok (.if_icmp .ge 113, 3) := by decide +kernel
theorem dX8_goOn_16 : decode cX8_goOn 16 = .ok (.aload_n 0, 1) := by decide +kernel
theorem dX8_goOn_17 : decode cX8_goOn 17 = .ok (.getfield 34, 3) := by decide +kernel
theorem dX8_goOn_20 : decode cX8_goOn 20 = .ok (.iload 5, 2) := by decide +kernel
theorem dX8_goOn_22 : decode cX8_goOn 22 = .ok (.iaload, 1) := by decide +kernel
theorem dX8_goOn_23 : decode cX8_goOn 23 = .ok (.iload_n 1, 1) := by decide +kernel
theorem dX8_goOn_24 : decode cX8_goOn 24 = .ok (.if_icmp .ne 17, 3) := by decide +kernel
theorem dX8_goOn_27 : decode cX8_goOn 27 = .ok (.iload 4, 2) := by decide +kernel
theorem dX8_goOn_29 : decode cX8_goOn 29 = .ok (.iconst 1, 1) := by decide +kernel
theorem dX8_goOn_30 : decode cX8_goOn 30 = .ok (.aload_n 0, 1) := by decide +kernel
theorem dX8_goOn_31 : decode cX8_goOn 31 = .ok (.getfield 31, 3) := by decide +kernel
theorem dX8_goOn_34 : decode cX8_goOn 34 = .ok (.iload 5, 2) := by decide +kernel
theorem dX8_goOn_36 : decode cX8_goOn 36 = .ok (.iaload, 1) := by decide +kernel
theorem dX8_goOn_37 : decode cX8_goOn 37 = .ok (.ishl, 1) := by decide +kernel
theorem dX8_goOn_38 : decode cX8_goOn 38 = .ok (.ior, 1) := by decide +kernel
theorem dX8_goOn_39 : decode cX8_goOn 39 = .ok (.istore 4, 2) := by decide +kernel
theorem dX8_goOn_41 : decode cX8_goOn 41 = .ok (.aload_n 0, 1) := by decide +kernel
theorem dX8_goOn_42 : decode cX8_goOn 42 = .ok (.iload 5, 2) := by decide +kernel
theorem dX8_goOn_44 : decode cX8_goOn 44 = .ok (.iload_n 1, 1) := by decide +kernel
theorem dX8_goOn_45 : decode cX8_goOn 45 = .ok (.invokevirtual 96, 3) := by decide +kernel
theorem dX8_goOn_48 : decode cX8_goOn 48 = .ok (.ifCond .ne 6, 3) := by decide +kernel
theorem dX8_goOn_51 : decode cX8_goOn 51 = .ok (.goto 69, 3) := by decide +kernel
theorem dX8_goOn_54 : decode cX8_goOn 54 = .ok (.aload_n 0, 1) := by decide +kernel
theorem dX8_goOn_55 : decode cX8_goOn 55 = .ok (.iload 5, 2) := by decide +kernel
theorem dX8_goOn_57 : decode cX8_goOn 57 = .ok (.aload_n 0, 1) := by decide +kernel
theorem dX8_goOn_58 : decode cX8_goOn 58 = .ok (.getfield 7, 3) := by decide +kernel
theorem dX8_goOn_61 : decode cX8_goOn 61 = .ok (.iconst 1, 1) := by decide +kernel
theorem dX8_goOn_62 : decode cX8_goOn 62 = .ok (.iaload, 1) := by decide +kernel
theorem dX8_goOn_63 : decode cX8_goOn 63 = .ok (.iload_n 1, 1) := by decide +kernel
theorem dX8_goOn_64 : decode cX8_goOn 64 = .ok (.invokevirtual 62, 3) := by decide +kernel
theorem dX8_goOn_67 : decode cX8_goOn 67 = .ok (.ifCond .ne 25, 3) := by decide +kernel
theorem dX8_goOn_70 : decode cX8_goOn 70 = .ok (.aload_n 0, 1) := by decide +kernel
theorem dX8_goOn_71 : decode cX8_goOn 71 = .ok (.iload 5, 2) := by decide +kernel
theorem dX8_goOn_73 : decode cX8_goOn 73 = .ok (.iconst 5, 1) := by decide +kernel
theorem dX8_goOn_74 : decode cX8_goOn 74 = .ok (.iconst 1, 1) := by decide +kernel
theorem dX8_goOn_75 : decode cX8_goOn 75 = .ok (.invokevirtual 85, 3) := by decide +kernel
theorem dX8_goOn_78 : decode cX8_goOn 78 = .ok (.aload_n 0, 1) := by decide +kernel
theorem dX8_goOn_79 : decode cX8_goOn 79 = .ok (.getfield 40, 3) := by decide +kernel
theorem dX8_goOn_82 : decode cX8_goOn 82 = .ok (.iload 5, 2) := by decide +kernel
theorem dX8_goOn_84 : decode cX8_goOn 84 = .ok (.dup2, 1) := by decide +kernel
theorem dX8_goOn_85 : decode cX8_goOn 85 = .ok (.iaload, 1) := by decide +kernel
theorem dX8_goOn_86 : decode cX8_goOn 86 = .ok (.iconst 1, 1) := by decide +kernel
theorem dX8_goOn_87 : decode cX8_goOn 87 = .ok (.iadd, 1) := by decide +kernel
theorem dX8_goOn_88 : decode cX8_goOn 88 = .ok (.iastore, 1) := by decide +kernel
theorem dX8_goOn_89 : decode cX8_goOn 89 = .ok (.goto 31, 3) := by decide +kernel
theorem dX8_goOn_92 : decode cX8_goOn 92 = .ok (.aload_n 0, 1) := by decide +kernel
theorem dX8_goOn_93 : decode cX8_goOn 93 = .ok (.iload 5, 2) := by decide +kernel
theorem dX8_goOn_95 : decode cX8_goOn 95 = .ok (.iconst 0, 1) := by decide +kernel
theorem dX8_goOn_96 : decode cX8_goOn 96 = .ok (.iload_n 1, 1) := by decide +kernel
theorem dX8_goOn_97 : decode cX8_goOn 97 = .ok (.invokevirtual 100, 3) := by decide +kernel
theorem dX8_goOn_100 : decode cX8_goOn 100 = .ok (.ifCond .eq 13, 3) := by decide +kernel
theorem dX8_goOn_103 : decode cX8_goOn 103 = .ok (.iload_n 2, 1) := by decide +kernel
theorem dX8_goOn_104 : decode cX8_goOn 104 = .ok (.iconst 1, 1) := by decide +kernel
theorem dX8_goOn_105 : decode cX8_goOn 105 = .ok (.iload 5, 2) := by decide +kernel
theorem dX8_goOn_107 : decode cX8_goOn 107 = .ok (.ishl, 1) := by decide +kernel
theorem dX8_goOn_108 : decode cX8_goOn 108 = .ok (.ior, 1) := by decide +kernel
theorem dX8_goOn_109 : decode cX8_goOn 109 = .ok (.istore_n 2, 1) := by decide +kernel
theorem dX8_goOn_110 : decode cX8_goOn 110 = .ok (.goto 10, 3) := by decide +kernel
theorem dX8_goOn_113 : decode cX8_goOn 113 = .ok (.iload_n 3, 1) := by decide +kernel
theorem dX8_goOn_114 : decode cX8_goOn 114 = .ok (.iconst 1, 1) := by decide +kernel
theorem dX8_goOn_115 : decode cX8_goOn 115 = .ok (.iload 5, 2) := by decide +kernel
theorem dX8_goOn_117 : decode cX8_goOn 117 = .ok (.ishl, 1) := by decide +kernel
theorem dX8_goOn_118 : decode cX8_goOn 118 = .ok (.ior, 1) := by decide +kernel
theorem dX8_goOn_119 : decode cX8_goOn 119 = .ok (.istore_n 3, 1) := by decide +kernel
theorem dX8_goOn_120 : decode cX8_goOn 120 = .ok (.iinc 5 1, 3) := by decide +kernel
theorem dX8_goOn_123 : decode cX8_goOn 123 = .ok (.goto (-113), 3) := by decide +kernel
theorem dX8_goOn_126 : decode cX8_goOn 126 = .ok (.aload_n 0, 1) := by decide +kernel
theorem dX8_goOn_127 : decode cX8_goOn 127 = .ok (.iload_n 2, 1) := by decide +kernel
theorem dX8_goOn_128 : decode cX8_goOn 128 = .ok (.iload 4, 2) := by decide +kernel
theorem dX8_goOn_130 : decode cX8_goOn 130 = .ok (.iconst 1, 1) := by decide +kernel
theorem dX8_goOn_131 : decode cX8_goOn 131 = .ok (.iand, 1) := by decide +kernel
theorem dX8_goOn_132 : decode cX8_goOn 132 = .ok (.iconst 1, 1) := by decide +kernel
theorem dX8_goOn_133 : decode cX8_goOn 133 = .ok (.if_icmp .ne 7, 3) := by decide +kernel
theorem dX8_goOn_136 : decode cX8_goOn 136 = .ok (.iconst 1, 1) := by decide +kernel
theorem dX8_goOn_137 : decode cX8_goOn 137 = .ok (.goto 4, 3) := by decide +kernel
theorem dX8_goOn_140 : decode cX8_goOn 140 = .ok (.iconst 0, 1) := by decide +kernel
theorem dX8_goOn_141 : decode cX8_goOn 141 = .ok (.iload_n 1, 1) := by decide +kernel
theorem dX8_goOn_142 : decode cX8_goOn 142 = .ok (.invokevirtual 103, 3) := by decide +kernel
theorem dX8_goOn_145 : decode cX8_goOn 145 = .ok (.aload_n 0, 1) := by decide +kernel
theorem dX8_goOn_146 : decode cX8_goOn 146 = .ok (.iload_n 3, 1) := by decide +kernel
theorem dX8_goOn_147 : decode cX8_goOn 147 = .ok (.iload 4, 2) := by decide +kernel
theorem dX8_goOn_149 : decode cX8_goOn 149 = .ok (.iconst 2, 1) := by decide +kernel
theorem dX8_goOn_150 : decode cX8_goOn 150 = .ok (.iand, 1) := by decide +kernel
theorem dX8_goOn_151 : decode cX8_goOn 151 = .ok (.iconst 2, 1) := by decide +kernel
theorem dX8_goOn_152 : decode cX8_goOn 152 = .ok (.if_icmp .ne 7, 3) := by decide +kernel
theorem dX8_goOn_155 : decode cX8_goOn 155 = .ok (.iconst 1, 1) := by decide +kernel
theorem dX8_goOn_156 : decode cX8_goOn 156 = .ok (.goto 4, 3) := by decide +kernel
theorem dX8_goOn_159 : decode cX8_goOn 159 = .ok (.iconst 0, 1) := by decide +kernel
theorem dX8_goOn_160 : decode cX8_goOn 160 = .ok (.iload_n 1, 1) := by decide +kernel
theorem dX8_goOn_161 : decode cX8_goOn 161 = .ok (.invokevirtual 103, 3) := by decide +kernel
theorem dX8_goOn_164 : decode cX8_goOn 164 = .ok (.return_, 1) := by decide +kernel
theorem dX8_learn_0 : decode cX8_learn 0 = .ok (.aload_n 0, 1) := by decide +kernel
theorem dX8_learn_1 : decode cX8_learn 1 = .ok (.getfield 7, 3) := by decide +kernel
theorem dX8_learn_4 : decode cX8_learn 4 = .ok (.iconst 1, 1) := by decide +kernel
theorem dX8_learn_5 : decode cX8_learn 5 = .ok (.iaload, 1) := by decide +kernel
theorem dX8_learn_6 : decode cX8_learn 6 = .ok (.aload_n 0, 1) := by decide +kernel
theorem dX8_learn_7 : decode cX8_learn 7 = .ok (.getfield 7, 3) := by decide +kernel
theorem dX8_learn_10 : decode cX8_learn 10 = .ok (.iconst 3, 1) := by decide +kernel
theorem dX8_learn_11 : decode cX8_learn 11 = .ok (.iaload, 1) := by decide +kernel
theorem dX8_learn_12 : decode cX8_learn 12 = .ok (.iadd, 1) := by decide +kernel
theorem dX8_learn_13 : decode cX8_learn 13 = .ok (.bipush 12, 2) := by decide +kernel
theorem dX8_learn_15 : decode cX8_learn 15 = .ok (.irem, 1) := by decide +kernel
theorem dX8_learn_16 : decode cX8_learn 16 = .ok (.istore_n 1, 1) := by decide +kernel
theorem dX8_learn_17 : decode cX8_learn 17 = .ok (.aload_n 0, 1) := by decide +kernel
theorem dX8_learn_18 : decode cX8_learn 18 = .ok (.iconst 0, 1) := by decide +kernel
theorem dX8_learn_19 : decode cX8_learn 19 = .ok (.putfield 107, 3) := by decide +kernel
theorem dX8_learn_22 : decode cX8_learn 22 = .ok (.iconst 0, 1) := by decide +kernel
theorem dX8_learn_23 : decode cX8_learn 23 = .ok (.istore_n 2, 1) := by decide +kernel
theorem dX8_learn_24 : decode cX8_learn 24 = .ok (.iload_n 2, 1) := by decide +kernel
theorem dX8_learn_25 : decode cX8_learn 25 = .ok (.iconst 3, 1) := by decide +kernel
theorem dX8_learn_26 : decode cX8_learn 26 = .ok (.if_icmp .ge 51, 3) := by decide +kernel
theorem dX8_learn_29 : decode cX8_learn 29 = .ok (.aload_n 0, 1) := by decide +kernel
theorem dX8_learn_30 : decode cX8_learn 30 = .ok (.getfield 40, 3) := by decide +kernel
theorem dX8_learn_33 : decode cX8_learn 33 = .ok (.iload_n 2, 1) := by decide +kernel
theorem dX8_learn_34 : decode cX8_learn 34 = .ok (.iaload, 1) := by decide +kernel
theorem dX8_learn_35 : decode cX8_learn 35 = .ok (.aload_n 0, 1) := by decide +kernel
theorem dX8_learn_36 : decode cX8_learn 36 = .ok (.getfield 7, 3) := by decide +kernel
theorem dX8_learn_39 : decode cX8_learn 39 = .ok (.iconst 4, 1) := by decide +kernel
theorem dX8_learn_40 : decode cX8_learn 40 = .ok (.iaload, 1) := by decide +kernel
theorem dX8_learn_41 : decode cX8_learn 41 = .ok (.if_icmp .lt 30, 3) := by decide +kernel
theorem dX8_learn_44 : decode cX8_learn 44 = .ok (.aload_n 0, 1) := by decide +kernel
theorem dX8_learn_45 : decode cX8_learn 45 = .ok (.iload_n 2, 1) := by decide +kernel
theorem dX8_learn_46 : decode cX8_learn 46 = .ok (.iconst 0, 1) := by decide +kernel
theorem dX8_learn_47 : decode cX8_learn 47 = .ok (.iload_n 1, 1) := by decide +kernel
theorem dX8_learn_48 : decode cX8_learn 48 = .ok (.invokevirtual 43, 3) := by decide +kernel
theorem dX8_learn_51 : decode cX8_learn 51 = .ok (.aload_n 0, 1) := by decide +kernel
theorem dX8_learn_52 : decode cX8_learn 52 = .ok (.iload_n 2, 1) := by decide +kernel
theorem dX8_learn_53 : decode cX8_learn 53 = .ok (.bipush 9, 2) := by decide +kernel
theorem dX8_learn_55 : decode cX8_learn 55 = .ok (.iconst 1, 1) := by decide +kernel
theorem dX8_learn_56 : decode cX8_learn 56 = .ok (.invokevirtual 85, 3) := by decide +kernel
theorem dX8_learn_59 : decode cX8_learn 59 = .ok (.aload_n 0, 1) := by decide +kernel
theorem dX8_learn_60 : decode cX8_learn 60 = .ok (.dup, 1) := by decide +kernel
theorem dX8_learn_61 : decode cX8_learn 61 = .ok (.getfield 107, 3) := by decide +kernel
theorem dX8_learn_64 : decode cX8_learn 64 = .ok (.iconst 1, 1) := by decide +kernel
theorem dX8_learn_65 : decode cX8_learn 65 = .ok (.iload_n 2, 1) := by decide +kernel
theorem dX8_learn_66 : decode cX8_learn 66 = .ok (.ishl, 1) := by decide +kernel
theorem dX8_learn_67 : decode cX8_learn 67 = .ok (.ior, 1) := by decide +kernel
theorem dX8_learn_68 : decode cX8_learn 68 = .ok (.putfield 107, 3) := by decide +kernel
theorem dX8_learn_71 : decode cX8_learn 71 = .ok (.iinc 2 1, 3) := by decide +kernel
theorem dX8_learn_74 : decode cX8_learn 74 = .ok (.goto (-50), 3) := by decide +kernel
theorem dX8_learn_77 : decode cX8_learn 77 = .ok (.aload_n 0, 1) := by decide +kernel
theorem dX8_learn_78 : decode cX8_learn 78 = .ok (.getfield 7, 3) := by decide +kernel
theorem dX8_learn_81 : decode cX8_learn 81 = .ok (.iconst 1, 1) := by decide +kernel
theorem dX8_learn_82 : decode cX8_learn 82 = .ok (.iload_n 1, 1) := by decide +kernel
theorem dX8_learn_83 : decode cX8_learn 83 = .ok (.iastore, 1) := by decide +kernel
theorem dX8_learn_84 : decode cX8_learn 84 = .ok (.return_, 1) := by decide +kernel
theorem dX8_sailDay_0 : decode cX8_sailDay 0 = .ok (.aload_n 0, 1) := by decide +kernel
theorem dX8_sailDay_1 : decode cX8_sailDay 1 = .ok (.invokevirtual 110, 3) := by decide +kernel
theorem dX8_sailDay_4 : decode cX8_sailDay 4 = .ok (.iconst 0, 1) := by decide +kernel
theorem dX8_sailDay_5 : decode cX8_sailDay 5 = .ok (.istore_n 1, 1) := by decide +kernel
theorem dX8_sailDay_6 : decode cX8_sailDay 6 = .ok (.iload_n 1, 1) := by decide +kernel
theorem dX8_sailDay_7 : decode cX8_sailDay 7 = .ok (.iconst 3, 1) := by decide +kernel
theorem dX8_sailDay_8 : decode cX8_sailDay 8 = .ok (.if_icmp .ge 42, 3) := by decide +kernel
theorem dX8_sailDay_11 : decode cX8_sailDay 11 = .ok (.aload_n 0, 1) := by decide +kernel
theorem dX8_sailDay_12 : decode cX8_sailDay 12 = .ok (.getfield 31, 3) := by decide +kernel
theorem dX8_sailDay_15 : decode cX8_sailDay 15 = .ok (.iload_n 1, 1) := by decide +kernel
theorem dX8_sailDay_16 : decode cX8_sailDay 16 = .ok (.aload_n 0, 1) := by decide +kernel
theorem dX8_sailDay_17 : decode cX8_sailDay 17 = .ok (.iload_n 1, 1) := by decide +kernel
theorem dX8_sailDay_18 : decode cX8_sailDay 18 = .ok (.iconst 3, 1) := by decide +kernel
theorem dX8_sailDay_19 : decode cX8_sailDay 19 = .ok (.invokevirtual 55, 3) := by decide +kernel
theorem dX8_sailDay_22 : decode cX8_sailDay 22 = .ok (.iastore, 1) := by decide +kernel
theorem dX8_sailDay_23 : decode cX8_sailDay 23 = .ok (.aload_n 0, 1) := by decide +kernel
theorem dX8_sailDay_24 : decode cX8_sailDay 24 = .ok (.getfield 34, 3) := by decide +kernel
theorem dX8_sailDay_27 : decode cX8_sailDay 27 = .ok (.iload_n 1, 1) := by decide +kernel
theorem dX8_sailDay_28 : decode cX8_sailDay 28 = .ok (.iconst (-1), 1) := by decide +kernel
theorem dX8_sailDay_29 : decode cX8_sailDay 29 = .ok (.iastore, 1) := by decide +kernel
theorem dX8_sailDay_30 : decode cX8_sailDay 30 = .ok (.aload_n 0, 1) := by decide +kernel
theorem dX8_sailDay_31 : decode cX8_sailDay 31 = .ok (.getfield 37, 3) := by decide +kernel
theorem dX8_sailDay_34 : decode cX8_sailDay 34 = .ok (.iload_n 1, 1) := by decide +kernel
theorem dX8_sailDay_35 : decode cX8_sailDay 35 = .ok (.iconst 0, 1) := by decide +kernel
theorem dX8_sailDay_36 : decode cX8_sailDay 36 = .ok (.iastore, 1) := by decide +kernel
theorem dX8_sailDay_37 : decode cX8_sailDay 37 = .ok (.aload_n 0, 1) := by decide +kernel
theorem dX8_sailDay_38 : decode cX8_sailDay 38 = .ok (.getfield 40, 3) := by decide +kernel
theorem dX8_sailDay_41 : decode cX8_sailDay 41 = .ok (.iload_n 1, 1) := by decide +kernel
theorem dX8_sailDay_42 : decode cX8_sailDay 42 = .ok (.iconst 0, 1) := by decide +kernel
theorem dX8_sailDay_43 : decode cX8_sailDay 43 = .ok (.iastore, 1) := by decide +kernel
theorem dX8_sailDay_44 : decode cX8_sailDay 44 = .ok (.iinc 1 1, 3) := by decide +kernel
theorem dX8_sailDay_47 : decode cX8_sailDay 47 = .ok (.goto (-41), 3) := by decide +kernel
theorem dX8_sailDay_50 : decode cX8_sailDay 50 = .ok (.iconst 0, 1) := by decide +kernel
theorem dX8_sailDay_51 : decode cX8_sailDay 51 = .ok (.istore_n 1, 1) := by decide +kernel
theorem dX8_sailDay_52 : decode cX8_sailDay 52 = .ok (.iload_n 1, 1) := by decide +kernel
theorem dX8_sailDay_53 : decode cX8_sailDay 53 = .ok (.bipush 24, 2) := by decide +kernel
theorem dX8_sailDay_55 : decode cX8_sailDay 55 = .ok (.if_icmp .ge 14, 3) := by decide +kernel
theorem dX8_sailDay_58 : decode cX8_sailDay 58 = .ok (.aload_n 0, 1) := by decide +kernel
theorem dX8_sailDay_59 : decode cX8_sailDay 59 = .ok (.iload_n 1, 1) := by decide +kernel
theorem dX8_sailDay_60 : decode cX8_sailDay 60 = .ok (.invokevirtual 113, 3) := by decide +kernel
theorem dX8_sailDay_63 : decode cX8_sailDay 63 = .ok (.iinc 1 1, 3) := by decide +kernel
theorem dX8_sailDay_66 : decode cX8_sailDay 66 = .ok (.goto (-14), 3) := by decide +kernel
theorem dX8_sailDay_69 : decode cX8_sailDay 69 = .ok (.iconst 0, 1) := by decide +kernel
theorem dX8_sailDay_70 : decode cX8_sailDay 70 = .ok (.istore_n 1, 1) := by decide +kernel
theorem dX8_sailDay_71 : decode cX8_sailDay 71 = .ok (.iload_n 1, 1) := by decide +kernel
theorem dX8_sailDay_72 : decode cX8_sailDay 72 = .ok (.iconst 3, 1) := by decide +kernel
theorem dX8_sailDay_73 : decode cX8_sailDay 73 = .ok (.if_icmp .ge 29, 3) := by decide +kernel
theorem dX8_sailDay_76 : decode cX8_sailDay 76 = .ok (.aload_n 0, 1) := by decide +kernel
theorem dX8_sailDay_77 : decode cX8_sailDay 77 = .ok (.iload_n 1, 1) := by decide +kernel
theorem dX8_sailDay_78 : decode cX8_sailDay 78 = .ok (.bipush 8, 2) := by decide +kernel
theorem dX8_sailDay_80 : decode cX8_sailDay 80 = .ok (.aload_n 0, 1) := by decide +kernel
theorem dX8_sailDay_81 : decode cX8_sailDay 81 = .ok (.getfield 28, 3) := by decide +kernel
theorem dX8_sailDay_84 : decode cX8_sailDay 84 = .ok (.iload_n 1, 1) := by decide +kernel
theorem dX8_sailDay_85 : decode cX8_sailDay 85 = .ok (.iaload, 1) := by decide +kernel
theorem dX8_sailDay_86 : decode cX8_sailDay 86 = .ok (.aload_n 0, 1) := by decide +kernel
theorem dX8_sailDay_87 : decode cX8_sailDay 87 = .ok (.getfield 37, 3) := by decide +kernel
theorem dX8_sailDay_90 : decode cX8_sailDay 90 = .ok (.iload_n 1, 1) := by decide +kernel
theorem dX8_sailDay_91 : decode cX8_sailDay 91 = .ok (.iaload, 1) := by decide +kernel
theorem dX8_sailDay_92 : decode cX8_sailDay 92 = .ok (.isub, 1) := by decide +kernel
theorem dX8_sailDay_93 : decode cX8_sailDay 93 = .ok (.invokevirtual 85, 3) := by decide +kernel
theorem dX8_sailDay_96 : decode cX8_sailDay 96 = .ok (.iinc 1 1, 3) := by decide +kernel
theorem dX8_sailDay_99 : decode cX8_sailDay 99 = .ok (.goto (-28), 3) := by decide +kernel
theorem dX8_sailDay_102 : decode cX8_sailDay 102 = .ok (.aload_n 0, 1) := by decide +kernel
theorem dX8_sailDay_103 : decode cX8_sailDay 103 = .ok (.invokevirtual 116, 3) := by decide +kernel
theorem dX8_sailDay_106 : decode cX8_sailDay 106 = .ok (.aload_n 0, 1) := by decide +kernel
theorem dX8_sailDay_107 : decode cX8_sailDay 107 = .ok (.getfield 7, 3) := by decide +kernel
theorem dX8_sailDay_110 : decode cX8_sailDay 110 = .ok (.iconst 0, 1) := by decide +kernel
theorem dX8_sailDay_111 : decode cX8_sailDay 111 = .ok (.dup2, 1) := by decide +kernel
theorem dX8_sailDay_112 : decode cX8_sailDay 112 = .ok (.iaload, 1) := by decide +kernel
theorem dX8_sailDay_113 : decode cX8_sailDay 113 = .ok (.iconst 1, 1) := by decide +kernel
theorem dX8_sailDay_114 : decode cX8_sailDay 114 = .ok (.iadd, 1) := by decide +kernel
theorem dX8_sailDay_115 : decode cX8_sailDay 115 = .ok (.iastore, 1) := by decide +kernel
theorem dX8_sailDay_116 : decode cX8_sailDay 116 = .ok (.return_, 1) := by decide +kernel
theorem dX8_least_0 : decode cX8_least 0 = .ok (.iload_n 0, 1) := by decide +kernel
theorem dX8_least_1 : decode cX8_least 1 = .ok (.iconst 1, 1) := by decide +kernel
theorem dX8_least_2 : decode cX8_least 2 = .ok (.if_icmp .ne 7, 3) := by decide +kernel
theorem dX8_least_5 : decode cX8_least 5 = .ok (.iconst 1, 1) := by decide +kernel
theorem dX8_least_6 : decode cX8_least 6 = .ok (.goto 4, 3) := by decide +kernel
theorem dX8_least_9 : decode cX8_least 9 = .ok (.iconst 0, 1) := by decide +kernel
theorem dX8_least_10 : decode cX8_least 10 = .ok (.ireturn, 1) := by decide +kernel
theorem dX8_most_0 : decode cX8_most 0 = .ok (.iload_n 0, 1) := by decide +kernel
theorem dX8_most_1 : decode cX8_most 1 = .ok (.ifCond .ne 8, 3) := by decide +kernel
theorem dX8_most_4 : decode cX8_most 4 = .ok (.bipush 11, 2) := by decide +kernel
theorem dX8_most_6 : decode cX8_most 6 = .ok (.goto 24, 3) := by decide +kernel
theorem dX8_most_9 : decode cX8_most 9 = .ok (.iload_n 0, 1) := by decide +kernel
theorem dX8_most_10 : decode cX8_most 10 = .ok (.iconst 1, 1) := by decide +kernel
theorem dX8_most_11 : decode cX8_most 11 = .ok (.if_icmp .ne 8, 3) := by decide +kernel
theorem dX8_most_14 : decode cX8_most 14 = .ok (.bipush 6, 2) := by decide +kernel
theorem dX8_most_16 : decode cX8_most 16 = .ok (.goto 14, 3) := by decide +kernel
theorem dX8_most_19 : decode cX8_most 19 = .ok (.iload_n 0, 1) := by decide +kernel
theorem dX8_most_20 : decode cX8_most 20 = .ok (.iconst 2, 1) := by decide +kernel
theorem dX8_most_21 : decode cX8_most 21 = .ok (.if_icmp .ne 8, 3) := by decide +kernel
theorem dX8_most_24 : decode cX8_most 24 = .ok (.bipush 23, 2) := by decide +kernel
theorem dX8_most_26 : decode cX8_most 26 = .ok (.goto 4, 3) := by decide +kernel
theorem dX8_most_29 : decode cX8_most 29 = .ok (.iconst 1, 1) := by decide +kernel
theorem dX8_most_30 : decode cX8_most 30 = .ok (.ireturn, 1) := by decide +kernel
theorem dX8_captain_0 : decode cX8_captain 0 = .ok (.iload_n 1, 1) := by decide +kernel
theorem dX8_captain_1 : decode cX8_captain 1 = .ok (.invokestatic 119, 3) := by decide +kernel
theorem dX8_captain_4 : decode cX8_captain 4 = .ok (.ifCond .ne 5, 3) := by decide +kernel
theorem dX8_captain_7 : decode cX8_captain 7 = .ok (.iconst (-1), 1) := by decide +kernel
theorem dX8_captain_8 : decode cX8_captain 8 = .ok (.ireturn, 1) := by decide +kernel
theorem dX8_captain_9 : decode cX8_captain 9 = .ok (.iload_n 2, 1) := by decide +kernel
theorem dX8_captain_10 : decode cX8_captain 10 = .ok (.iconst 0, 1) := by decide +kernel
theorem dX8_captain_11 : decode cX8_captain 11 = .ok (.iconst 3, 1) := by decide +kernel
theorem dX8_captain_12 : decode cX8_captain 12 = .ok (.invokestatic 51, 3) := by decide +kernel
theorem dX8_captain_15 : decode cX8_captain 15 = .ok (.ifCond .eq 18, 3) := by decide +kernel
theorem dX8_captain_18 : decode cX8_captain 18 = .ok (.iload_n 3, 1) := by decide +kernel
theorem dX8_captain_19 : decode cX8_captain 19 = .ok (.iload_n 2, 1) := by decide +kernel
theorem dX8_captain_20 : decode cX8_captain 20 = .ok (.invokestatic 123, 3) := by decide +kernel
theorem dX8_captain_23 : decode cX8_captain 23 = .ok (.iload_n 2, 1) := by decide +kernel
theorem dX8_captain_24 : decode cX8_captain 24 = .ok (.invokestatic 126, 3) := by decide +kernel
theorem dX8_captain_27 : decode cX8_captain 27 = .ok (.invokestatic 51, 3) := by decide +kernel
theorem dX8_captain_30 : decode cX8_captain 30 = .ok (.ifCond .ne 6, 3) := by decide +kernel
theorem dX8_captain_33 : decode cX8_captain 33 = .ok (.bipush (-2), 2) := by decide +kernel
theorem dX8_captain_35 : decode cX8_captain 35 = .ok (.ireturn, 1) := by decide +kernel
theorem dX8_captain_36 : decode cX8_captain 36 = .ok (.aload_n 0, 1) := by decide +kernel
theorem dX8_captain_37 : decode cX8_captain 37 = .ok (.iload_n 1, 1) := by decide +kernel
theorem dX8_captain_38 : decode cX8_captain 38 = .ok (.iload_n 2, 1) := by decide +kernel
theorem dX8_captain_39 : decode cX8_captain 39 = .ok (.invokevirtual 55, 3) := by decide +kernel
theorem dX8_captain_42 : decode cX8_captain 42 = .ok (.istore 4, 2) := by decide +kernel
theorem dX8_captain_44 : decode cX8_captain 44 = .ok (.iload 4, 2) := by decide +kernel
theorem dX8_captain_46 : decode cX8_captain 46 = .ok (.iload_n 3, 1) := by decide +kernel
theorem dX8_captain_47 : decode cX8_captain 47 = .ok (.if_icmp .ne 6, 3) := by decide +kernel
theorem dX8_captain_50 : decode cX8_captain 50 = .ok (.bipush (-5), 2) := by decide +kernel
theorem dX8_captain_52 : decode cX8_captain 52 = .ok (.ireturn, 1) := by decide +kernel
theorem dX8_captain_53 : decode cX8_captain 53 = .ok (.aload_n 0, 1) := by decide +kernel
theorem dX8_captain_54 : decode cX8_captain 54 = .ok (.invokevirtual 129, 3) := by decide +kernel
theorem dX8_captain_57 : decode cX8_captain 57 = .ok (.aload_n 0, 1) := by decide +kernel
theorem dX8_captain_58 : decode cX8_captain 58 = .ok (.iload_n 1, 1) := by decide +kernel
theorem dX8_captain_59 : decode cX8_captain 59 = .ok (.iload_n 2, 1) := by decide +kernel
theorem dX8_captain_60 : decode cX8_captain 60 = .ok (.iload_n 3, 1) := by decide +kernel
theorem dX8_captain_61 : decode cX8_captain 61 = .ok (.invokevirtual 43, 3) := by decide +kernel
theorem dX8_captain_64 : decode cX8_captain 64 = .ok (.iload 4, 2) := by decide +kernel
theorem dX8_captain_66 : decode cX8_captain 66 = .ok (.ireturn, 1) := by decide +kernel
theorem dX8_change_0 : decode cX8_change 0 = .ok (.aload_n 0, 1) := by decide +kernel
theorem dX8_change_1 : decode cX8_change 1 = .ok (.getfield 7, 3) := by decide +kernel
theorem dX8_change_4 : decode cX8_change 4 = .ok (.iload_n 1, 1) := by decide +kernel
theorem dX8_change_5 : decode cX8_change 5 = .ok (.iaload, 1) := by decide +kernel
theorem dX8_change_6 : decode cX8_change 6 = .ok (.istore_n 3, 1) := by decide +kernel
theorem dX8_change_7 : decode cX8_change 7 = .ok (.iload_n 3, 1) := by decide +kernel
theorem dX8_change_8 : decode cX8_change 8 = .ok (.iload_n 2, 1) := by decide +kernel
theorem dX8_change_9 : decode cX8_change 9 = .ok (.if_icmp .ne 6, 3) := by decide +kernel
theorem dX8_change_12 : decode cX8_change 12 = .ok (.bipush (-5), 2) := by decide +kernel
theorem dX8_change_14 : decode cX8_change 14 = .ok (.ireturn, 1) := by decide +kernel
theorem dX8_change_15 : decode cX8_change 15 = .ok (.aload_n 0, 1) := by decide +kernel
theorem dX8_change_16 : decode cX8_change 16 = .ok (.invokevirtual 129, 3) := by decide +kernel
theorem dX8_change_19 : decode cX8_change 19 = .ok (.aload_n 0, 1) := by decide +kernel
theorem dX8_change_20 : decode cX8_change 20 = .ok (.getfield 7, 3) := by decide +kernel
theorem dX8_change_23 : decode cX8_change 23 = .ok (.iload_n 1, 1) := by decide +kernel
theorem dX8_change_24 : decode cX8_change 24 = .ok (.iload_n 2, 1) := by decide +kernel
theorem dX8_change_25 : decode cX8_change 25 = .ok (.iastore, 1) := by decide +kernel
theorem dX8_change_26 : decode cX8_change 26 = .ok (.iload_n 3, 1) := by decide +kernel
theorem dX8_change_27 : decode cX8_change 27 = .ok (.ireturn, 1) := by decide +kernel
theorem dX8_truth_0 : decode cX8_truth 0 = .ok (.iload_n 1, 1) := by decide +kernel
theorem dX8_truth_1 : decode cX8_truth 1 = .ok (.iconst 0, 1) := by decide +kernel
theorem dX8_truth_2 : decode cX8_truth 2 = .ok (.bipush 11, 2) := by decide +kernel
theorem dX8_truth_4 : decode cX8_truth 4 = .ok (.invokestatic 51, 3) := by decide +kernel
theorem dX8_truth_7 : decode cX8_truth 7 = .ok (.ifCond .eq 12, 3) := by decide +kernel
theorem dX8_truth_10 : decode cX8_truth 10 = .ok (.aload_n 0, 1) := by decide +kernel
theorem dX8_truth_11 : decode cX8_truth 11 = .ok (.iconst 1, 1) := by decide +kernel
theorem dX8_truth_12 : decode cX8_truth 12 = .ok (.iload_n 1, 1) := by decide +kernel
theorem dX8_truth_13 : decode cX8_truth 13 = .ok (.invokevirtual 132, 3) := by decide +kernel
theorem dX8_truth_16 : decode cX8_truth 16 = .ok (.goto 5, 3) := by decide +kernel
theorem dX8_truth_19 : decode cX8_truth 19 = .ok (.bipush (-2), 2) := by decide +kernel
theorem dX8_truth_21 : decode cX8_truth 21 = .ok (.ireturn, 1) := by decide +kernel
theorem dX8_set_0 : decode cX8_set 0 = .ok (.iload_n 1, 1) := by decide +kernel
theorem dX8_set_1 : decode cX8_set 1 = .ok (.iconst 0, 1) := by decide +kernel
theorem dX8_set_2 : decode cX8_set 2 = .ok (.iconst 1, 1) := by decide +kernel
theorem dX8_set_3 : decode cX8_set 3 = .ok (.invokestatic 51, 3) := by decide +kernel
theorem dX8_set_6 : decode cX8_set 6 = .ok (.ifCond .eq 32, 3) := by decide +kernel
theorem dX8_set_9 : decode cX8_set 9 = .ok (.iload_n 2, 1) := by decide +kernel
theorem dX8_set_10 : decode cX8_set 10 = .ok (.iload_n 1, 1) := by decide +kernel
theorem dX8_set_11 : decode cX8_set 11 = .ok (.iload_n 1, 1) := by decide +kernel
theorem dX8_set_12 : decode cX8_set 12 = .ok (.ifCond .ne 7, 3) := by decide +kernel
theorem dX8_set_15 : decode cX8_set 15 = .ok (.iconst 1, 1) := by decide +kernel
theorem dX8_set_16 : decode cX8_set 16 = .ok (.goto 5, 3) := by decide +kernel
theorem dX8_set_19 : decode cX8_set 19 = .ok (.bipush 9, 2) := by decide +kernel
theorem dX8_set_21 : decode cX8_set 21 = .ok (.invokestatic 51, 3) := by decide +kernel
theorem dX8_set_24 : decode cX8_set 24 = .ok (.ifCond .eq 14, 3) := by decide +kernel
theorem dX8_set_27 : decode cX8_set 27 = .ok (.aload_n 0, 1) := by decide +kernel
theorem dX8_set_28 : decode cX8_set 28 = .ok (.iconst 3, 1) := by decide +kernel
theorem dX8_set_29 : decode cX8_set 29 = .ok (.iload_n 1, 1) := by decide +kernel
theorem dX8_set_30 : decode cX8_set 30 = .ok (.iadd, 1) := by decide +kernel
theorem dX8_set_31 : decode cX8_set 31 = .ok (.iload_n 2, 1) := by decide +kernel
theorem dX8_set_32 : decode cX8_set 32 = .ok (.invokevirtual 132, 3) := by decide +kernel
theorem dX8_set_35 : decode cX8_set 35 = .ok (.goto 5, 3) := by decide +kernel
theorem dX8_set_38 : decode cX8_set 38 = .ok (.bipush (-2), 2) := by decide +kernel
theorem dX8_set_40 : decode cX8_set 40 = .ok (.ireturn, 1) := by decide +kernel
theorem dX8_lot_0 : decode cX8_lot 0 = .ok (.iload_n 1, 1) := by decide +kernel
theorem dX8_lot_1 : decode cX8_lot 1 = .ok (.iconst 0, 1) := by decide +kernel
theorem dX8_lot_2 : decode cX8_lot 2 = .ok (.ldc 135, 2) := by decide +kernel
theorem dX8_lot_4 : decode cX8_lot 4 = .ok (.invokestatic 51, 3) := by decide +kernel
theorem dX8_lot_7 : decode cX8_lot 7 = .ok (.ifCond .eq 12, 3) := by decide +kernel
theorem dX8_lot_10 : decode cX8_lot 10 = .ok (.aload_n 0, 1) := by decide +kernel
theorem dX8_lot_11 : decode cX8_lot 11 = .ok (.iconst 2, 1) := by decide +kernel
theorem dX8_lot_12 : decode cX8_lot 12 = .ok (.iload_n 1, 1) := by decide +kernel
theorem dX8_lot_13 : decode cX8_lot 13 = .ok (.invokevirtual 132, 3) := by decide +kernel
theorem dX8_lot_16 : decode cX8_lot 16 = .ok (.goto 5, 3) := by decide +kernel
theorem dX8_lot_19 : decode cX8_lot 19 = .ok (.bipush (-2), 2) := by decide +kernel
theorem dX8_lot_21 : decode cX8_lot 21 = .ok (.ireturn, 1) := by decide +kernel
theorem dX8_sail_0 : decode cX8_sail 0 = .ok (.iload_n 1, 1) := by decide +kernel
theorem dX8_sail_1 : decode cX8_sail 1 = .ok (.iconst 1, 1) := by decide +kernel
theorem dX8_sail_2 : decode cX8_sail 2 = .ok (.bipush 30, 2) := by decide +kernel
theorem dX8_sail_4 : decode cX8_sail 4 = .ok (.invokestatic 51, 3) := by decide +kernel
theorem dX8_sail_7 : decode cX8_sail 7 = .ok (.ifCond .ne 6, 3) := by decide +kernel
theorem dX8_sail_10 : decode cX8_sail 10 = .ok (.bipush (-2), 2) := by decide +kernel
theorem dX8_sail_12 : decode cX8_sail 12 = .ok (.ireturn, 1) := by decide +kernel
theorem dX8_sail_13 : decode cX8_sail 13 = .ok (.aload_n 0, 1) := by decide +kernel
theorem dX8_sail_14 : decode cX8_sail 14 = .ok (.getfield 7, 3) := by decide +kernel
theorem dX8_sail_17 : decode cX8_sail 17 = .ok (.iconst 0, 1) := by decide +kernel
theorem dX8_sail_18 : decode cX8_sail 18 = .ok (.iaload, 1) := by decide +kernel
theorem dX8_sail_19 : decode cX8_sail 19 = .ok (.iload_n 1, 1) := by decide +kernel
theorem dX8_sail_20 : decode cX8_sail 20 = .ok (.iadd, 1) := by decide +kernel
theorem dX8_sail_21 : decode cX8_sail 21 = .ok (.sipush 9999, 3) := by decide +kernel
theorem dX8_sail_24 : decode cX8_sail 24 = .ok (.if_icmp .le 6, 3) := by decide +kernel
theorem dX8_sail_27 : decode cX8_sail 27 = .ok (.bipush (-3), 2) := by decide +kernel
theorem dX8_sail_29 : decode cX8_sail 29 = .ok (.ireturn, 1) := by decide +kernel
theorem dX8_sail_30 : decode cX8_sail 30 = .ok (.aload_n 0, 1) := by decide +kernel
theorem dX8_sail_31 : decode cX8_sail 31 = .ok (.invokevirtual 129, 3) := by decide +kernel
theorem dX8_sail_34 : decode cX8_sail 34 = .ok (.aload_n 0, 1) := by decide +kernel
theorem dX8_sail_35 : decode cX8_sail 35 = .ok (.iconst 4, 1) := by decide +kernel
theorem dX8_sail_36 : decode cX8_sail 36 = .ok (.invokevirtual 136, 3) := by decide +kernel
theorem dX8_sail_39 : decode cX8_sail 39 = .ok (.istore_n 2, 1) := by decide +kernel
theorem dX8_sail_40 : decode cX8_sail 40 = .ok (.iconst 0, 1) := by decide +kernel
theorem dX8_sail_41 : decode cX8_sail 41 = .ok (.istore_n 3, 1) := by decide +kernel
theorem dX8_sail_42 : decode cX8_sail 42 = .ok (.iload_n 3, 1) := by decide +kernel
theorem dX8_sail_43 : decode cX8_sail 43 = .ok (.iload_n 1, 1) := by decide +kernel
theorem dX8_sail_44 : decode cX8_sail 44 = .ok (.if_icmp .ge 13, 3) := by decide +kernel
theorem dX8_sail_47 : decode cX8_sail 47 = .ok (.aload_n 0, 1) := by decide +kernel
theorem dX8_sail_48 : decode cX8_sail 48 = .ok (.invokevirtual 139, 3) := by decide +kernel
theorem dX8_sail_51 : decode cX8_sail 51 = .ok (.iinc 3 1, 3) := by decide +kernel
theorem dX8_sail_54 : decode cX8_sail 54 = .ok (.goto (-12), 3) := by decide +kernel
theorem dX8_sail_57 : decode cX8_sail 57 = .ok (.aload_n 0, 1) := by decide +kernel
theorem dX8_sail_58 : decode cX8_sail 58 = .ok (.iconst 4, 1) := by decide +kernel
theorem dX8_sail_59 : decode cX8_sail 59 = .ok (.invokevirtual 136, 3) := by decide +kernel
theorem dX8_sail_62 : decode cX8_sail 62 = .ok (.iload_n 2, 1) := by decide +kernel
theorem dX8_sail_63 : decode cX8_sail 63 = .ok (.isub, 1) := by decide +kernel
theorem dX8_sail_64 : decode cX8_sail 64 = .ok (.ireturn, 1) := by decide +kernel
theorem dX8_type_0 : decode cX8_type 0 = .ok (.aload_n 0, 1) := by decide +kernel
theorem dX8_type_1 : decode cX8_type 1 = .ok (.getfield 142, 3) := by decide +kernel
theorem dX8_type_4 : decode cX8_type 4 = .ok (.bipush 60, 2) := by decide +kernel
theorem dX8_type_6 : decode cX8_type 6 = .ok (.if_icmp .ne 6, 3) := by decide +kernel
theorem dX8_type_9 : decode cX8_type 9 = .ok (.bipush (-3), 2) := by decide +kernel
theorem dX8_type_11 : decode cX8_type 11 = .ok (.ireturn, 1) := by decide +kernel
theorem dX8_type_12 : decode cX8_type 12 = .ok (.aload_n 0, 1) := by decide +kernel
theorem dX8_type_13 : decode cX8_type 13 = .ok (.getfield 22, 3) := by decide +kernel
theorem dX8_type_16 : decode cX8_type 16 = .ok (.aload_n 0, 1) := by decide +kernel
theorem dX8_type_17 : decode cX8_type 17 = .ok (.getfield 142, 3) := by decide +kernel
theorem dX8_type_20 : decode cX8_type 20 = .ok (.iload_n 1, 1) := by decide +kernel
theorem dX8_type_21 : decode cX8_type 21 = .ok (.iastore, 1) := by decide +kernel
theorem dX8_type_22 : decode cX8_type 22 = .ok (.aload_n 0, 1) := by decide +kernel
theorem dX8_type_23 : decode cX8_type 23 = .ok (.dup, 1) := by decide +kernel
theorem dX8_type_24 : decode cX8_type 24 = .ok (.getfield 142, 3) := by decide +kernel
theorem dX8_type_27 : decode cX8_type 27 = .ok (.iconst 1, 1) := by decide +kernel
theorem dX8_type_28 : decode cX8_type 28 = .ok (.iadd, 1) := by decide +kernel
theorem dX8_type_29 : decode cX8_type 29 = .ok (.putfield 142, 3) := by decide +kernel
theorem dX8_type_32 : decode cX8_type 32 = .ok (.aload_n 0, 1) := by decide +kernel
theorem dX8_type_33 : decode cX8_type 33 = .ok (.getfield 142, 3) := by decide +kernel
theorem dX8_type_36 : decode cX8_type 36 = .ok (.ireturn, 1) := by decide +kernel
theorem dX8_clearText_0 : decode cX8_clearText 0 = .ok (.aload_n 0, 1) := by decide +kernel
theorem dX8_clearText_1 : decode cX8_clearText 1 = .ok (.getfield 142, 3) := by decide +kernel
theorem dX8_clearText_4 : decode cX8_clearText 4 = .ok (.istore_n 1, 1) := by decide +kernel
theorem dX8_clearText_5 : decode cX8_clearText 5 = .ok (.aload_n 0, 1) := by decide +kernel
theorem dX8_clearText_6 : decode cX8_clearText 6 = .ok (.iconst 0, 1) := by decide +kernel
theorem dX8_clearText_7 : decode cX8_clearText 7 = .ok (.putfield 142, 3) := by decide +kernel
theorem dX8_clearText_10 : decode cX8_clearText 10 = .ok (.iload_n 1, 1) := by decide +kernel
theorem dX8_clearText_11 : decode cX8_clearText 11 = .ok (.ireturn, 1) := by decide +kernel
theorem dX8_isNext_0 : decode cX8_isNext 0 = .ok (.aload_n 0, 1) := by decide +kernel
theorem dX8_isNext_1 : decode cX8_isNext 1 = .ok (.getfield 145, 3) := by decide +kernel
theorem dX8_isNext_4 : decode cX8_isNext 4 = .ok (.aload_n 0, 1) := by decide +kernel
theorem dX8_isNext_5 : decode cX8_isNext 5 = .ok (.getfield 142, 3) := by decide +kernel
theorem dX8_isNext_8 : decode cX8_isNext 8 = .ok (.if_icmp .ge 24, 3) := by decide +kernel
theorem dX8_isNext_11 : decode cX8_isNext 11 = .ok (.aload_n 0, 1) := by decide +kernel
theorem dX8_isNext_12 : decode cX8_isNext 12 = .ok (.getfield 22, 3) := by decide +kernel
theorem dX8_isNext_15 : decode cX8_isNext 15 = .ok (.aload_n 0, 1) := by decide +kernel
theorem dX8_isNext_16 : decode cX8_isNext 16 = .ok (.getfield 145, 3) := by decide +kernel
theorem dX8_isNext_19 : decode cX8_isNext 19 = .ok (.iaload, 1) := by decide +kernel
theorem dX8_isNext_20 : decode cX8_isNext 20 = .ok (.iload_n 1, 1) := by decide +kernel
theorem dX8_isNext_21 : decode cX8_isNext 21 = .ok (.iload_n 2, 1) := by decide +kernel
theorem dX8_isNext_22 : decode cX8_isNext 22 = .ok (.invokestatic 51, 3) := by decide +kernel
theorem dX8_isNext_25 : decode cX8_isNext 25 = .ok (.ifCond .eq 7, 3) := by decide +kernel
theorem dX8_isNext_28 : decode cX8_isNext 28 = .ok (.iconst 1, 1) := by decide +kernel
theorem dX8_isNext_29 : decode cX8_isNext 29 = .ok (.goto 4, 3) := by decide +kernel
theorem dX8_isNext_32 : decode cX8_isNext 32 = .ok (.iconst 0, 1) := by decide +kernel
theorem dX8_isNext_33 : decode cX8_isNext 33 = .ok (.ireturn, 1) := by decide +kernel
theorem dX8_sign_0 : decode cX8_sign 0 = .ok (.aload_n 0, 1) := by decide +kernel
theorem dX8_sign_1 : decode cX8_sign 1 = .ok (.iload_n 1, 1) := by decide +kernel
theorem dX8_sign_2 : decode cX8_sign 2 = .ok (.iload_n 1, 1) := by decide +kernel
theorem dX8_sign_3 : decode cX8_sign 3 = .ok (.invokevirtual 148, 3) := by decide +kernel
theorem dX8_sign_6 : decode cX8_sign 6 = .ok (.istore_n 2, 1) := by decide +kernel
theorem dX8_sign_7 : decode cX8_sign 7 = .ok (.aload_n 0, 1) := by decide +kernel
theorem dX8_sign_8 : decode cX8_sign 8 = .ok (.dup, 1) := by decide +kernel
theorem dX8_sign_9 : decode cX8_sign 9 = .ok (.getfield 145, 3) := by decide +kernel
theorem dX8_sign_12 : decode cX8_sign 12 = .ok (.iload_n 2, 1) := by decide +kernel
theorem dX8_sign_13 : decode cX8_sign 13 = .ok (.ifCond .eq 7, 3) := by decide +kernel
theorem dX8_sign_16 : decode cX8_sign 16 = .ok (.iconst 1, 1) := by decide +kernel
theorem dX8_sign_17 : decode cX8_sign 17 = .ok (.goto 4, 3) := by decide +kernel
theorem dX8_sign_20 : decode cX8_sign 20 = .ok (.iconst 0, 1) := by decide +kernel
theorem dX8_sign_21 : decode cX8_sign 21 = .ok (.iadd, 1) := by decide +kernel
theorem dX8_sign_22 : decode cX8_sign 22 = .ok (.putfield 145, 3) := by decide +kernel
theorem dX8_sign_25 : decode cX8_sign 25 = .ok (.iload_n 2, 1) := by decide +kernel
theorem dX8_sign_26 : decode cX8_sign 26 = .ok (.ireturn, 1) := by decide +kernel
theorem dX8_number_0 : decode cX8_number 0 = .ok (.aload_n 0, 1) := by decide +kernel
theorem dX8_number_1 : decode cX8_number 1 = .ok (.bipush 48, 2) := by decide +kernel
theorem dX8_number_3 : decode cX8_number 3 = .ok (.iload_n 1, 1) := by decide +kernel
theorem dX8_number_4 : decode cX8_number 4 = .ok (.iadd, 1) := by decide +kernel
theorem dX8_number_5 : decode cX8_number 5 = .ok (.iload_n 2, 1) := by decide +kernel
theorem dX8_number_6 : decode cX8_number 6 = .ok (.bipush 9, 2) := by decide +kernel
theorem dX8_number_8 : decode cX8_number 8 = .ok (.if_icmp .ge 10, 3) := by decide +kernel
theorem dX8_number_11 : decode cX8_number 11 = .ok (.bipush 48, 2) := by decide +kernel
theorem dX8_number_13 : decode cX8_number 13 = .ok (.iload_n 2, 1) := by decide +kernel
theorem dX8_number_14 : decode cX8_number 14 = .ok (.iadd, 1) := by decide +kernel
theorem dX8_number_15 : decode cX8_number 15 = .ok (.goto 5, 3) := by decide +kernel
theorem dX8_number_18 : decode cX8_number 18 = .ok (.bipush 57, 2) := by decide +kernel
theorem dX8_number_20 : decode cX8_number 20 = .ok (.invokevirtual 148, 3) := by decide +kernel
theorem dX8_number_23 : decode cX8_number 23 = .ok (.ifCond .ne 6, 3) := by decide +kernel
theorem dX8_number_26 : decode cX8_number 26 = .ok (.bipush (-5), 2) := by decide +kernel
theorem dX8_number_28 : decode cX8_number 28 = .ok (.ireturn, 1) := by decide +kernel
theorem dX8_number_29 : decode cX8_number 29 = .ok (.aload_n 0, 1) := by decide +kernel
theorem dX8_number_30 : decode cX8_number 30 = .ok (.getfield 22, 3) := by decide +kernel
theorem dX8_number_33 : decode cX8_number 33 = .ok (.aload_n 0, 1) := by decide +kernel
theorem dX8_number_34 : decode cX8_number 34 = .ok (.getfield 145, 3) := by decide +kernel
theorem dX8_number_37 : decode cX8_number 37 = .ok (.iaload, 1) := by decide +kernel
theorem dX8_number_38 : decode cX8_number 38 = .ok (.bipush 48, 2) := by decide +kernel
theorem dX8_number_40 : decode cX8_number 40 = .ok (.isub, 1) := by decide +kernel
theorem dX8_number_41 : decode cX8_number 41 = .ok (.istore_n 3, 1) := by decide +kernel
theorem dX8_number_42 : decode cX8_number 42 = .ok (.aload_n 0, 1) := by decide +kernel
theorem dX8_number_43 : decode cX8_number 43 = .ok (.dup, 1) := by decide +kernel
theorem dX8_number_44 : decode cX8_number 44 = .ok (.getfield 145, 3) := by decide +kernel
theorem dX8_number_47 : decode cX8_number 47 = .ok (.iconst 1, 1) := by decide +kernel
theorem dX8_number_48 : decode cX8_number 48 = .ok (.iadd, 1) := by decide +kernel
theorem dX8_number_49 : decode cX8_number 49 = .ok (.putfield 145, 3) := by decide +kernel
theorem dX8_number_52 : decode cX8_number 52 = .ok (.iload_n 3, 1) := by decide +kernel
theorem dX8_number_53 : decode cX8_number 53 = .ok (.ifCond .le 66, 3) := by decide +kernel
theorem dX8_number_56 : decode cX8_number 56 = .ok (.aload_n 0, 1) := by decide +kernel
theorem dX8_number_57 : decode cX8_number 57 = .ok (.bipush 48, 2) := by decide +kernel
theorem dX8_number_59 : decode cX8_number 59 = .ok (.bipush 57, 2) := by decide +kernel
theorem dX8_number_61 : decode cX8_number 61 = .ok (.invokevirtual 148, 3) := by decide +kernel
theorem dX8_number_64 : decode cX8_number 64 = .ok (.ifCond .eq 55, 3) := by decide +kernel
theorem dX8_number_67 : decode cX8_number 67 = .ok (.bipush 10, 2) := by decide +kernel
theorem dX8_number_69 : decode cX8_number 69 = .ok (.iload_n 3, 1) := by decide +kernel
theorem dX8_number_70 : decode cX8_number 70 = .ok (.imul, 1) := by decide +kernel
theorem dX8_number_71 : decode cX8_number 71 = .ok (.aload_n 0, 1) := by decide +kernel
theorem dX8_number_72 : decode cX8_number 72 = .ok (.getfield 22, 3) := by decide +kernel
theorem dX8_number_75 : decode cX8_number 75 = .ok (.aload_n 0, 1) := by decide +kernel
theorem dX8_number_76 : decode cX8_number 76 = .ok (.getfield 145, 3) := by decide +kernel
theorem dX8_number_79 : decode cX8_number 79 = .ok (.iaload, 1) := by decide +kernel
theorem dX8_number_80 : decode cX8_number 80 = .ok (.iadd, 1) := by decide +kernel
theorem dX8_number_81 : decode cX8_number 81 = .ok (.bipush 48, 2) := by decide +kernel
theorem dX8_number_83 : decode cX8_number 83 = .ok (.isub, 1) := by decide +kernel
theorem dX8_number_84 : decode cX8_number 84 = .ok (.iload_n 2, 1) := by decide +kernel
theorem dX8_number_85 : decode cX8_number 85 = .ok (.if_icmp .gt 34, 3) := by decide +kernel
theorem dX8_number_88 : decode cX8_number 88 = .ok (.bipush 10, 2) := by decide +kernel
theorem dX8_number_90 : decode cX8_number 90 = .ok (.iload_n 3, 1) := by decide +kernel
theorem dX8_number_91 : decode cX8_number 91 = .ok (.imul, 1) := by decide +kernel
theorem dX8_number_92 : decode cX8_number 92 = .ok (.aload_n 0, 1) := by decide +kernel
theorem dX8_number_93 : decode cX8_number 93 = .ok (.getfield 22, 3) := by decide +kernel
theorem dX8_number_96 : decode cX8_number 96 = .ok (.aload_n 0, 1) := by decide +kernel
theorem dX8_number_97 : decode cX8_number 97 = .ok (.getfield 145, 3) := by decide +kernel
theorem dX8_number_100 : decode cX8_number 100 = .ok (.iaload, 1) := by decide +kernel
theorem dX8_number_101 : decode cX8_number 101 = .ok (.iadd, 1) := by decide +kernel
theorem dX8_number_102 : decode cX8_number 102 = .ok (.bipush 48, 2) := by decide +kernel
theorem dX8_number_104 : decode cX8_number 104 = .ok (.isub, 1) := by decide +kernel
theorem dX8_number_105 : decode cX8_number 105 = .ok (.istore_n 3, 1) := by decide +kernel
theorem dX8_number_106 : decode cX8_number 106 = .ok (.aload_n 0, 1) := by decide +kernel
theorem dX8_number_107 : decode cX8_number 107 = .ok (.dup, 1) := by decide +kernel
theorem dX8_number_108 : decode cX8_number 108 = .ok (.getfield 145, 3) := by decide +kernel
theorem dX8_number_111 : decode cX8_number 111 = .ok (.iconst 1, 1) := by decide +kernel
theorem dX8_number_112 : decode cX8_number 112 = .ok (.iadd, 1) := by decide +kernel
theorem dX8_number_113 : decode cX8_number 113 = .ok (.putfield 145, 3) := by decide +kernel
theorem dX8_number_116 : decode cX8_number 116 = .ok (.goto (-64), 3) := by decide +kernel
theorem dX8_number_119 : decode cX8_number 119 = .ok (.iload_n 3, 1) := by decide +kernel
theorem dX8_number_120 : decode cX8_number 120 = .ok (.ireturn, 1) := by decide +kernel
theorem dX8_aboutOf_0 : decode cX8_aboutOf 0 = .ok (.aload_n 0, 1) := by decide +kernel
theorem dX8_aboutOf_1 : decode cX8_aboutOf 1 = .ok (.bipush 112, 2) := by decide +kernel
theorem dX8_aboutOf_3 : decode cX8_aboutOf 3 = .ok (.invokevirtual 151, 3) := by decide +kernel
theorem dX8_aboutOf_6 : decode cX8_aboutOf 6 = .ok (.ifCond .eq 7, 3) := by decide +kernel
theorem dX8_aboutOf_9 : decode cX8_aboutOf 9 = .ok (.iconst 0, 1) := by decide +kernel
theorem dX8_aboutOf_10 : decode cX8_aboutOf 10 = .ok (.goto 44, 3) := by decide +kernel
theorem dX8_aboutOf_13 : decode cX8_aboutOf 13 = .ok (.aload_n 0, 1) := by decide +kernel
theorem dX8_aboutOf_14 : decode cX8_aboutOf 14 = .ok (.bipush 100, 2) := by decide +kernel
theorem dX8_aboutOf_16 : decode cX8_aboutOf 16 = .ok (.invokevirtual 151, 3) := by decide +kernel
theorem dX8_aboutOf_19 : decode cX8_aboutOf 19 = .ok (.ifCond .eq 7, 3) := by decide +kernel
theorem dX8_aboutOf_22 : decode cX8_aboutOf 22 = .ok (.iconst 1, 1) := by decide +kernel
theorem dX8_aboutOf_23 : decode cX8_aboutOf 23 = .ok (.goto 31, 3) := by decide +kernel
theorem dX8_aboutOf_26 : decode cX8_aboutOf 26 = .ok (.aload_n 0, 1) := by decide +kernel
theorem dX8_aboutOf_27 : decode cX8_aboutOf 27 = .ok (.bipush 102, 2) := by decide +kernel
theorem dX8_aboutOf_29 : decode cX8_aboutOf 29 = .ok (.invokevirtual 151, 3) := by decide +kernel
theorem dX8_aboutOf_32 : decode cX8_aboutOf 32 = .ok (.ifCond .eq 7, 3) := by decide +kernel
theorem dX8_aboutOf_35 : decode cX8_aboutOf 35 = .ok (.iconst 2, 1) := by decide +kernel
theorem dX8_aboutOf_36 : decode cX8_aboutOf 36 = .ok (.goto 18, 3) := by decide +kernel
theorem dX8_aboutOf_39 : decode cX8_aboutOf 39 = .ok (.aload_n 0, 1) := by decide +kernel
theorem dX8_aboutOf_40 : decode cX8_aboutOf 40 = .ok (.bipush 104, 2) := by decide +kernel
theorem dX8_aboutOf_42 : decode cX8_aboutOf 42 = .ok (.invokevirtual 151, 3) := by decide +kernel
theorem dX8_aboutOf_45 : decode cX8_aboutOf 45 = .ok (.ifCond .eq 7, 3) := by decide +kernel
theorem dX8_aboutOf_48 : decode cX8_aboutOf 48 = .ok (.iconst 3, 1) := by decide +kernel
theorem dX8_aboutOf_49 : decode cX8_aboutOf 49 = .ok (.goto 5, 3) := by decide +kernel
theorem dX8_aboutOf_52 : decode cX8_aboutOf 52 = .ok (.bipush (-5), 2) := by decide +kernel
theorem dX8_aboutOf_54 : decode cX8_aboutOf 54 = .ok (.ireturn, 1) := by decide +kernel
theorem dX8_readPart_0 : decode cX8_readPart 0 = .ok (.aload_n 0, 1) := by decide +kernel
theorem dX8_readPart_1 : decode cX8_readPart 1 = .ok (.iconst 0, 1) := by decide +kernel
theorem dX8_readPart_2 : decode cX8_readPart 2 = .ok (.iconst 2, 1) := by decide +kernel
theorem dX8_readPart_3 : decode cX8_readPart 3 = .ok (.invokevirtual 154, 3) := by decide +kernel
theorem dX8_readPart_6 : decode cX8_readPart 6 = .ok (.istore_n 2, 1) := by decide +kernel
theorem dX8_readPart_7 : decode cX8_readPart 7 = .ok (.iload_n 2, 1) := by decide +kernel
theorem dX8_readPart_8 : decode cX8_readPart 8 = .ok (.bipush (-5), 2) := by decide +kernel
theorem dX8_readPart_10 : decode cX8_readPart 10 = .ok (.if_icmp .eq 12, 3) := by decide +kernel
theorem dX8_readPart_13 : decode cX8_readPart 13 = .ok (.aload_n 0, 1) := by decide +kernel
theorem dX8_readPart_14 : decode cX8_readPart 14 = .ok (.bipush 58, 2) := by decide +kernel
theorem dX8_readPart_16 : decode cX8_readPart 16 = .ok (.invokevirtual 151, 3) := by decide +kernel
theorem dX8_readPart_19 : decode cX8_readPart 19 = .ok (.ifCond .ne 5, 3) := by decide +kernel
theorem dX8_readPart_22 : decode cX8_readPart 22 = .ok (.iconst 0, 1) := by decide +kernel
theorem dX8_readPart_23 : decode cX8_readPart 23 = .ok (.ireturn, 1) := by decide +kernel
theorem dX8_readPart_24 : decode cX8_readPart 24 = .ok (.aload_n 0, 1) := by decide +kernel
theorem dX8_readPart_25 : decode cX8_readPart 25 = .ok (.invokevirtual 157, 3) := by decide +kernel
theorem dX8_readPart_28 : decode cX8_readPart 28 = .ok (.istore_n 3, 1) := by decide +kernel
theorem dX8_readPart_29 : decode cX8_readPart 29 = .ok (.iload_n 3, 1) := by decide +kernel
theorem dX8_readPart_30 : decode cX8_readPart 30 = .ok (.bipush (-5), 2) := by decide +kernel
theorem dX8_readPart_32 : decode cX8_readPart 32 = .ok (.if_icmp .ne 5, 3) := by decide +kernel
theorem dX8_readPart_35 : decode cX8_readPart 35 = .ok (.iconst 0, 1) := by decide +kernel
theorem dX8_readPart_36 : decode cX8_readPart 36 = .ok (.ireturn, 1) := by decide +kernel
theorem dX8_readPart_37 : decode cX8_readPart 37 = .ok (.iload_n 3, 1) := by decide +kernel
theorem dX8_readPart_38 : decode cX8_readPart 38 = .ok (.bipush (-5), 2) := by decide +kernel
theorem dX8_readPart_40 : decode cX8_readPart 40 = .ok (.if_icmp .eq 46, 3) := by decide +kernel
theorem dX8_readPart_43 : decode cX8_readPart 43 = .ok (.aload_n 0, 1) := by decide +kernel
theorem dX8_readPart_44 : decode cX8_readPart 44 = .ok (.iload_n 3, 1) := by decide +kernel
theorem dX8_readPart_45 : decode cX8_readPart 45 = .ok (.invokestatic 123, 3) := by decide +kernel
theorem dX8_readPart_48 : decode cX8_readPart 48 = .ok (.iload_n 3, 1) := by decide +kernel
theorem dX8_readPart_49 : decode cX8_readPart 49 = .ok (.invokestatic 126, 3) := by decide +kernel
theorem dX8_readPart_52 : decode cX8_readPart 52 = .ok (.invokevirtual 154, 3) := by decide +kernel
theorem dX8_readPart_55 : decode cX8_readPart 55 = .ok (.istore 4, 2) := by decide +kernel
theorem dX8_readPart_57 : decode cX8_readPart 57 = .ok (.iload 4, 2) := by decide +kernel
theorem dX8_readPart_59 : decode cX8_readPart 59 = .ok (.bipush (-5), 2) := by decide +kernel
theorem dX8_readPart_61 : decode cX8_readPart 61 = .ok (.if_icmp .ne 5, 3) := by decide +kernel
theorem dX8_readPart_64 : decode cX8_readPart 64 = .ok (.iconst 0, 1) := by decide +kernel
theorem dX8_readPart_65 : decode cX8_readPart 65 = .ok (.ireturn, 1) := by decide +kernel
theorem dX8_readPart_66 : decode cX8_readPart 66 = .ok (.iload_n 1, 1) := by decide +kernel
theorem dX8_readPart_67 : decode cX8_readPart 67 = .ok (.ifCond .eq 11, 3) := by decide +kernel
theorem dX8_readPart_70 : decode cX8_readPart 70 = .ok (.aload_n 0, 1) := by decide +kernel
theorem dX8_readPart_71 : decode cX8_readPart 71 = .ok (.iload_n 2, 1) := by decide +kernel
theorem dX8_readPart_72 : decode cX8_readPart 72 = .ok (.iload_n 3, 1) := by decide +kernel
theorem dX8_readPart_73 : decode cX8_readPart 73 = .ok (.iload 4, 2) := by decide +kernel
theorem dX8_readPart_75 : decode cX8_readPart 75 = .ok (.invokevirtual 43, 3) := by decide +kernel
theorem dX8_readPart_78 : decode cX8_readPart 78 = .ok (.aload_n 0, 1) := by decide +kernel
theorem dX8_readPart_79 : decode cX8_readPart 79 = .ok (.invokevirtual 157, 3) := by decide +kernel
theorem dX8_readPart_82 : decode cX8_readPart 82 = .ok (.istore_n 3, 1) := by decide +kernel
theorem dX8_readPart_83 : decode cX8_readPart 83 = .ok (.goto (-46), 3) := by decide +kernel
theorem dX8_readPart_86 : decode cX8_readPart 86 = .ok (.iconst 1, 1) := by decide +kernel
theorem dX8_readPart_87 : decode cX8_readPart 87 = .ok (.ireturn, 1) := by decide +kernel
theorem dX8_readAll_0 : decode cX8_readAll 0 = .ok (.aload_n 0, 1) := by decide +kernel
theorem dX8_readAll_1 : decode cX8_readAll 1 = .ok (.iconst 0, 1) := by decide +kernel
theorem dX8_readAll_2 : decode cX8_readAll 2 = .ok (.putfield 145, 3) := by decide +kernel
theorem dX8_readAll_5 : decode cX8_readAll 5 = .ok (.iconst 0, 1) := by decide +kernel
theorem dX8_readAll_6 : decode cX8_readAll 6 = .ok (.istore_n 1, 1) := by decide +kernel
theorem dX8_readAll_7 : decode cX8_readAll 7 = .ok (.iconst 1, 1) := by decide +kernel
theorem dX8_readAll_8 : decode cX8_readAll 8 = .ok (.istore_n 2, 1) := by decide +kernel
theorem dX8_readAll_9 : decode cX8_readAll 9 = .ok (.iload_n 2, 1) := by decide +kernel
theorem dX8_readAll_10 : decode cX8_readAll 10 = .ok (.ifCond .eq 32, 3) := by decide +kernel
theorem dX8_readAll_13 : decode cX8_readAll 13 = .ok (.aload_n 0, 1) := by decide +kernel
theorem dX8_readAll_14 : decode cX8_readAll 14 = .ok (.iconst 0, 1) := by decide +kernel
theorem dX8_readAll_15 : decode cX8_readAll 15 = .ok (.invokevirtual 161, 3) := by decide +kernel
theorem dX8_readAll_18 : decode cX8_readAll 18 = .ok (.ifCond .ne 11, 3) := by decide +kernel
theorem dX8_readAll_21 : decode cX8_readAll 21 = .ok (.bipush (-100), 2) := by decide +kernel
theorem dX8_readAll_23 : decode cX8_readAll 23 = .ok (.aload_n 0, 1) := by decide +kernel
theorem dX8_readAll_24 : decode cX8_readAll 24 = .ok (.getfield 145, 3) := by decide +kernel
theorem dX8_readAll_27 : decode cX8_readAll 27 = .ok (.isub, 1) := by decide +kernel
theorem dX8_readAll_28 : decode cX8_readAll 28 = .ok (.ireturn, 1) := by decide +kernel
theorem dX8_readAll_29 : decode cX8_readAll 29 = .ok (.iinc 1 1, 3) := by decide +kernel
theorem dX8_readAll_32 : decode cX8_readAll 32 = .ok (.aload_n 0, 1) := by decide +kernel
theorem dX8_readAll_33 : decode cX8_readAll 33 = .ok (.bipush 59, 2) := by decide +kernel
theorem dX8_readAll_35 : decode cX8_readAll 35 = .ok (.invokevirtual 151, 3) := by decide +kernel
theorem dX8_readAll_38 : decode cX8_readAll 38 = .ok (.istore_n 2, 1) := by decide +kernel
theorem dX8_readAll_39 : decode cX8_readAll 39 = .ok (.goto (-30), 3) := by decide +kernel
theorem dX8_readAll_42 : decode cX8_readAll 42 = .ok (.aload_n 0, 1) := by decide +kernel
theorem dX8_readAll_43 : decode cX8_readAll 43 = .ok (.getfield 145, 3) := by decide +kernel
theorem dX8_readAll_46 : decode cX8_readAll 46 = .ok (.aload_n 0, 1) := by decide +kernel
theorem dX8_readAll_47 : decode cX8_readAll 47 = .ok (.getfield 142, 3) := by decide +kernel
theorem dX8_readAll_50 : decode cX8_readAll 50 = .ok (.if_icmp .ge 13, 3) := by decide +kernel
theorem dX8_readAll_53 : decode cX8_readAll 53 = .ok (.bipush (-100), 2) := by decide +kernel
theorem dX8_readAll_55 : decode cX8_readAll 55 = .ok (.aload_n 0, 1) := by decide +kernel
theorem dX8_readAll_56 : decode cX8_readAll 56 = .ok (.getfield 145, 3) := by decide +kernel
theorem dX8_readAll_59 : decode cX8_readAll 59 = .ok (.isub, 1) := by decide +kernel
theorem dX8_readAll_60 : decode cX8_readAll 60 = .ok (.goto 4, 3) := by decide +kernel
theorem dX8_readAll_63 : decode cX8_readAll 63 = .ok (.iload_n 1, 1) := by decide +kernel
theorem dX8_readAll_64 : decode cX8_readAll 64 = .ok (.ireturn, 1) := by decide +kernel
theorem dX8_fault_0 : decode cX8_fault 0 = .ok (.aload_n 0, 1) := by decide +kernel
theorem dX8_fault_1 : decode cX8_fault 1 = .ok (.invokevirtual 165, 3) := by decide +kernel
theorem dX8_fault_4 : decode cX8_fault 4 = .ok (.istore_n 1, 1) := by decide +kernel
theorem dX8_fault_5 : decode cX8_fault 5 = .ok (.iload_n 1, 1) := by decide +kernel
theorem dX8_fault_6 : decode cX8_fault 6 = .ok (.ifCond .ge 10, 3) := by decide +kernel
theorem dX8_fault_9 : decode cX8_fault 9 = .ok (.bipush (-100), 2) := by decide +kernel
theorem dX8_fault_11 : decode cX8_fault 11 = .ok (.iload_n 1, 1) := by decide +kernel
theorem dX8_fault_12 : decode cX8_fault 12 = .ok (.isub, 1) := by decide +kernel
theorem dX8_fault_13 : decode cX8_fault 13 = .ok (.goto 5, 3) := by decide +kernel
theorem dX8_fault_16 : decode cX8_fault 16 = .ok (.bipush (-5), 2) := by decide +kernel
theorem dX8_fault_18 : decode cX8_fault 18 = .ok (.ireturn, 1) := by decide +kernel
theorem dX8_captains_0 : decode cX8_captains 0 = .ok (.aload_n 0, 1) := by decide +kernel
theorem dX8_captains_1 : decode cX8_captains 1 = .ok (.invokevirtual 165, 3) := by decide +kernel
theorem dX8_captains_4 : decode cX8_captains 4 = .ok (.istore_n 1, 1) := by decide +kernel
theorem dX8_captains_5 : decode cX8_captains 5 = .ok (.iload_n 1, 1) := by decide +kernel
theorem dX8_captains_6 : decode cX8_captains 6 = .ok (.ifCond .ge 5, 3) := by decide +kernel
theorem dX8_captains_9 : decode cX8_captains 9 = .ok (.iload_n 1, 1) := by decide +kernel
theorem dX8_captains_10 : decode cX8_captains 10 = .ok (.ireturn, 1) := by decide +kernel
theorem dX8_captains_11 : decode cX8_captains 11 = .ok (.aload_n 0, 1) := by decide +kernel
theorem dX8_captains_12 : decode cX8_captains 12 = .ok (.invokevirtual 129, 3) := by decide +kernel
theorem dX8_captains_15 : decode cX8_captains 15 = .ok (.aload_n 0, 1) := by decide +kernel
theorem dX8_captains_16 : decode cX8_captains 16 = .ok (.iconst 0, 1) := by decide +kernel
theorem dX8_captains_17 : decode cX8_captains 17 = .ok (.putfield 145, 3) := by decide +kernel
theorem dX8_captains_20 : decode cX8_captains 20 = .ok (.iconst 0, 1) := by decide +kernel
theorem dX8_captains_21 : decode cX8_captains 21 = .ok (.istore_n 2, 1) := by decide +kernel
theorem dX8_captains_22 : decode cX8_captains 22 = .ok (.iload_n 2, 1) := by decide +kernel
theorem dX8_captains_23 : decode cX8_captains 23 = .ok (.iload_n 1, 1) := by decide +kernel
theorem dX8_captains_24 : decode cX8_captains 24 = .ok (.if_icmp .ge 25, 3) := by decide +kernel
theorem dX8_captains_27 : decode cX8_captains 27 = .ok (.aload_n 0, 1) := by decide +kernel
theorem dX8_captains_28 : decode cX8_captains 28 = .ok (.iconst 1, 1) := by decide +kernel
theorem dX8_captains_29 : decode cX8_captains 29 = .ok (.invokevirtual 161, 3) := by decide +kernel
theorem dX8_captains_32 : decode cX8_captains 32 = .ok (.pop, 1) := by decide +kernel
theorem dX8_captains_33 : decode cX8_captains 33 = .ok (.aload_n 0, 1) := by decide +kernel
theorem dX8_captains_34 : decode cX8_captains 34 = .ok (.dup, 1) := by decide +kernel
theorem dX8_captains_35 : decode cX8_captains 35 = .ok (.getfield 145, 3) := by decide +kernel
theorem dX8_captains_38 : decode cX8_captains 38 = .ok (.iconst 1, 1) := by decide +kernel
theorem dX8_captains_39 : decode cX8_captains 39 = .ok (.iadd, 1) := by decide +kernel
theorem dX8_captains_40 : decode cX8_captains 40 = .ok (.putfield 145, 3) := by decide +kernel
theorem dX8_captains_43 : decode cX8_captains 43 = .ok (.iinc 2 1, 3) := by decide +kernel
theorem dX8_captains_46 : decode cX8_captains 46 = .ok (.goto (-24), 3) := by decide +kernel
theorem dX8_captains_49 : decode cX8_captains 49 = .ok (.iload_n 1, 1) := by decide +kernel
theorem dX8_captains_50 : decode cX8_captains 50 = .ok (.ireturn, 1) := by decide +kernel
theorem dX8_undo_0 : decode cX8_undo 0 = .ok (.aload_n 0, 1) := by decide +kernel
theorem dX8_undo_1 : decode cX8_undo 1 = .ok (.getfield 47, 3) := by decide +kernel
theorem dX8_undo_4 : decode cX8_undo 4 = .ok (.ifCond .ne 6, 3) := by decide +kernel
theorem dX8_undo_7 : decode cX8_undo 7 = .ok (.bipush (-5), 2) := by decide +kernel
theorem dX8_undo_9 : decode cX8_undo 9 = .ok (.ireturn, 1) := by decide +kernel
theorem dX8_undo_10 : decode cX8_undo 10 = .ok (.aload_n 0, 1) := by decide +kernel
theorem dX8_undo_11 : decode cX8_undo 11 = .ok (.dup, 1) := by decide +kernel
theorem dX8_undo_12 : decode cX8_undo 12 = .ok (.getfield 47, 3) := by decide +kernel
theorem dX8_undo_15 : decode cX8_undo 15 = .ok (.iconst 1, 1) := by decide +kernel
theorem dX8_undo_16 : decode cX8_undo 16 = .ok (.isub, 1) := by decide +kernel
theorem dX8_undo_17 : decode cX8_undo 17 = .ok (.putfield 47, 3) := by decide +kernel
theorem dX8_undo_20 : decode cX8_undo 20 = .ok (.iconst 0, 1) := by decide +kernel
theorem dX8_undo_21 : decode cX8_undo 21 = .ok (.istore_n 1, 1) := by decide +kernel
theorem dX8_undo_22 : decode cX8_undo 22 = .ok (.iload_n 1, 1) := by decide +kernel
theorem dX8_undo_23 : decode cX8_undo 23 = .ok (.bipush 36, 2) := by decide +kernel
theorem dX8_undo_25 : decode cX8_undo 25 = .ok (.if_icmp .ge 29, 3) := by decide +kernel
theorem dX8_undo_28 : decode cX8_undo 28 = .ok (.aload_n 0, 1) := by decide +kernel
theorem dX8_undo_29 : decode cX8_undo 29 = .ok (.getfield 7, 3) := by decide +kernel
theorem dX8_undo_32 : decode cX8_undo 32 = .ok (.iload_n 1, 1) := by decide +kernel
theorem dX8_undo_33 : decode cX8_undo 33 = .ok (.aload_n 0, 1) := by decide +kernel
theorem dX8_undo_34 : decode cX8_undo 34 = .ok (.getfield 19, 3) := by decide +kernel
theorem dX8_undo_37 : decode cX8_undo 37 = .ok (.bipush 36, 2) := by decide +kernel
theorem dX8_undo_39 : decode cX8_undo 39 = .ok (.aload_n 0, 1) := by decide +kernel
theorem dX8_undo_40 : decode cX8_undo 40 = .ok (.getfield 47, 3) := by decide +kernel
theorem dX8_undo_43 : decode cX8_undo 43 = .ok (.imul, 1) := by decide +kernel
theorem dX8_undo_44 : decode cX8_undo 44 = .ok (.iload_n 1, 1) := by decide +kernel
theorem dX8_undo_45 : decode cX8_undo 45 = .ok (.iadd, 1) := by decide +kernel
theorem dX8_undo_46 : decode cX8_undo 46 = .ok (.iaload, 1) := by decide +kernel
theorem dX8_undo_47 : decode cX8_undo 47 = .ok (.iastore, 1) := by decide +kernel
theorem dX8_undo_48 : decode cX8_undo 48 = .ok (.iinc 1 1, 3) := by decide +kernel
theorem dX8_undo_51 : decode cX8_undo 51 = .ok (.goto (-29), 3) := by decide +kernel
theorem dX8_undo_54 : decode cX8_undo 54 = .ok (.aload_n 0, 1) := by decide +kernel
theorem dX8_undo_55 : decode cX8_undo 55 = .ok (.getfield 47, 3) := by decide +kernel
theorem dX8_undo_58 : decode cX8_undo 58 = .ok (.ireturn, 1) := by decide +kernel
theorem dX8_keep_0 : decode cX8_keep 0 = .ok (.iconst 0, 1) := by decide +kernel
theorem dX8_keep_1 : decode cX8_keep 1 = .ok (.istore_n 1, 1) := by decide +kernel
theorem dX8_keep_2 : decode cX8_keep 2 = .ok (.iload_n 1, 1) := by decide +kernel
theorem dX8_keep_3 : decode cX8_keep 3 = .ok (.bipush 36, 2) := by decide +kernel
theorem dX8_keep_5 : decode cX8_keep 5 = .ok (.if_icmp .ge 21, 3) := by decide +kernel
theorem dX8_keep_8 : decode cX8_keep 8 = .ok (.aload_n 0, 1) := by decide +kernel
theorem dX8_keep_9 : decode cX8_keep 9 = .ok (.getfield 13, 3) := by decide +kernel
theorem dX8_keep_12 : decode cX8_keep 12 = .ok (.iload_n 1, 1) := by decide +kernel
theorem dX8_keep_13 : decode cX8_keep 13 = .ok (.aload_n 0, 1) := by decide +kernel
theorem dX8_keep_14 : decode cX8_keep 14 = .ok (.getfield 7, 3) := by decide +kernel
theorem dX8_keep_17 : decode cX8_keep 17 = .ok (.iload_n 1, 1) := by decide +kernel
theorem dX8_keep_18 : decode cX8_keep 18 = .ok (.iaload, 1) := by decide +kernel
theorem dX8_keep_19 : decode cX8_keep 19 = .ok (.iastore, 1) := by decide +kernel
theorem dX8_keep_20 : decode cX8_keep 20 = .ok (.iinc 1 1, 3) := by decide +kernel
theorem dX8_keep_23 : decode cX8_keep 23 = .ok (.goto (-21), 3) := by decide +kernel
theorem dX8_keep_26 : decode cX8_keep 26 = .ok (.aload_n 0, 1) := by decide +kernel
theorem dX8_keep_27 : decode cX8_keep 27 = .ok (.iconst 1, 1) := by decide +kernel
theorem dX8_keep_28 : decode cX8_keep 28 = .ok (.putfield 168, 3) := by decide +kernel
theorem dX8_keep_31 : decode cX8_keep 31 = .ok (.aload_n 0, 1) := by decide +kernel
theorem dX8_keep_32 : decode cX8_keep 32 = .ok (.getfield 7, 3) := by decide +kernel
theorem dX8_keep_35 : decode cX8_keep 35 = .ok (.iconst 0, 1) := by decide +kernel
theorem dX8_keep_36 : decode cX8_keep 36 = .ok (.iaload, 1) := by decide +kernel
theorem dX8_keep_37 : decode cX8_keep 37 = .ok (.ireturn, 1) := by decide +kernel
theorem dX8_restore_0 : decode cX8_restore 0 = .ok (.aload_n 0, 1) := by decide +kernel
theorem dX8_restore_1 : decode cX8_restore 1 = .ok (.getfield 168, 3) := by decide +kernel
theorem dX8_restore_4 : decode cX8_restore 4 = .ok (.ifCond .ne 6, 3) := by decide +kernel
theorem dX8_restore_7 : decode cX8_restore 7 = .ok (.bipush (-5), 2) := by decide +kernel
theorem dX8_restore_9 : decode cX8_restore 9 = .ok (.ireturn, 1) := by decide +kernel
theorem dX8_restore_10 : decode cX8_restore 10 = .ok (.aload_n 0, 1) := by decide +kernel
theorem dX8_restore_11 : decode cX8_restore 11 = .ok (.invokevirtual 129, 3) := by decide +kernel
theorem dX8_restore_14 : decode cX8_restore 14 = .ok (.iconst 0, 1) := by decide +kernel
theorem dX8_restore_15 : decode cX8_restore 15 = .ok (.istore_n 1, 1) := by decide +kernel
theorem dX8_restore_16 : decode cX8_restore 16 = .ok (.iload_n 1, 1) := by decide +kernel
theorem dX8_restore_17 : decode cX8_restore 17 = .ok (.bipush 36, 2) := by decide +kernel
theorem dX8_restore_19 : decode cX8_restore 19 = .ok (.if_icmp .ge 21, 3) := by decide +kernel
theorem dX8_restore_22 : decode cX8_restore 22 = .ok (.aload_n 0, 1) := by decide +kernel
theorem dX8_restore_23 : decode cX8_restore 23 = .ok (.getfield 7, 3) := by decide +kernel
theorem dX8_restore_26 : decode cX8_restore 26 = .ok (.iload_n 1, 1) := by decide +kernel
theorem dX8_restore_27 : decode cX8_restore 27 = .ok (.aload_n 0, 1) := by decide +kernel
theorem dX8_restore_28 : decode cX8_restore 28 = .ok (.getfield 13, 3) := by decide +kernel
theorem dX8_restore_31 : decode cX8_restore 31 = .ok (.iload_n 1, 1) := by decide +kernel
theorem dX8_restore_32 : decode cX8_restore 32 = .ok (.iaload, 1) := by decide +kernel
theorem dX8_restore_33 : decode cX8_restore 33 = .ok (.iastore, 1) := by decide +kernel
theorem dX8_restore_34 : decode cX8_restore 34 = .ok (.iinc 1 1, 3) := by decide +kernel
theorem dX8_restore_37 : decode cX8_restore 37 = .ok (.goto (-21), 3) := by decide +kernel
theorem dX8_restore_40 : decode cX8_restore 40 = .ok (.aload_n 0, 1) := by decide +kernel
theorem dX8_restore_41 : decode cX8_restore 41 = .ok (.getfield 7, 3) := by decide +kernel
theorem dX8_restore_44 : decode cX8_restore 44 = .ok (.iconst 0, 1) := by decide +kernel
theorem dX8_restore_45 : decode cX8_restore 45 = .ok (.iaload, 1) := by decide +kernel
theorem dX8_restore_46 : decode cX8_restore 46 = .ok (.ireturn, 1) := by decide +kernel
theorem dX8_captainOf_0 : decode cX8_captainOf 0 = .ok (.iload_n 1, 1) := by decide +kernel
theorem dX8_captainOf_1 : decode cX8_captainOf 1 = .ok (.invokestatic 119, 3) := by decide +kernel
theorem dX8_captainOf_4 : decode cX8_captainOf 4 = .ok (.ifCond .ne 5, 3) := by decide +kernel
theorem dX8_captainOf_7 : decode cX8_captainOf 7 = .ok (.iconst (-1), 1) := by decide +kernel
theorem dX8_captainOf_8 : decode cX8_captainOf 8 = .ok (.ireturn, 1) := by decide +kernel
theorem dX8_captainOf_9 : decode cX8_captainOf 9 = .ok (.iload_n 2, 1) := by decide +kernel
theorem dX8_captainOf_10 : decode cX8_captainOf 10 = .ok (.iconst 0, 1) := by decide +kernel
theorem dX8_captainOf_11 : decode cX8_captainOf 11 = .ok (.iconst 3, 1) := by decide +kernel
theorem dX8_captainOf_12 : decode cX8_captainOf 12 = .ok (.invokestatic 51, 3) := by decide +kernel
theorem dX8_captainOf_15 : decode cX8_captainOf 15 = .ok (.ifCond .eq 10, 3) := by decide +kernel
theorem dX8_captainOf_18 : decode cX8_captainOf 18 = .ok (.aload_n 0, 1) := by decide +kernel
theorem dX8_captainOf_19 : decode cX8_captainOf 19 = .ok (.iload_n 1, 1) := by decide +kernel
theorem dX8_captainOf_20 : decode cX8_captainOf 20 = .ok (.iload_n 2, 1) := by decide +kernel
theorem dX8_captainOf_21 : decode cX8_captainOf 21 = .ok (.invokevirtual 55, 3) := by decide +kernel
theorem dX8_captainOf_24 : decode cX8_captainOf 24 = .ok (.ireturn, 1) := by decide +kernel
theorem dX8_captainOf_25 : decode cX8_captainOf 25 = .ok (.iload_n 2, 1) := by decide +kernel
theorem dX8_captainOf_26 : decode cX8_captainOf 26 = .ok (.iconst 4, 1) := by decide +kernel
theorem dX8_captainOf_27 : decode cX8_captainOf 27 = .ok (.if_icmp .ne 15, 3) := by decide +kernel
theorem dX8_captainOf_30 : decode cX8_captainOf 30 = .ok (.aload_n 0, 1) := by decide +kernel
theorem dX8_captainOf_31 : decode cX8_captainOf 31 = .ok (.iload_n 1, 1) := by decide +kernel
theorem dX8_captainOf_32 : decode cX8_captainOf 32 = .ok (.invokevirtual 65, 3) := by decide +kernel
theorem dX8_captainOf_35 : decode cX8_captainOf 35 = .ok (.aload_n 0, 1) := by decide +kernel
theorem dX8_captainOf_36 : decode cX8_captainOf 36 = .ok (.getfield 28, 3) := by decide +kernel
theorem dX8_captainOf_39 : decode cX8_captainOf 39 = .ok (.iload_n 1, 1) := by decide +kernel
theorem dX8_captainOf_40 : decode cX8_captainOf 40 = .ok (.iaload, 1) := by decide +kernel
theorem dX8_captainOf_41 : decode cX8_captainOf 41 = .ok (.ireturn, 1) := by decide +kernel
theorem dX8_captainOf_42 : decode cX8_captainOf 42 = .ok (.iload_n 2, 1) := by decide +kernel
theorem dX8_captainOf_43 : decode cX8_captainOf 43 = .ok (.iconst 5, 1) := by decide +kernel
theorem dX8_captainOf_44 : decode cX8_captainOf 44 = .ok (.bipush 10, 2) := by decide +kernel
theorem dX8_captainOf_46 : decode cX8_captainOf 46 = .ok (.invokestatic 51, 3) := by decide +kernel
theorem dX8_captainOf_49 : decode cX8_captainOf 49 = .ok (.ifCond .eq 16, 3) := by decide +kernel
theorem dX8_captainOf_52 : decode cX8_captainOf 52 = .ok (.aload_n 0, 1) := by decide +kernel
theorem dX8_captainOf_53 : decode cX8_captainOf 53 = .ok (.iload_n 1, 1) := by decide +kernel
theorem dX8_captainOf_54 : decode cX8_captainOf 54 = .ok (.iconst 4, 1) := by decide +kernel
theorem dX8_captainOf_55 : decode cX8_captainOf 55 = .ok (.iload_n 2, 1) := by decide +kernel
theorem dX8_captainOf_56 : decode cX8_captainOf 56 = .ok (.iadd, 1) := by decide +kernel
theorem dX8_captainOf_57 : decode cX8_captainOf 57 = .ok (.iconst 5, 1) := by decide +kernel
theorem dX8_captainOf_58 : decode cX8_captainOf 58 = .ok (.isub, 1) := by decide +kernel
theorem dX8_captainOf_59 : decode cX8_captainOf 59 = .ok (.invokevirtual 55, 3) := by decide +kernel
theorem dX8_captainOf_62 : decode cX8_captainOf 62 = .ok (.goto 5, 3) := by decide +kernel
theorem dX8_captainOf_65 : decode cX8_captainOf 65 = .ok (.bipush (-2), 2) := by decide +kernel
theorem dX8_captainOf_67 : decode cX8_captainOf 67 = .ok (.ireturn, 1) := by decide +kernel
theorem dX8_printed_0 : decode cX8_printed 0 = .ok (.iload_n 1, 1) := by decide +kernel
theorem dX8_printed_1 : decode cX8_printed 1 = .ok (.invokestatic 119, 3) := by decide +kernel
theorem dX8_printed_4 : decode cX8_printed 4 = .ok (.ifCond .ne 5, 3) := by decide +kernel
theorem dX8_printed_7 : decode cX8_printed 7 = .ok (.iconst (-1), 1) := by decide +kernel
theorem dX8_printed_8 : decode cX8_printed 8 = .ok (.ireturn, 1) := by decide +kernel
theorem dX8_printed_9 : decode cX8_printed 9 = .ok (.aload_n 0, 1) := by decide +kernel
theorem dX8_printed_10 : decode cX8_printed 10 = .ok (.iload_n 1, 1) := by decide +kernel
theorem dX8_printed_11 : decode cX8_printed 11 = .ok (.invokevirtual 65, 3) := by decide +kernel
theorem dX8_printed_14 : decode cX8_printed 14 = .ok (.iload_n 2, 1) := by decide +kernel
theorem dX8_printed_15 : decode cX8_printed 15 = .ok (.iconst 0, 1) := by decide +kernel
theorem dX8_printed_16 : decode cX8_printed 16 = .ok (.aload_n 0, 1) := by decide +kernel
theorem dX8_printed_17 : decode cX8_printed 17 = .ok (.getfield 28, 3) := by decide +kernel
theorem dX8_printed_20 : decode cX8_printed 20 = .ok (.iload_n 1, 1) := by decide +kernel
theorem dX8_printed_21 : decode cX8_printed 21 = .ok (.iaload, 1) := by decide +kernel
theorem dX8_printed_22 : decode cX8_printed 22 = .ok (.iconst 1, 1) := by decide +kernel
theorem dX8_printed_23 : decode cX8_printed 23 = .ok (.isub, 1) := by decide +kernel
theorem dX8_printed_24 : decode cX8_printed 24 = .ok (.invokestatic 51, 3) := by decide +kernel
theorem dX8_printed_27 : decode cX8_printed 27 = .ok (.ifCond .ne 5, 3) := by decide +kernel
theorem dX8_printed_30 : decode cX8_printed 30 = .ok (.iconst (-1), 1) := by decide +kernel
theorem dX8_printed_31 : decode cX8_printed 31 = .ok (.ireturn, 1) := by decide +kernel
theorem dX8_printed_32 : decode cX8_printed 32 = .ok (.iload_n 3, 1) := by decide +kernel
theorem dX8_printed_33 : decode cX8_printed 33 = .ok (.ifCond .ne 12, 3) := by decide +kernel
theorem dX8_printed_36 : decode cX8_printed 36 = .ok (.aload_n 0, 1) := by decide +kernel
theorem dX8_printed_37 : decode cX8_printed 37 = .ok (.iload_n 1, 1) := by decide +kernel
theorem dX8_printed_38 : decode cX8_printed 38 = .ok (.iload_n 2, 1) := by decide +kernel
theorem dX8_printed_39 : decode cX8_printed 39 = .ok (.invokevirtual 69, 3) := by decide +kernel
theorem dX8_printed_42 : decode cX8_printed 42 = .ok (.goto 19, 3) := by decide +kernel
theorem dX8_printed_45 : decode cX8_printed 45 = .ok (.iload_n 3, 1) := by decide +kernel
theorem dX8_printed_46 : decode cX8_printed 46 = .ok (.iconst 1, 1) := by decide +kernel
theorem dX8_printed_47 : decode cX8_printed 47 = .ok (.if_icmp .ne 12, 3) := by decide +kernel
theorem dX8_printed_50 : decode cX8_printed 50 = .ok (.aload_n 0, 1) := by decide +kernel
theorem dX8_printed_51 : decode cX8_printed 51 = .ok (.iload_n 1, 1) := by decide +kernel
theorem dX8_printed_52 : decode cX8_printed 52 = .ok (.iload_n 2, 1) := by decide +kernel
theorem dX8_printed_53 : decode cX8_printed 53 = .ok (.invokevirtual 72, 3) := by decide +kernel
theorem dX8_printed_56 : decode cX8_printed 56 = .ok (.goto 5, 3) := by decide +kernel
theorem dX8_printed_59 : decode cX8_printed 59 = .ok (.bipush (-2), 2) := by decide +kernel
theorem dX8_printed_61 : decode cX8_printed 61 = .ok (.ireturn, 1) := by decide +kernel
theorem dX8_level_0 : decode cX8_level 0 = .ok (.iload_n 1, 1) := by decide +kernel
theorem dX8_level_1 : decode cX8_level 1 = .ok (.iconst 0, 1) := by decide +kernel
theorem dX8_level_2 : decode cX8_level 2 = .ok (.iconst 3, 1) := by decide +kernel
theorem dX8_level_3 : decode cX8_level 3 = .ok (.invokestatic 51, 3) := by decide +kernel
theorem dX8_level_6 : decode cX8_level 6 = .ok (.ifCond .eq 13, 3) := by decide +kernel
theorem dX8_level_9 : decode cX8_level 9 = .ok (.iload_n 2, 1) := by decide +kernel
theorem dX8_level_10 : decode cX8_level 10 = .ok (.iconst 0, 1) := by decide +kernel
theorem dX8_level_11 : decode cX8_level 11 = .ok (.bipush 23, 2) := by decide +kernel
theorem dX8_level_13 : decode cX8_level 13 = .ok (.invokestatic 51, 3) := by decide +kernel
theorem dX8_level_16 : decode cX8_level 16 = .ok (.ifCond .ne 5, 3) := by decide +kernel
theorem dX8_level_19 : decode cX8_level 19 = .ok (.iconst (-1), 1) := by decide +kernel
theorem dX8_level_20 : decode cX8_level 20 = .ok (.ireturn, 1) := by decide +kernel
theorem dX8_level_21 : decode cX8_level 21 = .ok (.iload_n 3, 1) := by decide +kernel
theorem dX8_level_22 : decode cX8_level 22 = .ok (.iconst 0, 1) := by decide +kernel
theorem dX8_level_23 : decode cX8_level 23 = .ok (.iconst 1, 1) := by decide +kernel
theorem dX8_level_24 : decode cX8_level 24 = .ok (.invokestatic 51, 3) := by decide +kernel
theorem dX8_level_27 : decode cX8_level 27 = .ok (.ifCond .eq 30, 3) := by decide +kernel
theorem dX8_level_30 : decode cX8_level 30 = .ok (.iload_n 1, 1) := by decide +kernel
theorem dX8_level_31 : decode cX8_level 31 = .ok (.iconst 3, 1) := by decide +kernel
theorem dX8_level_32 : decode cX8_level 32 = .ok (.if_icmp .ne 12, 3) := by decide +kernel
theorem dX8_level_35 : decode cX8_level 35 = .ok (.aload_n 0, 1) := by decide +kernel
theorem dX8_level_36 : decode cX8_level 36 = .ok (.getfield 7, 3) := by decide +kernel
theorem dX8_level_39 : decode cX8_level 39 = .ok (.iconst 1, 1) := by decide +kernel
theorem dX8_level_40 : decode cX8_level 40 = .ok (.iaload, 1) := by decide +kernel
theorem dX8_level_41 : decode cX8_level 41 = .ok (.goto 9, 3) := by decide +kernel
theorem dX8_level_44 : decode cX8_level 44 = .ok (.aload_n 0, 1) := by decide +kernel
theorem dX8_level_45 : decode cX8_level 45 = .ok (.iload_n 1, 1) := by decide +kernel
theorem dX8_level_46 : decode cX8_level 46 = .ok (.iconst 0, 1) := by decide +kernel
theorem dX8_level_47 : decode cX8_level 47 = .ok (.invokevirtual 55, 3) := by decide +kernel
theorem dX8_level_50 : decode cX8_level 50 = .ok (.iload_n 2, 1) := by decide +kernel
theorem dX8_level_51 : decode cX8_level 51 = .ok (.invokestatic 59, 3) := by decide +kernel
theorem dX8_level_54 : decode cX8_level 54 = .ok (.goto 5, 3) := by decide +kernel
theorem dX8_level_57 : decode cX8_level 57 = .ok (.bipush (-2), 2) := by decide +kernel
theorem dX8_level_59 : decode cX8_level 59 = .ok (.ireturn, 1) := by decide +kernel
theorem dX8_uses_0 : decode cX8_uses 0 = .ok (.iload_n 1, 1) := by decide +kernel
theorem dX8_uses_1 : decode cX8_uses 1 = .ok (.iconst 0, 1) := by decide +kernel
theorem dX8_uses_2 : decode cX8_uses 2 = .ok (.iconst 1, 1) := by decide +kernel
theorem dX8_uses_3 : decode cX8_uses 3 = .ok (.invokestatic 51, 3) := by decide +kernel
theorem dX8_uses_6 : decode cX8_uses 6 = .ok (.ifCond .eq 13, 3) := by decide +kernel
theorem dX8_uses_9 : decode cX8_uses 9 = .ok (.iload_n 2, 1) := by decide +kernel
theorem dX8_uses_10 : decode cX8_uses 10 = .ok (.iconst 0, 1) := by decide +kernel
theorem dX8_uses_11 : decode cX8_uses 11 = .ok (.bipush 23, 2) := by decide +kernel
theorem dX8_uses_13 : decode cX8_uses 13 = .ok (.invokestatic 51, 3) := by decide +kernel
theorem dX8_uses_16 : decode cX8_uses 16 = .ok (.ifCond .ne 5, 3) := by decide +kernel
theorem dX8_uses_19 : decode cX8_uses 19 = .ok (.iconst (-1), 1) := by decide +kernel
theorem dX8_uses_20 : decode cX8_uses 20 = .ok (.ireturn, 1) := by decide +kernel
theorem dX8_uses_21 : decode cX8_uses 21 = .ok (.aload_n 0, 1) := by decide +kernel
theorem dX8_uses_22 : decode cX8_uses 22 = .ok (.invokevirtual 110, 3) := by decide +kernel
theorem dX8_uses_25 : decode cX8_uses 25 = .ok (.aload_n 0, 1) := by decide +kernel
theorem dX8_uses_26 : decode cX8_uses 26 = .ok (.iload_n 1, 1) := by decide +kernel
theorem dX8_uses_27 : decode cX8_uses 27 = .ok (.iload_n 2, 1) := by decide +kernel
theorem dX8_uses_28 : decode cX8_uses 28 = .ok (.invokevirtual 78, 3) := by decide +kernel
theorem dX8_uses_31 : decode cX8_uses 31 = .ok (.ireturn, 1) := by decide +kernel
theorem dX8_clash_0 : decode cX8_clash 0 = .ok (.aload_n 0, 1) := by decide +kernel
theorem dX8_clash_1 : decode cX8_clash 1 = .ok (.invokevirtual 110, 3) := by decide +kernel
theorem dX8_clash_4 : decode cX8_clash 4 = .ok (.iload_n 1, 1) := by decide +kernel
theorem dX8_clash_5 : decode cX8_clash 5 = .ok (.istore_n 3, 1) := by decide +kernel
theorem dX8_clash_6 : decode cX8_clash 6 = .ok (.iconst 0, 1) := by decide +kernel
theorem dX8_clash_7 : decode cX8_clash 7 = .ok (.istore 4, 2) := by decide +kernel
theorem dX8_clash_9 : decode cX8_clash 9 = .ok (.iload 4, 2) := by decide +kernel
theorem dX8_clash_11 : decode cX8_clash 11 = .ok (.bipush 48, 2) := by decide +kernel
theorem dX8_clash_13 : decode cX8_clash 13 = .ok (.if_icmp .ge 84, 3) := by decide +kernel
theorem dX8_clash_16 : decode cX8_clash 16 = .ok (.iload_n 3, 1) := by decide +kernel
theorem dX8_clash_17 : decode cX8_clash 17 = .ok (.ifCond .lt 80, 3) := by decide +kernel
theorem dX8_clash_20 : decode cX8_clash 20 = .ok (.aload_n 0, 1) := by decide +kernel
theorem dX8_clash_21 : decode cX8_clash 21 = .ok (.iload 4, 2) := by decide +kernel
theorem dX8_clash_23 : decode cX8_clash 23 = .ok (.iconst 2, 1) := by decide +kernel
theorem dX8_clash_24 : decode cX8_clash 24 = .ok (.irem, 1) := by decide +kernel
theorem dX8_clash_25 : decode cX8_clash 25 = .ok (.iload 4, 2) := by decide +kernel
theorem dX8_clash_27 : decode cX8_clash 27 = .ok (.iconst 2, 1) := by decide +kernel
theorem dX8_clash_28 : decode cX8_clash 28 = .ok (.idiv, 1) := by decide +kernel
theorem dX8_clash_29 : decode cX8_clash 29 = .ok (.invokevirtual 78, 3) := by decide +kernel
theorem dX8_clash_32 : decode cX8_clash 32 = .ok (.istore 5, 2) := by decide +kernel
theorem dX8_clash_34 : decode cX8_clash 34 = .ok (.iload_n 3, 1) := by decide +kernel
theorem dX8_clash_35 : decode cX8_clash 35 = .ok (.iload 5, 2) := by decide +kernel
theorem dX8_clash_37 : decode cX8_clash 37 = .ok (.invokestatic 81, 3) := by decide +kernel
theorem dX8_clash_40 : decode cX8_clash 40 = .ok (.iconst 1, 1) := by decide +kernel
theorem dX8_clash_41 : decode cX8_clash 41 = .ok (.if_icmp .le 7, 3) := by decide +kernel
theorem dX8_clash_44 : decode cX8_clash 44 = .ok (.iconst 1, 1) := by decide +kernel
theorem dX8_clash_45 : decode cX8_clash 45 = .ok (.goto 4, 3) := by decide +kernel
theorem dX8_clash_48 : decode cX8_clash 48 = .ok (.iconst 0, 1) := by decide +kernel
theorem dX8_clash_49 : decode cX8_clash 49 = .ok (.isub, 1) := by decide +kernel
theorem dX8_clash_50 : decode cX8_clash 50 = .ok (.istore_n 3, 1) := by decide +kernel
theorem dX8_clash_51 : decode cX8_clash 51 = .ok (.iload_n 3, 1) := by decide +kernel
theorem dX8_clash_52 : decode cX8_clash 52 = .ok (.ifCond .ge 39, 3) := by decide +kernel
theorem dX8_clash_55 : decode cX8_clash 55 = .ok (.iload_n 2, 1) := by decide +kernel
theorem dX8_clash_56 : decode cX8_clash 56 = .ok (.ifCond .ne 10, 3) := by decide +kernel
theorem dX8_clash_59 : decode cX8_clash 59 = .ok (.iload 4, 2) := by decide +kernel
theorem dX8_clash_61 : decode cX8_clash 61 = .ok (.iconst 2, 1) := by decide +kernel
theorem dX8_clash_62 : decode cX8_clash 62 = .ok (.idiv, 1) := by decide +kernel
theorem dX8_clash_63 : decode cX8_clash 63 = .ok (.goto 27, 3) := by decide +kernel
theorem dX8_clash_66 : decode cX8_clash 66 = .ok (.iload_n 2, 1) := by decide +kernel
theorem dX8_clash_67 : decode cX8_clash 67 = .ok (.iconst 1, 1) := by decide +kernel
theorem dX8_clash_68 : decode cX8_clash 68 = .ok (.if_icmp .ne 10, 3) := by decide +kernel
theorem dX8_clash_71 : decode cX8_clash 71 = .ok (.iload 4, 2) := by decide +kernel
theorem dX8_clash_73 : decode cX8_clash 73 = .ok (.iconst 2, 1) := by decide +kernel
theorem dX8_clash_74 : decode cX8_clash 74 = .ok (.irem, 1) := by decide +kernel
theorem dX8_clash_75 : decode cX8_clash 75 = .ok (.goto 15, 3) := by decide +kernel
theorem dX8_clash_78 : decode cX8_clash 78 = .ok (.iload_n 2, 1) := by decide +kernel
theorem dX8_clash_79 : decode cX8_clash 79 = .ok (.iconst 2, 1) := by decide +kernel
theorem dX8_clash_80 : decode cX8_clash 80 = .ok (.if_icmp .ne 8, 3) := by decide +kernel
theorem dX8_clash_83 : decode cX8_clash 83 = .ok (.iload 5, 2) := by decide +kernel
theorem dX8_clash_85 : decode cX8_clash 85 = .ok (.goto 5, 3) := by decide +kernel
theorem dX8_clash_88 : decode cX8_clash 88 = .ok (.bipush (-2), 2) := by decide +kernel
theorem dX8_clash_90 : decode cX8_clash 90 = .ok (.ireturn, 1) := by decide +kernel
theorem dX8_clash_91 : decode cX8_clash 91 = .ok (.iinc 4 1, 3) := by decide +kernel
theorem dX8_clash_94 : decode cX8_clash 94 = .ok (.goto (-85), 3) := by decide +kernel
theorem dX8_clash_97 : decode cX8_clash 97 = .ok (.iconst (-1), 1) := by decide +kernel
theorem dX8_clash_98 : decode cX8_clash 98 = .ok (.ireturn, 1) := by decide +kernel
theorem dX8_hours_0 : decode cX8_hours 0 = .ok (.iload_n 1, 1) := by decide +kernel
theorem dX8_hours_1 : decode cX8_hours 1 = .ok (.invokestatic 119, 3) := by decide +kernel
theorem dX8_hours_4 : decode cX8_hours 4 = .ok (.ifCond .ne 5, 3) := by decide +kernel
theorem dX8_hours_7 : decode cX8_hours 7 = .ok (.iconst (-1), 1) := by decide +kernel
theorem dX8_hours_8 : decode cX8_hours 8 = .ok (.ireturn, 1) := by decide +kernel
theorem dX8_hours_9 : decode cX8_hours 9 = .ok (.iload_n 2, 1) := by decide +kernel
theorem dX8_hours_10 : decode cX8_hours 10 = .ok (.iconst 0, 1) := by decide +kernel
theorem dX8_hours_11 : decode cX8_hours 11 = .ok (.iconst 2, 1) := by decide +kernel
theorem dX8_hours_12 : decode cX8_hours 12 = .ok (.invokestatic 51, 3) := by decide +kernel
theorem dX8_hours_15 : decode cX8_hours 15 = .ok (.ifCond .ne 6, 3) := by decide +kernel
theorem dX8_hours_18 : decode cX8_hours 18 = .ok (.bipush (-2), 2) := by decide +kernel
theorem dX8_hours_20 : decode cX8_hours 20 = .ok (.ireturn, 1) := by decide +kernel
theorem dX8_hours_21 : decode cX8_hours 21 = .ok (.iconst 0, 1) := by decide +kernel
theorem dX8_hours_22 : decode cX8_hours 22 = .ok (.istore_n 3, 1) := by decide +kernel
theorem dX8_hours_23 : decode cX8_hours 23 = .ok (.iconst 0, 1) := by decide +kernel
theorem dX8_hours_24 : decode cX8_hours 24 = .ok (.istore 4, 2) := by decide +kernel
theorem dX8_hours_26 : decode cX8_hours 26 = .ok (.iconst 0, 1) := by decide +kernel
theorem dX8_hours_27 : decode cX8_hours 27 = .ok (.istore 5, 2) := by decide +kernel
theorem dX8_hours_29 : decode cX8_hours 29 = .ok (.iload 5, 2) := by decide +kernel
theorem dX8_hours_31 : decode cX8_hours 31 = .ok (.bipush 24, 2) := by decide +kernel
theorem dX8_hours_33 : decode cX8_hours 33 = .ok (.if_icmp .ge 65, 3) := by decide +kernel
theorem dX8_hours_36 : decode cX8_hours 36 = .ok (.iload_n 3, 1) := by decide +kernel
theorem dX8_hours_37 : decode cX8_hours 37 = .ok (.aload_n 0, 1) := by decide +kernel
theorem dX8_hours_38 : decode cX8_hours 38 = .ok (.iload_n 1, 1) := by decide +kernel
theorem dX8_hours_39 : decode cX8_hours 39 = .ok (.aload_n 0, 1) := by decide +kernel
theorem dX8_hours_40 : decode cX8_hours 40 = .ok (.iload_n 1, 1) := by decide +kernel
theorem dX8_hours_41 : decode cX8_hours 41 = .ok (.iconst 0, 1) := by decide +kernel
theorem dX8_hours_42 : decode cX8_hours 42 = .ok (.invokevirtual 55, 3) := by decide +kernel
theorem dX8_hours_45 : decode cX8_hours 45 = .ok (.iload 5, 2) := by decide +kernel
theorem dX8_hours_47 : decode cX8_hours 47 = .ok (.invokevirtual 62, 3) := by decide +kernel
theorem dX8_hours_50 : decode cX8_hours 50 = .ok (.ifCond .eq 10, 3) := by decide +kernel
theorem dX8_hours_53 : decode cX8_hours 53 = .ok (.iconst 1, 1) := by decide +kernel
theorem dX8_hours_54 : decode cX8_hours 54 = .ok (.iload 5, 2) := by decide +kernel
theorem dX8_hours_56 : decode cX8_hours 56 = .ok (.ishl, 1) := by decide +kernel
theorem dX8_hours_57 : decode cX8_hours 57 = .ok (.goto 4, 3) := by decide +kernel
theorem dX8_hours_60 : decode cX8_hours 60 = .ok (.iconst 0, 1) := by decide +kernel
theorem dX8_hours_61 : decode cX8_hours 61 = .ok (.ior, 1) := by decide +kernel
theorem dX8_hours_62 : decode cX8_hours 62 = .ok (.istore_n 3, 1) := by decide +kernel
theorem dX8_hours_63 : decode cX8_hours 63 = .ok (.iload 4, 2) := by decide +kernel
theorem dX8_hours_65 : decode cX8_hours 65 = .ok (.aload_n 0, 1) := by decide +kernel
theorem dX8_hours_66 : decode cX8_hours 66 = .ok (.iload_n 1, 1) := by decide +kernel
theorem dX8_hours_67 : decode cX8_hours 67 = .ok (.aload_n 0, 1) := by decide +kernel
theorem dX8_hours_68 : decode cX8_hours 68 = .ok (.getfield 7, 3) := by decide +kernel
theorem dX8_hours_71 : decode cX8_hours 71 = .ok (.iconst 1, 1) := by decide +kernel
theorem dX8_hours_72 : decode cX8_hours 72 = .ok (.iaload, 1) := by decide +kernel
theorem dX8_hours_73 : decode cX8_hours 73 = .ok (.iload 5, 2) := by decide +kernel
theorem dX8_hours_75 : decode cX8_hours 75 = .ok (.invokevirtual 62, 3) := by decide +kernel
theorem dX8_hours_78 : decode cX8_hours 78 = .ok (.ifCond .eq 10, 3) := by decide +kernel
theorem dX8_hours_81 : decode cX8_hours 81 = .ok (.iconst 1, 1) := by decide +kernel
theorem dX8_hours_82 : decode cX8_hours 82 = .ok (.iload 5, 2) := by decide +kernel
theorem dX8_hours_84 : decode cX8_hours 84 = .ok (.ishl, 1) := by decide +kernel
theorem dX8_hours_85 : decode cX8_hours 85 = .ok (.goto 4, 3) := by decide +kernel
theorem dX8_hours_88 : decode cX8_hours 88 = .ok (.iconst 0, 1) := by decide +kernel
theorem dX8_hours_89 : decode cX8_hours 89 = .ok (.ior, 1) := by decide +kernel
theorem dX8_hours_90 : decode cX8_hours 90 = .ok (.istore 4, 2) := by decide +kernel
theorem dX8_hours_92 : decode cX8_hours 92 = .ok (.iinc 5 1, 3) := by decide +kernel
theorem dX8_hours_95 : decode cX8_hours 95 = .ok (.goto (-66), 3) := by decide +kernel
theorem dX8_hours_98 : decode cX8_hours 98 = .ok (.iload_n 2, 1) := by decide +kernel
theorem dX8_hours_99 : decode cX8_hours 99 = .ok (.ifCond .ne 7, 3) := by decide +kernel
theorem dX8_hours_102 : decode cX8_hours 102 = .ok (.iload_n 3, 1) := by decide +kernel
theorem dX8_hours_103 : decode cX8_hours 103 = .ok (.goto 17, 3) := by decide +kernel
theorem dX8_hours_106 : decode cX8_hours 106 = .ok (.iload_n 2, 1) := by decide +kernel
theorem dX8_hours_107 : decode cX8_hours 107 = .ok (.iconst 1, 1) := by decide +kernel
theorem dX8_hours_108 : decode cX8_hours 108 = .ok (.if_icmp .ne 8, 3) := by decide +kernel
theorem dX8_hours_111 : decode cX8_hours 111 = .ok (.iload 4, 2) := by decide +kernel
theorem dX8_hours_113 : decode cX8_hours 113 = .ok (.goto 7, 3) := by decide +kernel
theorem dX8_hours_116 : decode cX8_hours 116 = .ok (.iload_n 3, 1) := by decide +kernel
theorem dX8_hours_117 : decode cX8_hours 117 = .ok (.iload 4, 2) := by decide +kernel
theorem dX8_hours_119 : decode cX8_hours 119 = .ok (.ixor, 1) := by decide +kernel
theorem dX8_hours_120 : decode cX8_hours 120 = .ok (.ireturn, 1) := by decide +kernel
theorem dX8_count_0 : decode cX8_count 0 = .ok (.aload_n 0, 1) := by decide +kernel
theorem dX8_count_1 : decode cX8_count 1 = .ok (.invokevirtual 110, 3) := by decide +kernel
theorem dX8_count_4 : decode cX8_count 4 = .ok (.iload_n 1, 1) := by decide +kernel
theorem dX8_count_5 : decode cX8_count 5 = .ok (.tableswitch 173 0 13 #[71, 78, 85, 92, 97, 118, 124, 131, 138, 144, 151, 156, 161, 161], 71) := by decide +kernel
theorem dX8_count_76 : decode cX8_count 76 = .ok (.aload_n 0, 1) := by decide +kernel
theorem dX8_count_77 : decode cX8_count 77 = .ok (.getfield 7, 3) := by decide +kernel
theorem dX8_count_80 : decode cX8_count 80 = .ok (.iconst 0, 1) := by decide +kernel
theorem dX8_count_81 : decode cX8_count 81 = .ok (.iaload, 1) := by decide +kernel
theorem dX8_count_82 : decode cX8_count 82 = .ok (.ireturn, 1) := by decide +kernel
theorem dX8_count_83 : decode cX8_count 83 = .ok (.aload_n 0, 1) := by decide +kernel
theorem dX8_count_84 : decode cX8_count 84 = .ok (.getfield 7, 3) := by decide +kernel
theorem dX8_count_87 : decode cX8_count 87 = .ok (.iconst 1, 1) := by decide +kernel
theorem dX8_count_88 : decode cX8_count 88 = .ok (.iaload, 1) := by decide +kernel
theorem dX8_count_89 : decode cX8_count 89 = .ok (.ireturn, 1) := by decide +kernel
theorem dX8_count_90 : decode cX8_count 90 = .ok (.aload_n 0, 1) := by decide +kernel
theorem dX8_count_91 : decode cX8_count 91 = .ok (.getfield 7, 3) := by decide +kernel
theorem dX8_count_94 : decode cX8_count 94 = .ok (.iconst 2, 1) := by decide +kernel
theorem dX8_count_95 : decode cX8_count 95 = .ok (.iaload, 1) := by decide +kernel
theorem dX8_count_96 : decode cX8_count 96 = .ok (.ireturn, 1) := by decide +kernel
theorem dX8_count_97 : decode cX8_count 97 = .ok (.aload_n 0, 1) := by decide +kernel
theorem dX8_count_98 : decode cX8_count 98 = .ok (.invokevirtual 172, 3) := by decide +kernel
theorem dX8_count_101 : decode cX8_count 101 = .ok (.ireturn, 1) := by decide +kernel
theorem dX8_count_102 : decode cX8_count 102 = .ok (.aload_n 0, 1) := by decide +kernel
theorem dX8_count_103 : decode cX8_count 103 = .ok (.getfield 28, 3) := by decide +kernel
theorem dX8_count_106 : decode cX8_count 106 = .ok (.iconst 0, 1) := by decide +kernel
theorem dX8_count_107 : decode cX8_count 107 = .ok (.iaload, 1) := by decide +kernel
theorem dX8_count_108 : decode cX8_count 108 = .ok (.aload_n 0, 1) := by decide +kernel
theorem dX8_count_109 : decode cX8_count 109 = .ok (.getfield 28, 3) := by decide +kernel
theorem dX8_count_112 : decode cX8_count 112 = .ok (.iconst 1, 1) := by decide +kernel
theorem dX8_count_113 : decode cX8_count 113 = .ok (.iaload, 1) := by decide +kernel
theorem dX8_count_114 : decode cX8_count 114 = .ok (.iadd, 1) := by decide +kernel
theorem dX8_count_115 : decode cX8_count 115 = .ok (.aload_n 0, 1) := by decide +kernel
theorem dX8_count_116 : decode cX8_count 116 = .ok (.getfield 28, 3) := by decide +kernel
theorem dX8_count_119 : decode cX8_count 119 = .ok (.iconst 2, 1) := by decide +kernel
theorem dX8_count_120 : decode cX8_count 120 = .ok (.iaload, 1) := by decide +kernel
theorem dX8_count_121 : decode cX8_count 121 = .ok (.iadd, 1) := by decide +kernel
theorem dX8_count_122 : decode cX8_count 122 = .ok (.ireturn, 1) := by decide +kernel
theorem dX8_count_123 : decode cX8_count 123 = .ok (.aload_n 0, 1) := by decide +kernel
theorem dX8_count_124 : decode cX8_count 124 = .ok (.iconst 4, 1) := by decide +kernel
theorem dX8_count_125 : decode cX8_count 125 = .ok (.invokevirtual 136, 3) := by decide +kernel
theorem dX8_count_128 : decode cX8_count 128 = .ok (.ireturn, 1) := by decide +kernel
theorem dX8_count_129 : decode cX8_count 129 = .ok (.aload_n 0, 1) := by decide +kernel
theorem dX8_count_130 : decode cX8_count 130 = .ok (.bipush 8, 2) := by decide +kernel
theorem dX8_count_132 : decode cX8_count 132 = .ok (.invokevirtual 136, 3) := by decide +kernel
theorem dX8_count_135 : decode cX8_count 135 = .ok (.ireturn, 1) := by decide +kernel
theorem dX8_count_136 : decode cX8_count 136 = .ok (.aload_n 0, 1) := by decide +kernel
theorem dX8_count_137 : decode cX8_count 137 = .ok (.getfield 7, 3) := by decide +kernel
theorem dX8_count_140 : decode cX8_count 140 = .ok (.iconst 5, 1) := by decide +kernel
theorem dX8_count_141 : decode cX8_count 141 = .ok (.iaload, 1) := by decide +kernel
theorem dX8_count_142 : decode cX8_count 142 = .ok (.ireturn, 1) := by decide +kernel
theorem dX8_count_143 : decode cX8_count 143 = .ok (.aload_n 0, 1) := by decide +kernel
theorem dX8_count_144 : decode cX8_count 144 = .ok (.iconst 5, 1) := by decide +kernel
theorem dX8_count_145 : decode cX8_count 145 = .ok (.invokevirtual 136, 3) := by decide +kernel
theorem dX8_count_148 : decode cX8_count 148 = .ok (.ireturn, 1) := by decide +kernel
theorem dX8_count_149 : decode cX8_count 149 = .ok (.aload_n 0, 1) := by decide +kernel
theorem dX8_count_150 : decode cX8_count 150 = .ok (.bipush 6, 2) := by decide +kernel
theorem dX8_count_152 : decode cX8_count 152 = .ok (.invokevirtual 136, 3) := by decide +kernel
theorem dX8_count_155 : decode cX8_count 155 = .ok (.ireturn, 1) := by decide +kernel
theorem dX8_count_156 : decode cX8_count 156 = .ok (.aload_n 0, 1) := by decide +kernel
theorem dX8_count_157 : decode cX8_count 157 = .ok (.getfield 47, 3) := by decide +kernel
theorem dX8_count_160 : decode cX8_count 160 = .ok (.ireturn, 1) := by decide +kernel
theorem dX8_count_161 : decode cX8_count 161 = .ok (.aload_n 0, 1) := by decide +kernel
theorem dX8_count_162 : decode cX8_count 162 = .ok (.getfield 142, 3) := by decide +kernel
theorem dX8_count_165 : decode cX8_count 165 = .ok (.ireturn, 1) := by decide +kernel
theorem dX8_count_166 : decode cX8_count 166 = .ok (.aload_n 0, 1) := by decide +kernel
theorem dX8_count_167 : decode cX8_count 167 = .ok (.getfield 7, 3) := by decide +kernel
theorem dX8_count_170 : decode cX8_count 170 = .ok (.iconst 3, 1) := by decide +kernel
theorem dX8_count_171 : decode cX8_count 171 = .ok (.iload_n 1, 1) := by decide +kernel
theorem dX8_count_172 : decode cX8_count 172 = .ok (.iadd, 1) := by decide +kernel
theorem dX8_count_173 : decode cX8_count 173 = .ok (.bipush 12, 2) := by decide +kernel
theorem dX8_count_175 : decode cX8_count 175 = .ok (.isub, 1) := by decide +kernel
theorem dX8_count_176 : decode cX8_count 176 = .ok (.iaload, 1) := by decide +kernel
theorem dX8_count_177 : decode cX8_count 177 = .ok (.ireturn, 1) := by decide +kernel
theorem dX8_count_178 : decode cX8_count 178 = .ok (.bipush (-2), 2) := by decide +kernel
theorem dX8_count_180 : decode cX8_count 180 = .ok (.ireturn, 1) := by decide +kernel
theorem dX8_made_0 : decode cX8_made 0 = .ok (.aload_n 0, 1) := by decide +kernel
theorem dX8_made_1 : decode cX8_made 1 = .ok (.iconst 4, 1) := by decide +kernel
theorem dX8_made_2 : decode cX8_made 2 = .ok (.invokevirtual 136, 3) := by decide +kernel
theorem dX8_made_5 : decode cX8_made 5 = .ok (.aload_n 0, 1) := by decide +kernel
theorem dX8_made_6 : decode cX8_made 6 = .ok (.bipush 8, 2) := by decide +kernel
theorem dX8_made_8 : decode cX8_made 8 = .ok (.invokevirtual 136, 3) := by decide +kernel
theorem dX8_made_11 : decode cX8_made 11 = .ok (.iadd, 1) := by decide +kernel
theorem dX8_made_12 : decode cX8_made 12 = .ok (.istore_n 1, 1) := by decide +kernel
theorem dX8_made_13 : decode cX8_made 13 = .ok (.iload_n 1, 1) := by decide +kernel
theorem dX8_made_14 : decode cX8_made 14 = .ok (.ifCond .ne 7, 3) := by decide +kernel
theorem dX8_made_17 : decode cX8_made 17 = .ok (.fconst 1, 1) := by decide +kernel
theorem dX8_made_18 : decode cX8_made 18 = .ok (.goto 12, 3) := by decide +kernel
theorem dX8_made_21 : decode cX8_made 21 = .ok (.aload_n 0, 1) := by decide +kernel
theorem dX8_made_22 : decode cX8_made 22 = .ok (.iconst 4, 1) := by decide +kernel
theorem dX8_made_23 : decode cX8_made 23 = .ok (.invokevirtual 136, 3) := by decide +kernel
theorem dX8_made_26 : decode cX8_made 26 = .ok (.i2f, 1) := by decide +kernel
theorem dX8_made_27 : decode cX8_made 27 = .ok (.iload_n 1, 1) := by decide +kernel
theorem dX8_made_28 : decode cX8_made 28 = .ok (.i2f, 1) := by decide +kernel
theorem dX8_made_29 : decode cX8_made 29 = .ok (.fdiv, 1) := by decide +kernel
theorem dX8_made_30 : decode cX8_made 30 = .ok (.freturn, 1) := by decide +kernel
theorem dX8_told_0 : decode cX8_told 0 = .ok (.iload_n 1, 1) := by decide +kernel
theorem dX8_told_1 : decode cX8_told 1 = .ok (.ifCond .ne 11, 3) := by decide +kernel
theorem dX8_told_4 : decode cX8_told 4 = .ok (.aload_n 0, 1) := by decide +kernel
theorem dX8_told_5 : decode cX8_told 5 = .ok (.iconst 4, 1) := by decide +kernel
theorem dX8_told_6 : decode cX8_told 6 = .ok (.invokevirtual 136, 3) := by decide +kernel
theorem dX8_told_9 : decode cX8_told 9 = .ok (.goto 50, 3) := by decide +kernel
theorem dX8_told_12 : decode cX8_told 12 = .ok (.iload_n 1, 1) := by decide +kernel
theorem dX8_told_13 : decode cX8_told 13 = .ok (.iconst 1, 1) := by decide +kernel
theorem dX8_told_14 : decode cX8_told 14 = .ok (.if_icmp .ne 12, 3) := by decide +kernel
theorem dX8_told_17 : decode cX8_told 17 = .ok (.aload_n 0, 1) := by decide +kernel
theorem dX8_told_18 : decode cX8_told 18 = .ok (.bipush 8, 2) := by decide +kernel
theorem dX8_told_20 : decode cX8_told 20 = .ok (.invokevirtual 136, 3) := by decide +kernel
theorem dX8_told_23 : decode cX8_told 23 = .ok (.goto 36, 3) := by decide +kernel
theorem dX8_told_26 : decode cX8_told 26 = .ok (.iload_n 1, 1) := by decide +kernel
theorem dX8_told_27 : decode cX8_told 27 = .ok (.iconst 2, 1) := by decide +kernel
theorem dX8_told_28 : decode cX8_told 28 = .ok (.if_icmp .ne 11, 3) := by decide +kernel
theorem dX8_told_31 : decode cX8_told 31 = .ok (.aload_n 0, 1) := by decide +kernel
theorem dX8_told_32 : decode cX8_told 32 = .ok (.iconst 5, 1) := by decide +kernel
theorem dX8_told_33 : decode cX8_told 33 = .ok (.invokevirtual 136, 3) := by decide +kernel
theorem dX8_told_36 : decode cX8_told 36 = .ok (.goto 23, 3) := by decide +kernel
theorem dX8_told_39 : decode cX8_told 39 = .ok (.iload_n 1, 1) := by decide +kernel
theorem dX8_told_40 : decode cX8_told 40 = .ok (.iconst 3, 1) := by decide +kernel
theorem dX8_told_41 : decode cX8_told 41 = .ok (.if_icmp .ne 12, 3) := by decide +kernel
theorem dX8_told_44 : decode cX8_told 44 = .ok (.aload_n 0, 1) := by decide +kernel
theorem dX8_told_45 : decode cX8_told 45 = .ok (.bipush 6, 2) := by decide +kernel
theorem dX8_told_47 : decode cX8_told 47 = .ok (.invokevirtual 136, 3) := by decide +kernel
theorem dX8_told_50 : decode cX8_told 50 = .ok (.goto 9, 3) := by decide +kernel
theorem dX8_told_53 : decode cX8_told 53 = .ok (.aload_n 0, 1) := by decide +kernel
theorem dX8_told_54 : decode cX8_told 54 = .ok (.getfield 7, 3) := by decide +kernel
theorem dX8_told_57 : decode cX8_told 57 = .ok (.iconst 5, 1) := by decide +kernel
theorem dX8_told_58 : decode cX8_told 58 = .ok (.iaload, 1) := by decide +kernel
theorem dX8_told_59 : decode cX8_told 59 = .ok (.ireturn, 1) := by decide +kernel
theorem dX8_ifSailed_0 : decode cX8_ifSailed 0 = .ok (.iload_n 1, 1) := by decide +kernel
theorem dX8_ifSailed_1 : decode cX8_ifSailed 1 = .ok (.iconst 0, 1) := by decide +kernel
theorem dX8_ifSailed_2 : decode cX8_ifSailed 2 = .ok (.iconst 5, 1) := by decide +kernel
theorem dX8_ifSailed_3 : decode cX8_ifSailed 3 = .ok (.invokestatic 51, 3) := by decide +kernel
theorem dX8_ifSailed_6 : decode cX8_ifSailed 6 = .ok (.ifCond .ne 6, 3) := by decide +kernel
theorem dX8_ifSailed_9 : decode cX8_ifSailed 9 = .ok (.bipush (-2), 2) := by decide +kernel
theorem dX8_ifSailed_11 : decode cX8_ifSailed 11 = .ok (.ireturn, 1) := by decide +kernel
theorem dX8_ifSailed_12 : decode cX8_ifSailed 12 = .ok (.aload_n 0, 1) := by decide +kernel
theorem dX8_ifSailed_13 : decode cX8_ifSailed 13 = .ok (.invokevirtual 175, 3) := by decide +kernel
theorem dX8_ifSailed_16 : decode cX8_ifSailed 16 = .ok (.aload_n 0, 1) := by decide +kernel
theorem dX8_ifSailed_17 : decode cX8_ifSailed 17 = .ok (.iload_n 1, 1) := by decide +kernel
theorem dX8_ifSailed_18 : decode cX8_ifSailed 18 = .ok (.invokevirtual 178, 3) := by decide +kernel
theorem dX8_ifSailed_21 : decode cX8_ifSailed 21 = .ok (.istore_n 2, 1) := by decide +kernel
theorem dX8_ifSailed_22 : decode cX8_ifSailed 22 = .ok (.aload_n 0, 1) := by decide +kernel
theorem dX8_ifSailed_23 : decode cX8_ifSailed 23 = .ok (.invokevirtual 139, 3) := by decide +kernel
theorem dX8_ifSailed_26 : decode cX8_ifSailed 26 = .ok (.iload_n 1, 1) := by decide +kernel
theorem dX8_ifSailed_27 : decode cX8_ifSailed 27 = .ok (.iconst 5, 1) := by decide +kernel
theorem dX8_ifSailed_28 : decode cX8_ifSailed 28 = .ok (.if_icmp .ne 10, 3) := by decide +kernel
theorem dX8_ifSailed_31 : decode cX8_ifSailed 31 = .ok (.aload_n 0, 1) := by decide +kernel
theorem dX8_ifSailed_32 : decode cX8_ifSailed 32 = .ok (.getfield 107, 3) := by decide +kernel
theorem dX8_ifSailed_35 : decode cX8_ifSailed 35 = .ok (.goto 10, 3) := by decide +kernel
theorem dX8_ifSailed_38 : decode cX8_ifSailed 38 = .ok (.aload_n 0, 1) := by decide +kernel
theorem dX8_ifSailed_39 : decode cX8_ifSailed 39 = .ok (.iload_n 1, 1) := by decide +kernel
theorem dX8_ifSailed_40 : decode cX8_ifSailed 40 = .ok (.invokevirtual 178, 3) := by decide +kernel
theorem dX8_ifSailed_43 : decode cX8_ifSailed 43 = .ok (.iload_n 2, 1) := by decide +kernel
theorem dX8_ifSailed_44 : decode cX8_ifSailed 44 = .ok (.isub, 1) := by decide +kernel
theorem dX8_ifSailed_45 : decode cX8_ifSailed 45 = .ok (.istore_n 3, 1) := by decide +kernel
theorem dX8_ifSailed_46 : decode cX8_ifSailed 46 = .ok (.aload_n 0, 1) := by decide +kernel
theorem dX8_ifSailed_47 : decode cX8_ifSailed 47 = .ok (.invokevirtual 181, 3) := by decide +kernel
theorem dX8_ifSailed_50 : decode cX8_ifSailed 50 = .ok (.iload_n 3, 1) := by decide +kernel
theorem dX8_ifSailed_51 : decode cX8_ifSailed 51 = .ok (.ireturn, 1) := by decide +kernel
theorem dX8_bestHour_0 : decode cX8_bestHour 0 = .ok (.iload_n 1, 1) := by decide +kernel
theorem dX8_bestHour_1 : decode cX8_bestHour 1 = .ok (.invokestatic 119, 3) := by decide +kernel
theorem dX8_bestHour_4 : decode cX8_bestHour 4 = .ok (.ifCond .ne 5, 3) := by decide +kernel
theorem dX8_bestHour_7 : decode cX8_bestHour 7 = .ok (.iconst (-1), 1) := by decide +kernel
theorem dX8_bestHour_8 : decode cX8_bestHour 8 = .ok (.ireturn, 1) := by decide +kernel
theorem dX8_bestHour_9 : decode cX8_bestHour 9 = .ok (.aload_n 0, 1) := by decide +kernel
theorem dX8_bestHour_10 : decode cX8_bestHour 10 = .ok (.iload_n 1, 1) := by decide +kernel
theorem dX8_bestHour_11 : decode cX8_bestHour 11 = .ok (.iconst 2, 1) := by decide +kernel
theorem dX8_bestHour_12 : decode cX8_bestHour 12 = .ok (.invokevirtual 55, 3) := by decide +kernel
theorem dX8_bestHour_15 : decode cX8_bestHour 15 = .ok (.istore_n 2, 1) := by decide +kernel
theorem dX8_bestHour_16 : decode cX8_bestHour 16 = .ok (.bipush (-5), 2) := by decide +kernel
theorem dX8_bestHour_18 : decode cX8_bestHour 18 = .ok (.istore_n 3, 1) := by decide +kernel
theorem dX8_bestHour_19 : decode cX8_bestHour 19 = .ok (.iconst 0, 1) := by decide +kernel
theorem dX8_bestHour_20 : decode cX8_bestHour 20 = .ok (.istore 4, 2) := by decide +kernel
theorem dX8_bestHour_22 : decode cX8_bestHour 22 = .ok (.iconst 0, 1) := by decide +kernel
theorem dX8_bestHour_23 : decode cX8_bestHour 23 = .ok (.istore 5, 2) := by decide +kernel
theorem dX8_bestHour_25 : decode cX8_bestHour 25 = .ok (.aload_n 0, 1) := by decide +kernel
theorem dX8_bestHour_26 : decode cX8_bestHour 26 = .ok (.invokevirtual 110, 3) := by decide +kernel
theorem dX8_bestHour_29 : decode cX8_bestHour 29 = .ok (.iconst 0, 1) := by decide +kernel
theorem dX8_bestHour_30 : decode cX8_bestHour 30 = .ok (.istore 6, 2) := by decide +kernel
theorem dX8_bestHour_32 : decode cX8_bestHour 32 = .ok (.iload 6, 2) := by decide +kernel
theorem dX8_bestHour_34 : decode cX8_bestHour 34 = .ok (.bipush 24, 2) := by decide +kernel
theorem dX8_bestHour_36 : decode cX8_bestHour 36 = .ok (.if_icmp .ge 74, 3) := by decide +kernel
theorem dX8_bestHour_39 : decode cX8_bestHour 39 = .ok (.aload_n 0, 1) := by decide +kernel
theorem dX8_bestHour_40 : decode cX8_bestHour 40 = .ok (.iload_n 1, 1) := by decide +kernel
theorem dX8_bestHour_41 : decode cX8_bestHour 41 = .ok (.iconst 2, 1) := by decide +kernel
theorem dX8_bestHour_42 : decode cX8_bestHour 42 = .ok (.iload 6, 2) := by decide +kernel
theorem dX8_bestHour_44 : decode cX8_bestHour 44 = .ok (.invokevirtual 43, 3) := by decide +kernel
theorem dX8_bestHour_47 : decode cX8_bestHour 47 = .ok (.aload_n 0, 1) := by decide +kernel
theorem dX8_bestHour_48 : decode cX8_bestHour 48 = .ok (.iload_n 1, 1) := by decide +kernel
theorem dX8_bestHour_49 : decode cX8_bestHour 49 = .ok (.invokevirtual 65, 3) := by decide +kernel
theorem dX8_bestHour_52 : decode cX8_bestHour 52 = .ok (.aload_n 0, 1) := by decide +kernel
theorem dX8_bestHour_53 : decode cX8_bestHour 53 = .ok (.invokevirtual 172, 3) := by decide +kernel
theorem dX8_bestHour_56 : decode cX8_bestHour 56 = .ok (.istore 7, 2) := by decide +kernel
theorem dX8_bestHour_58 : decode cX8_bestHour 58 = .ok (.iload_n 3, 1) := by decide +kernel
theorem dX8_bestHour_59 : decode cX8_bestHour 59 = .ok (.bipush (-5), 2) := by decide +kernel
theorem dX8_bestHour_61 : decode cX8_bestHour 61 = .ok (.if_icmp .eq 28, 3) := by decide +kernel
theorem dX8_bestHour_64 : decode cX8_bestHour 64 = .ok (.iload 7, 2) := by decide +kernel
theorem dX8_bestHour_66 : decode cX8_bestHour 66 = .ok (.iload 4, 2) := by decide +kernel
theorem dX8_bestHour_68 : decode cX8_bestHour 68 = .ok (.if_icmp .lt 21, 3) := by decide +kernel
theorem dX8_bestHour_71 : decode cX8_bestHour 71 = .ok (.iload 7, 2) := by decide +kernel
theorem dX8_bestHour_73 : decode cX8_bestHour 73 = .ok (.iload 4, 2) := by decide +kernel
theorem dX8_bestHour_75 : decode cX8_bestHour 75 = .ok (.if_icmp .ne 29, 3) := by decide +kernel
theorem dX8_bestHour_78 : decode cX8_bestHour 78 = .ok (.aload_n 0, 1) := by decide +kernel
theorem dX8_bestHour_79 : decode cX8_bestHour 79 = .ok (.getfield 28, 3) := by decide +kernel
theorem dX8_bestHour_82 : decode cX8_bestHour 82 = .ok (.iload_n 1, 1) := by decide +kernel
theorem dX8_bestHour_83 : decode cX8_bestHour 83 = .ok (.iaload, 1) := by decide +kernel
theorem dX8_bestHour_84 : decode cX8_bestHour 84 = .ok (.iload 5, 2) := by decide +kernel
theorem dX8_bestHour_86 : decode cX8_bestHour 86 = .ok (.if_icmp .le 18, 3) := by decide +kernel
theorem dX8_bestHour_89 : decode cX8_bestHour 89 = .ok (.iload 6, 2) := by decide +kernel
theorem dX8_bestHour_91 : decode cX8_bestHour 91 = .ok (.istore_n 3, 1) := by decide +kernel
theorem dX8_bestHour_92 : decode cX8_bestHour 92 = .ok (.iload 7, 2) := by decide +kernel
theorem dX8_bestHour_94 : decode cX8_bestHour 94 = .ok (.istore 4, 2) := by decide +kernel
theorem dX8_bestHour_96 : decode cX8_bestHour 96 = .ok (.aload_n 0, 1) := by decide +kernel
theorem dX8_bestHour_97 : decode cX8_bestHour 97 = .ok (.getfield 28, 3) := by decide +kernel
theorem dX8_bestHour_100 : decode cX8_bestHour 100 = .ok (.iload_n 1, 1) := by decide +kernel
theorem dX8_bestHour_101 : decode cX8_bestHour 101 = .ok (.iaload, 1) := by decide +kernel
theorem dX8_bestHour_102 : decode cX8_bestHour 102 = .ok (.istore 5, 2) := by decide +kernel
theorem dX8_bestHour_104 : decode cX8_bestHour 104 = .ok (.iinc 6 1, 3) := by decide +kernel
theorem dX8_bestHour_107 : decode cX8_bestHour 107 = .ok (.goto (-75), 3) := by decide +kernel
theorem dX8_bestHour_110 : decode cX8_bestHour 110 = .ok (.aload_n 0, 1) := by decide +kernel
theorem dX8_bestHour_111 : decode cX8_bestHour 111 = .ok (.iload_n 1, 1) := by decide +kernel
theorem dX8_bestHour_112 : decode cX8_bestHour 112 = .ok (.iconst 2, 1) := by decide +kernel
theorem dX8_bestHour_113 : decode cX8_bestHour 113 = .ok (.iload_n 2, 1) := by decide +kernel
theorem dX8_bestHour_114 : decode cX8_bestHour 114 = .ok (.invokevirtual 43, 3) := by decide +kernel
theorem dX8_bestHour_117 : decode cX8_bestHour 117 = .ok (.iload_n 3, 1) := by decide +kernel
theorem dX8_bestHour_118 : decode cX8_bestHour 118 = .ok (.ireturn, 1) := by decide +kernel
theorem dX8_bestPhase_0 : decode cX8_bestPhase 0 = .ok (.iload_n 1, 1) := by decide +kernel
theorem dX8_bestPhase_1 : decode cX8_bestPhase 1 = .ok (.invokestatic 119, 3) := by decide +kernel
theorem dX8_bestPhase_4 : decode cX8_bestPhase 4 = .ok (.ifCond .ne 5, 3) := by decide +kernel
theorem dX8_bestPhase_7 : decode cX8_bestPhase 7 = .ok (.iconst (-1), 1) := by decide +kernel
theorem dX8_bestPhase_8 : decode cX8_bestPhase 8 = .ok (.ireturn, 1) := by decide +kernel
theorem dX8_bestPhase_9 : decode cX8_bestPhase 9 = .ok (.bipush (-5), 2) := by decide +kernel
theorem dX8_bestPhase_11 : decode cX8_bestPhase 11 = .ok (.istore_n 2, 1) := by decide +kernel
theorem dX8_bestPhase_12 : decode cX8_bestPhase 12 = .ok (.iconst 0, 1) := by decide +kernel
theorem dX8_bestPhase_13 : decode cX8_bestPhase 13 = .ok (.istore_n 3, 1) := by decide +kernel
theorem dX8_bestPhase_14 : decode cX8_bestPhase 14 = .ok (.aload_n 0, 1) := by decide +kernel
theorem dX8_bestPhase_15 : decode cX8_bestPhase 15 = .ok (.invokevirtual 175, 3) := by decide +kernel
theorem dX8_bestPhase_18 : decode cX8_bestPhase 18 = .ok (.iconst 0, 1) := by decide +kernel
theorem dX8_bestPhase_19 : decode cX8_bestPhase 19 = .ok (.istore 4, 2) := by decide +kernel
theorem dX8_bestPhase_21 : decode cX8_bestPhase 21 = .ok (.iload 4, 2) := by decide +kernel
theorem dX8_bestPhase_23 : decode cX8_bestPhase 23 = .ok (.bipush 12, 2) := by decide +kernel
theorem dX8_bestPhase_25 : decode cX8_bestPhase 25 = .ok (.if_icmp .ge 60, 3) := by decide +kernel
theorem dX8_bestPhase_28 : decode cX8_bestPhase 28 = .ok (.aload_n 0, 1) := by decide +kernel
theorem dX8_bestPhase_29 : decode cX8_bestPhase 29 = .ok (.iload_n 1, 1) := by decide +kernel
theorem dX8_bestPhase_30 : decode cX8_bestPhase 30 = .ok (.iconst 0, 1) := by decide +kernel
theorem dX8_bestPhase_31 : decode cX8_bestPhase 31 = .ok (.iload 4, 2) := by decide +kernel
theorem dX8_bestPhase_33 : decode cX8_bestPhase 33 = .ok (.invokevirtual 43, 3) := by decide +kernel
theorem dX8_bestPhase_36 : decode cX8_bestPhase 36 = .ok (.aload_n 0, 1) := by decide +kernel
theorem dX8_bestPhase_37 : decode cX8_bestPhase 37 = .ok (.iconst 4, 1) := by decide +kernel
theorem dX8_bestPhase_38 : decode cX8_bestPhase 38 = .ok (.invokevirtual 136, 3) := by decide +kernel
theorem dX8_bestPhase_41 : decode cX8_bestPhase 41 = .ok (.istore 5, 2) := by decide +kernel
theorem dX8_bestPhase_43 : decode cX8_bestPhase 43 = .ok (.aload_n 0, 1) := by decide +kernel
theorem dX8_bestPhase_44 : decode cX8_bestPhase 44 = .ok (.invokevirtual 139, 3) := by decide +kernel
theorem dX8_bestPhase_47 : decode cX8_bestPhase 47 = .ok (.aload_n 0, 1) := by decide +kernel
theorem dX8_bestPhase_48 : decode cX8_bestPhase 48 = .ok (.iconst 4, 1) := by decide +kernel
theorem dX8_bestPhase_49 : decode cX8_bestPhase 49 = .ok (.invokevirtual 136, 3) := by decide +kernel
theorem dX8_bestPhase_52 : decode cX8_bestPhase 52 = .ok (.iload 5, 2) := by decide +kernel
theorem dX8_bestPhase_54 : decode cX8_bestPhase 54 = .ok (.isub, 1) := by decide +kernel
theorem dX8_bestPhase_55 : decode cX8_bestPhase 55 = .ok (.istore 6, 2) := by decide +kernel
theorem dX8_bestPhase_57 : decode cX8_bestPhase 57 = .ok (.iload_n 2, 1) := by decide +kernel
theorem dX8_bestPhase_58 : decode cX8_bestPhase 58 = .ok (.bipush (-5), 2) := by decide +kernel
theorem dX8_bestPhase_60 : decode cX8_bestPhase 60 = .ok (.if_icmp .eq 9, 3) := by decide +kernel
theorem dX8_bestPhase_63 : decode cX8_bestPhase 63 = .ok (.iload 6, 2) := by decide +kernel
theorem dX8_bestPhase_65 : decode cX8_bestPhase 65 = .ok (.iload_n 3, 1) := by decide +kernel
theorem dX8_bestPhase_66 : decode cX8_bestPhase 66 = .ok (.if_icmp .le 9, 3) := by decide +kernel
theorem dX8_bestPhase_69 : decode cX8_bestPhase 69 = .ok (.iload 4, 2) := by decide +kernel
theorem dX8_bestPhase_71 : decode cX8_bestPhase 71 = .ok (.istore_n 2, 1) := by decide +kernel
theorem dX8_bestPhase_72 : decode cX8_bestPhase 72 = .ok (.iload 6, 2) := by decide +kernel
theorem dX8_bestPhase_74 : decode cX8_bestPhase 74 = .ok (.istore_n 3, 1) := by decide +kernel
theorem dX8_bestPhase_75 : decode cX8_bestPhase 75 = .ok (.aload_n 0, 1) := by decide +kernel
theorem dX8_bestPhase_76 : decode cX8_bestPhase 76 = .ok (.invokevirtual 181, 3) := by decide +kernel
theorem dX8_bestPhase_79 : decode cX8_bestPhase 79 = .ok (.iinc 4 1, 3) := by decide +kernel
theorem dX8_bestPhase_82 : decode cX8_bestPhase 82 = .ok (.goto (-61), 3) := by decide +kernel
theorem dX8_bestPhase_85 : decode cX8_bestPhase 85 = .ok (.iload_n 2, 1) := by decide +kernel
theorem dX8_bestPhase_86 : decode cX8_bestPhase 86 = .ok (.ireturn, 1) := by decide +kernel
theorem dJ6_bitCount_0f7a4_0 : decode cJ6_bitCount_0f7a4 0 = .ok (.iload_n 0, 1) := by decide +kernel
theorem dJ6_bitCount_0f7a4_1 : decode cJ6_bitCount_0f7a4 1 = .ok (.iload_n 0, 1) := by decide +kernel
theorem dJ6_bitCount_0f7a4_2 : decode cJ6_bitCount_0f7a4 2 = .ok (.iconst 1, 1) := by decide +kernel
theorem dJ6_bitCount_0f7a4_3 : decode cJ6_bitCount_0f7a4 3 = .ok (.iushr, 1) := by decide +kernel
theorem dJ6_bitCount_0f7a4_4 : decode cJ6_bitCount_0f7a4 4 = .ok (.ldc_w 265, 3) := by decide +kernel
theorem dJ6_bitCount_0f7a4_7 : decode cJ6_bitCount_0f7a4 7 = .ok (.iand, 1) := by decide +kernel
theorem dJ6_bitCount_0f7a4_8 : decode cJ6_bitCount_0f7a4 8 = .ok (.isub, 1) := by decide +kernel
theorem dJ6_bitCount_0f7a4_9 : decode cJ6_bitCount_0f7a4 9 = .ok (.istore_n 0, 1) := by decide +kernel
theorem dJ6_bitCount_0f7a4_10 : decode cJ6_bitCount_0f7a4 10 = .ok (.iload_n 0, 1) := by decide +kernel
theorem dJ6_bitCount_0f7a4_11 : decode cJ6_bitCount_0f7a4 11 = .ok (.ldc_w 266, 3) := by decide +kernel
theorem dJ6_bitCount_0f7a4_14 : decode cJ6_bitCount_0f7a4 14 = .ok (.iand, 1) := by decide +kernel
theorem dJ6_bitCount_0f7a4_15 : decode cJ6_bitCount_0f7a4 15 = .ok (.iload_n 0, 1) := by decide +kernel
theorem dJ6_bitCount_0f7a4_16 : decode cJ6_bitCount_0f7a4 16 = .ok (.iconst 2, 1) := by decide +kernel
theorem dJ6_bitCount_0f7a4_17 : decode cJ6_bitCount_0f7a4 17 = .ok (.iushr, 1) := by decide +kernel
theorem dJ6_bitCount_0f7a4_18 : decode cJ6_bitCount_0f7a4 18 = .ok (.ldc_w 266, 3) := by decide +kernel
theorem dJ6_bitCount_0f7a4_21 : decode cJ6_bitCount_0f7a4 21 = .ok (.iand, 1) := by decide +kernel
theorem dJ6_bitCount_0f7a4_22 : decode cJ6_bitCount_0f7a4 22 = .ok (.iadd, 1) := by decide +kernel
theorem dJ6_bitCount_0f7a4_23 : decode cJ6_bitCount_0f7a4 23 = .ok (.istore_n 0, 1) := by decide +kernel
theorem dJ6_bitCount_0f7a4_24 : decode cJ6_bitCount_0f7a4 24 = .ok (.iload_n 0, 1) := by decide +kernel
theorem dJ6_bitCount_0f7a4_25 : decode cJ6_bitCount_0f7a4 25 = .ok (.iload_n 0, 1) := by decide +kernel
theorem dJ6_bitCount_0f7a4_26 : decode cJ6_bitCount_0f7a4 26 = .ok (.iconst 4, 1) := by decide +kernel
theorem dJ6_bitCount_0f7a4_27 : decode cJ6_bitCount_0f7a4 27 = .ok (.iushr, 1) := by decide +kernel
theorem dJ6_bitCount_0f7a4_28 : decode cJ6_bitCount_0f7a4 28 = .ok (.iadd, 1) := by decide +kernel
theorem dJ6_bitCount_0f7a4_29 : decode cJ6_bitCount_0f7a4 29 = .ok (.ldc_w 267, 3) := by decide +kernel
theorem dJ6_bitCount_0f7a4_32 : decode cJ6_bitCount_0f7a4 32 = .ok (.iand, 1) := by decide +kernel
theorem dJ6_bitCount_0f7a4_33 : decode cJ6_bitCount_0f7a4 33 = .ok (.istore_n 0, 1) := by decide +kernel
theorem dJ6_bitCount_0f7a4_34 : decode cJ6_bitCount_0f7a4 34 = .ok (.iload_n 0, 1) := by decide +kernel
theorem dJ6_bitCount_0f7a4_35 : decode cJ6_bitCount_0f7a4 35 = .ok (.iload_n 0, 1) := by decide +kernel
theorem dJ6_bitCount_0f7a4_36 : decode cJ6_bitCount_0f7a4 36 = .ok (.bipush 8, 2) := by decide +kernel
theorem dJ6_bitCount_0f7a4_38 : decode cJ6_bitCount_0f7a4 38 = .ok (.iushr, 1) := by decide +kernel
theorem dJ6_bitCount_0f7a4_39 : decode cJ6_bitCount_0f7a4 39 = .ok (.iadd, 1) := by decide +kernel
theorem dJ6_bitCount_0f7a4_40 : decode cJ6_bitCount_0f7a4 40 = .ok (.istore_n 0, 1) := by decide +kernel
theorem dJ6_bitCount_0f7a4_41 : decode cJ6_bitCount_0f7a4 41 = .ok (.iload_n 0, 1) := by decide +kernel
theorem dJ6_bitCount_0f7a4_42 : decode cJ6_bitCount_0f7a4 42 = .ok (.iload_n 0, 1) := by decide +kernel
theorem dJ6_bitCount_0f7a4_43 : decode cJ6_bitCount_0f7a4 43 = .ok (.bipush 16, 2) := by decide +kernel
theorem dJ6_bitCount_0f7a4_45 : decode cJ6_bitCount_0f7a4 45 = .ok (.iushr, 1) := by decide +kernel
theorem dJ6_bitCount_0f7a4_46 : decode cJ6_bitCount_0f7a4 46 = .ok (.iadd, 1) := by decide +kernel
theorem dJ6_bitCount_0f7a4_47 : decode cJ6_bitCount_0f7a4 47 = .ok (.istore_n 0, 1) := by decide +kernel
theorem dJ6_bitCount_0f7a4_48 : decode cJ6_bitCount_0f7a4 48 = .ok (.iload_n 0, 1) := by decide +kernel
theorem dJ6_bitCount_0f7a4_49 : decode cJ6_bitCount_0f7a4 49 = .ok (.bipush 63, 2) := by decide +kernel
theorem dJ6_bitCount_0f7a4_51 : decode cJ6_bitCount_0f7a4 51 = .ok (.iand, 1) := by decide +kernel
theorem dJ6_bitCount_0f7a4_52 : decode cJ6_bitCount_0f7a4 52 = .ok (.ireturn, 1) := by decide +kernel
theorem dJ9_abs_0f7a4_0 : decode cJ9_abs_0f7a4 0 = .ok (.iload_n 0, 1) := by decide +kernel
theorem dJ9_abs_0f7a4_1 : decode cJ9_abs_0f7a4 1 = .ok (.ifCond .ge 8, 3) := by decide +kernel
theorem dJ9_abs_0f7a4_4 : decode cJ9_abs_0f7a4 4 = .ok (.iload_n 0, 1) := by decide +kernel
theorem dJ9_abs_0f7a4_5 : decode cJ9_abs_0f7a4 5 = .ok (.ineg, 1) := by decide +kernel
theorem dJ9_abs_0f7a4_6 : decode cJ9_abs_0f7a4 6 = .ok (.goto 4, 3) := by decide +kernel
theorem dJ9_abs_0f7a4_9 : decode cJ9_abs_0f7a4 9 = .ok (.iload_n 0, 1) := by decide +kernel
theorem dJ9_abs_0f7a4_10 : decode cJ9_abs_0f7a4 10 = .ok (.ireturn, 1) := by decide +kernel
theorem dL_law_0 : decode cL_law 0 = .ok (.new 7, 3) := by decide +kernel
theorem dL_law_3 : decode cL_law 3 = .ok (.dup, 1) := by decide +kernel
theorem dL_law_4 : decode cL_law 4 = .ok (.invokespecial 9, 3) := by decide +kernel
theorem dL_law_7 : decode cL_law 7 = .ok (.astore_n 1, 1) := by decide +kernel
theorem dL_law_8 : decode cL_law 8 = .ok (.new 10, 3) := by decide +kernel
theorem dL_law_11 : decode cL_law 11 = .ok (.dup, 1) := by decide +kernel
theorem dL_law_12 : decode cL_law 12 = .ok (.invokespecial 12, 3) := by decide +kernel
theorem dL_law_15 : decode cL_law 15 = .ok (.astore_n 2, 1) := by decide +kernel
theorem dL_law_16 : decode cL_law 16 = .ok (.iconst 0, 1) := by decide +kernel
theorem dL_law_17 : decode cL_law 17 = .ok (.istore_n 3, 1) := by decide +kernel
theorem dL_law_18 : decode cL_law 18 = .ok (.iload_n 3, 1) := by decide +kernel
theorem dL_law_19 : decode cL_law 19 = .ok (.aload_n 0, 1) := by decide +kernel
theorem dL_law_20 : decode cL_law 20 = .ok (.arraylength, 1) := by decide +kernel
theorem dL_law_21 : decode cL_law 21 = .ok (.iconst 4, 1) := by decide +kernel
theorem dL_law_22 : decode cL_law 22 = .ok (.isub, 1) := by decide +kernel
theorem dL_law_23 : decode cL_law 23 = .ok (.if_icmp .gt 724, 3) := by decide +kernel
theorem dL_law_26 : decode cL_law 26 = .ok (.aload_n 0, 1) := by decide +kernel
theorem dL_law_27 : decode cL_law 27 = .ok (.iload_n 3, 1) := by decide +kernel
theorem dL_law_28 : decode cL_law 28 = .ok (.iaload, 1) := by decide +kernel
theorem dL_law_29 : decode cL_law 29 = .ok (.bipush 31, 2) := by decide +kernel
theorem dL_law_31 : decode cL_law 31 = .ok (.iand, 1) := by decide +kernel
theorem dL_law_32 : decode cL_law 32 = .ok (.tableswitch 709 0 22 #[108, 151, 164, 187, 220, 243, 266, 291, 304, 317, 330, 343, 356, 389, 432, 475, 508, 541, 574, 597, 640, 663, 686], 108) := by decide +kernel
theorem dL_law_140 : decode cL_law 140 = .ok (.aload_n 1, 1) := by decide +kernel
theorem dL_law_141 : decode cL_law 141 = .ok (.aload_n 0, 1) := by decide +kernel
theorem dL_law_142 : decode cL_law 142 = .ok (.iload_n 3, 1) := by decide +kernel
theorem dL_law_143 : decode cL_law 143 = .ok (.iconst 1, 1) := by decide +kernel
theorem dL_law_144 : decode cL_law 144 = .ok (.iadd, 1) := by decide +kernel
theorem dL_law_145 : decode cL_law 145 = .ok (.iaload, 1) := by decide +kernel
theorem dL_law_146 : decode cL_law 146 = .ok (.aload_n 0, 1) := by decide +kernel
theorem dL_law_147 : decode cL_law 147 = .ok (.iload_n 3, 1) := by decide +kernel
theorem dL_law_148 : decode cL_law 148 = .ok (.iconst 2, 1) := by decide +kernel
theorem dL_law_149 : decode cL_law 149 = .ok (.iadd, 1) := by decide +kernel
theorem dL_law_150 : decode cL_law 150 = .ok (.iaload, 1) := by decide +kernel
theorem dL_law_151 : decode cL_law 151 = .ok (.aload_n 0, 1) := by decide +kernel
theorem dL_law_152 : decode cL_law 152 = .ok (.iload_n 3, 1) := by decide +kernel
theorem dL_law_153 : decode cL_law 153 = .ok (.iconst 3, 1) := by decide +kernel
theorem dL_law_154 : decode cL_law 154 = .ok (.iadd, 1) := by decide +kernel
theorem dL_law_155 : decode cL_law 155 = .ok (.iaload, 1) := by decide +kernel
theorem dL_law_156 : decode cL_law 156 = .ok (.invokevirtual 13, 3) := by decide +kernel
theorem dL_law_159 : decode cL_law 159 = .ok (.aload_n 2, 1) := by decide +kernel
theorem dL_law_160 : decode cL_law 160 = .ok (.aload_n 0, 1) := by decide +kernel
theorem dL_law_161 : decode cL_law 161 = .ok (.iload_n 3, 1) := by decide +kernel
theorem dL_law_162 : decode cL_law 162 = .ok (.iconst 1, 1) := by decide +kernel
theorem dL_law_163 : decode cL_law 163 = .ok (.iadd, 1) := by decide +kernel
theorem dL_law_164 : decode cL_law 164 = .ok (.iaload, 1) := by decide +kernel
theorem dL_law_165 : decode cL_law 165 = .ok (.aload_n 0, 1) := by decide +kernel
theorem dL_law_166 : decode cL_law 166 = .ok (.iload_n 3, 1) := by decide +kernel
theorem dL_law_167 : decode cL_law 167 = .ok (.iconst 2, 1) := by decide +kernel
theorem dL_law_168 : decode cL_law 168 = .ok (.iadd, 1) := by decide +kernel
theorem dL_law_169 : decode cL_law 169 = .ok (.iaload, 1) := by decide +kernel
theorem dL_law_170 : decode cL_law 170 = .ok (.aload_n 0, 1) := by decide +kernel
theorem dL_law_171 : decode cL_law 171 = .ok (.iload_n 3, 1) := by decide +kernel
theorem dL_law_172 : decode cL_law 172 = .ok (.iconst 3, 1) := by decide +kernel
theorem dL_law_173 : decode cL_law 173 = .ok (.iadd, 1) := by decide +kernel
theorem dL_law_174 : decode cL_law 174 = .ok (.iaload, 1) := by decide +kernel
theorem dL_law_175 : decode cL_law 175 = .ok (.invokevirtual 17, 3) := by decide +kernel
theorem dL_law_178 : decode cL_law 178 = .ok (.if_icmp .eq 563, 3) := by decide +kernel
theorem dL_law_181 : decode cL_law 181 = .ok (.iconst 0, 1) := by decide +kernel
theorem dL_law_182 : decode cL_law 182 = .ok (.ireturn, 1) := by decide +kernel
theorem dL_law_183 : decode cL_law 183 = .ok (.aload_n 1, 1) := by decide +kernel
theorem dL_law_184 : decode cL_law 184 = .ok (.invokevirtual 18, 3) := by decide +kernel
theorem dL_law_187 : decode cL_law 187 = .ok (.aload_n 2, 1) := by decide +kernel
theorem dL_law_188 : decode cL_law 188 = .ok (.invokevirtual 22, 3) := by decide +kernel
theorem dL_law_191 : decode cL_law 191 = .ok (.if_icmp .eq 550, 3) := by decide +kernel
theorem dL_law_194 : decode cL_law 194 = .ok (.iconst 0, 1) := by decide +kernel
theorem dL_law_195 : decode cL_law 195 = .ok (.ireturn, 1) := by decide +kernel
theorem dL_law_196 : decode cL_law 196 = .ok (.aload_n 1, 1) := by decide +kernel
theorem dL_law_197 : decode cL_law 197 = .ok (.aload_n 0, 1) := by decide +kernel
theorem dL_law_198 : decode cL_law 198 = .ok (.iload_n 3, 1) := by decide +kernel
theorem dL_law_199 : decode cL_law 199 = .ok (.iconst 1, 1) := by decide +kernel
theorem dL_law_200 : decode cL_law 200 = .ok (.iadd, 1) := by decide +kernel
theorem dL_law_201 : decode cL_law 201 = .ok (.iaload, 1) := by decide +kernel
theorem dL_law_202 : decode cL_law 202 = .ok (.invokevirtual 23, 3) := by decide +kernel
theorem dL_law_205 : decode cL_law 205 = .ok (.aload_n 2, 1) := by decide +kernel
theorem dL_law_206 : decode cL_law 206 = .ok (.aload_n 0, 1) := by decide +kernel
theorem dL_law_207 : decode cL_law 207 = .ok (.iload_n 3, 1) := by decide +kernel
theorem dL_law_208 : decode cL_law 208 = .ok (.iconst 1, 1) := by decide +kernel
theorem dL_law_209 : decode cL_law 209 = .ok (.iadd, 1) := by decide +kernel
theorem dL_law_210 : decode cL_law 210 = .ok (.iaload, 1) := by decide +kernel
theorem dL_law_211 : decode cL_law 211 = .ok (.invokevirtual 27, 3) := by decide +kernel
theorem dL_law_214 : decode cL_law 214 = .ok (.if_icmp .eq 527, 3) := by decide +kernel
theorem dL_law_217 : decode cL_law 217 = .ok (.iconst 0, 1) := by decide +kernel
theorem dL_law_218 : decode cL_law 218 = .ok (.ireturn, 1) := by decide +kernel
theorem dL_law_219 : decode cL_law 219 = .ok (.aload_n 1, 1) := by decide +kernel
theorem dL_law_220 : decode cL_law 220 = .ok (.aload_n 0, 1) := by decide +kernel
theorem dL_law_221 : decode cL_law 221 = .ok (.iload_n 3, 1) := by decide +kernel
theorem dL_law_222 : decode cL_law 222 = .ok (.iconst 1, 1) := by decide +kernel
theorem dL_law_223 : decode cL_law 223 = .ok (.iadd, 1) := by decide +kernel
theorem dL_law_224 : decode cL_law 224 = .ok (.iaload, 1) := by decide +kernel
theorem dL_law_225 : decode cL_law 225 = .ok (.aload_n 0, 1) := by decide +kernel
theorem dL_law_226 : decode cL_law 226 = .ok (.iload_n 3, 1) := by decide +kernel
theorem dL_law_227 : decode cL_law 227 = .ok (.iconst 2, 1) := by decide +kernel
theorem dL_law_228 : decode cL_law 228 = .ok (.iadd, 1) := by decide +kernel
theorem dL_law_229 : decode cL_law 229 = .ok (.iaload, 1) := by decide +kernel
theorem dL_law_230 : decode cL_law 230 = .ok (.invokevirtual 28, 3) := by decide +kernel
theorem dL_law_233 : decode cL_law 233 = .ok (.aload_n 2, 1) := by decide +kernel
theorem dL_law_234 : decode cL_law 234 = .ok (.aload_n 0, 1) := by decide +kernel
theorem dL_law_235 : decode cL_law 235 = .ok (.iload_n 3, 1) := by decide +kernel
theorem dL_law_236 : decode cL_law 236 = .ok (.iconst 1, 1) := by decide +kernel
theorem dL_law_237 : decode cL_law 237 = .ok (.iadd, 1) := by decide +kernel
theorem dL_law_238 : decode cL_law 238 = .ok (.iaload, 1) := by decide +kernel
theorem dL_law_239 : decode cL_law 239 = .ok (.aload_n 0, 1) := by decide +kernel
theorem dL_law_240 : decode cL_law 240 = .ok (.iload_n 3, 1) := by decide +kernel
theorem dL_law_241 : decode cL_law 241 = .ok (.iconst 2, 1) := by decide +kernel
theorem dL_law_242 : decode cL_law 242 = .ok (.iadd, 1) := by decide +kernel
theorem dL_law_243 : decode cL_law 243 = .ok (.iaload, 1) := by decide +kernel
theorem dL_law_244 : decode cL_law 244 = .ok (.invokevirtual 32, 3) := by decide +kernel
theorem dL_law_247 : decode cL_law 247 = .ok (.if_icmp .eq 494, 3) := by decide +kernel
theorem dL_law_250 : decode cL_law 250 = .ok (.iconst 0, 1) := by decide +kernel
theorem dL_law_251 : decode cL_law 251 = .ok (.ireturn, 1) := by decide +kernel
theorem dL_law_252 : decode cL_law 252 = .ok (.aload_n 1, 1) := by decide +kernel
theorem dL_law_253 : decode cL_law 253 = .ok (.aload_n 0, 1) := by decide +kernel
theorem dL_law_254 : decode cL_law 254 = .ok (.iload_n 3, 1) := by decide +kernel
theorem dL_law_255 : decode cL_law 255 = .ok (.iconst 1, 1) := by decide +kernel
theorem dL_law_256 : decode cL_law 256 = .ok (.iadd, 1) := by decide +kernel
theorem dL_law_257 : decode cL_law 257 = .ok (.iaload, 1) := by decide +kernel
theorem dL_law_258 : decode cL_law 258 = .ok (.invokevirtual 33, 3) := by decide +kernel
theorem dL_law_261 : decode cL_law 261 = .ok (.aload_n 2, 1) := by decide +kernel
theorem dL_law_262 : decode cL_law 262 = .ok (.aload_n 0, 1) := by decide +kernel
theorem dL_law_263 : decode cL_law 263 = .ok (.iload_n 3, 1) := by decide +kernel
theorem dL_law_264 : decode cL_law 264 = .ok (.iconst 1, 1) := by decide +kernel
theorem dL_law_265 : decode cL_law 265 = .ok (.iadd, 1) := by decide +kernel
theorem dL_law_266 : decode cL_law 266 = .ok (.iaload, 1) := by decide +kernel
theorem dL_law_267 : decode cL_law 267 = .ok (.invokevirtual 36, 3) := by decide +kernel
theorem dL_law_270 : decode cL_law 270 = .ok (.if_icmp .eq 471, 3) := by decide +kernel
theorem dL_law_273 : decode cL_law 273 = .ok (.iconst 0, 1) := by decide +kernel
theorem dL_law_274 : decode cL_law 274 = .ok (.ireturn, 1) := by decide +kernel
theorem dL_law_275 : decode cL_law 275 = .ok (.aload_n 1, 1) := by decide +kernel
theorem dL_law_276 : decode cL_law 276 = .ok (.aload_n 0, 1) := by decide +kernel
theorem dL_law_277 : decode cL_law 277 = .ok (.iload_n 3, 1) := by decide +kernel
theorem dL_law_278 : decode cL_law 278 = .ok (.iconst 1, 1) := by decide +kernel
theorem dL_law_279 : decode cL_law 279 = .ok (.iadd, 1) := by decide +kernel
theorem dL_law_280 : decode cL_law 280 = .ok (.iaload, 1) := by decide +kernel
theorem dL_law_281 : decode cL_law 281 = .ok (.invokevirtual 37, 3) := by decide +kernel
theorem dL_law_284 : decode cL_law 284 = .ok (.aload_n 2, 1) := by decide +kernel
theorem dL_law_285 : decode cL_law 285 = .ok (.aload_n 0, 1) := by decide +kernel
theorem dL_law_286 : decode cL_law 286 = .ok (.iload_n 3, 1) := by decide +kernel
theorem dL_law_287 : decode cL_law 287 = .ok (.iconst 1, 1) := by decide +kernel
theorem dL_law_288 : decode cL_law 288 = .ok (.iadd, 1) := by decide +kernel
theorem dL_law_289 : decode cL_law 289 = .ok (.iaload, 1) := by decide +kernel
theorem dL_law_290 : decode cL_law 290 = .ok (.invokevirtual 40, 3) := by decide +kernel
theorem dL_law_293 : decode cL_law 293 = .ok (.if_icmp .eq 448, 3) := by decide +kernel
theorem dL_law_296 : decode cL_law 296 = .ok (.iconst 0, 1) := by decide +kernel
theorem dL_law_297 : decode cL_law 297 = .ok (.ireturn, 1) := by decide +kernel
theorem dL_law_298 : decode cL_law 298 = .ok (.aload_n 1, 1) := by decide +kernel
theorem dL_law_299 : decode cL_law 299 = .ok (.aload_n 0, 1) := by decide +kernel
theorem dL_law_300 : decode cL_law 300 = .ok (.iload_n 3, 1) := by decide +kernel
theorem dL_law_301 : decode cL_law 301 = .ok (.iconst 1, 1) := by decide +kernel
theorem dL_law_302 : decode cL_law 302 = .ok (.iadd, 1) := by decide +kernel
theorem dL_law_303 : decode cL_law 303 = .ok (.iaload, 1) := by decide +kernel
theorem dL_law_304 : decode cL_law 304 = .ok (.i2c, 1) := by decide +kernel
theorem dL_law_305 : decode cL_law 305 = .ok (.invokevirtual 41, 3) := by decide +kernel
theorem dL_law_308 : decode cL_law 308 = .ok (.aload_n 2, 1) := by decide +kernel
theorem dL_law_309 : decode cL_law 309 = .ok (.aload_n 0, 1) := by decide +kernel
theorem dL_law_310 : decode cL_law 310 = .ok (.iload_n 3, 1) := by decide +kernel
theorem dL_law_311 : decode cL_law 311 = .ok (.iconst 1, 1) := by decide +kernel
theorem dL_law_312 : decode cL_law 312 = .ok (.iadd, 1) := by decide +kernel
theorem dL_law_313 : decode cL_law 313 = .ok (.iaload, 1) := by decide +kernel
theorem dL_law_314 : decode cL_law 314 = .ok (.i2c, 1) := by decide +kernel
theorem dL_law_315 : decode cL_law 315 = .ok (.invokevirtual 45, 3) := by decide +kernel
theorem dL_law_318 : decode cL_law 318 = .ok (.if_icmp .eq 423, 3) := by decide +kernel
theorem dL_law_321 : decode cL_law 321 = .ok (.iconst 0, 1) := by decide +kernel
theorem dL_law_322 : decode cL_law 322 = .ok (.ireturn, 1) := by decide +kernel
theorem dL_law_323 : decode cL_law 323 = .ok (.aload_n 1, 1) := by decide +kernel
theorem dL_law_324 : decode cL_law 324 = .ok (.invokevirtual 46, 3) := by decide +kernel
theorem dL_law_327 : decode cL_law 327 = .ok (.aload_n 2, 1) := by decide +kernel
theorem dL_law_328 : decode cL_law 328 = .ok (.invokevirtual 49, 3) := by decide +kernel
theorem dL_law_331 : decode cL_law 331 = .ok (.if_icmp .eq 410, 3) := by decide +kernel
theorem dL_law_334 : decode cL_law 334 = .ok (.iconst 0, 1) := by decide +kernel
theorem dL_law_335 : decode cL_law 335 = .ok (.ireturn, 1) := by decide +kernel
theorem dL_law_336 : decode cL_law 336 = .ok (.aload_n 1, 1) := by decide +kernel
theorem dL_law_337 : decode cL_law 337 = .ok (.invokevirtual 50, 3) := by decide +kernel
theorem dL_law_340 : decode cL_law 340 = .ok (.aload_n 2, 1) := by decide +kernel
theorem dL_law_341 : decode cL_law 341 = .ok (.invokevirtual 53, 3) := by decide +kernel
theorem dL_law_344 : decode cL_law 344 = .ok (.if_icmp .eq 397, 3) := by decide +kernel
theorem dL_law_347 : decode cL_law 347 = .ok (.iconst 0, 1) := by decide +kernel
theorem dL_law_348 : decode cL_law 348 = .ok (.ireturn, 1) := by decide +kernel
theorem dL_law_349 : decode cL_law 349 = .ok (.aload_n 1, 1) := by decide +kernel
theorem dL_law_350 : decode cL_law 350 = .ok (.invokevirtual 54, 3) := by decide +kernel
theorem dL_law_353 : decode cL_law 353 = .ok (.aload_n 2, 1) := by decide +kernel
theorem dL_law_354 : decode cL_law 354 = .ok (.invokevirtual 57, 3) := by decide +kernel
theorem dL_law_357 : decode cL_law 357 = .ok (.if_icmp .eq 384, 3) := by decide +kernel
theorem dL_law_360 : decode cL_law 360 = .ok (.iconst 0, 1) := by decide +kernel
theorem dL_law_361 : decode cL_law 361 = .ok (.ireturn, 1) := by decide +kernel
theorem dL_law_362 : decode cL_law 362 = .ok (.aload_n 1, 1) := by decide +kernel
theorem dL_law_363 : decode cL_law 363 = .ok (.invokevirtual 58, 3) := by decide +kernel
theorem dL_law_366 : decode cL_law 366 = .ok (.aload_n 2, 1) := by decide +kernel
theorem dL_law_367 : decode cL_law 367 = .ok (.invokevirtual 61, 3) := by decide +kernel
theorem dL_law_370 : decode cL_law 370 = .ok (.if_icmp .eq 371, 3) := by decide +kernel
theorem dL_law_373 : decode cL_law 373 = .ok (.iconst 0, 1) := by decide +kernel
theorem dL_law_374 : decode cL_law 374 = .ok (.ireturn, 1) := by decide +kernel
theorem dL_law_375 : decode cL_law 375 = .ok (.aload_n 1, 1) := by decide +kernel
theorem dL_law_376 : decode cL_law 376 = .ok (.invokevirtual 62, 3) := by decide +kernel
theorem dL_law_379 : decode cL_law 379 = .ok (.aload_n 2, 1) := by decide +kernel
theorem dL_law_380 : decode cL_law 380 = .ok (.invokevirtual 65, 3) := by decide +kernel
theorem dL_law_383 : decode cL_law 383 = .ok (.if_icmp .eq 358, 3) := by decide +kernel
theorem dL_law_386 : decode cL_law 386 = .ok (.iconst 0, 1) := by decide +kernel
theorem dL_law_387 : decode cL_law 387 = .ok (.ireturn, 1) := by decide +kernel
theorem dL_law_388 : decode cL_law 388 = .ok (.aload_n 1, 1) := by decide +kernel
theorem dL_law_389 : decode cL_law 389 = .ok (.aload_n 0, 1) := by decide +kernel
theorem dL_law_390 : decode cL_law 390 = .ok (.iload_n 3, 1) := by decide +kernel
theorem dL_law_391 : decode cL_law 391 = .ok (.iconst 1, 1) := by decide +kernel
theorem dL_law_392 : decode cL_law 392 = .ok (.iadd, 1) := by decide +kernel
theorem dL_law_393 : decode cL_law 393 = .ok (.iaload, 1) := by decide +kernel
theorem dL_law_394 : decode cL_law 394 = .ok (.aload_n 0, 1) := by decide +kernel
theorem dL_law_395 : decode cL_law 395 = .ok (.iload_n 3, 1) := by decide +kernel
theorem dL_law_396 : decode cL_law 396 = .ok (.iconst 2, 1) := by decide +kernel
theorem dL_law_397 : decode cL_law 397 = .ok (.iadd, 1) := by decide +kernel
theorem dL_law_398 : decode cL_law 398 = .ok (.iaload, 1) := by decide +kernel
theorem dL_law_399 : decode cL_law 399 = .ok (.invokevirtual 66, 3) := by decide +kernel
theorem dL_law_402 : decode cL_law 402 = .ok (.aload_n 2, 1) := by decide +kernel
theorem dL_law_403 : decode cL_law 403 = .ok (.aload_n 0, 1) := by decide +kernel
theorem dL_law_404 : decode cL_law 404 = .ok (.iload_n 3, 1) := by decide +kernel
theorem dL_law_405 : decode cL_law 405 = .ok (.iconst 1, 1) := by decide +kernel
theorem dL_law_406 : decode cL_law 406 = .ok (.iadd, 1) := by decide +kernel
theorem dL_law_407 : decode cL_law 407 = .ok (.iaload, 1) := by decide +kernel
theorem dL_law_408 : decode cL_law 408 = .ok (.aload_n 0, 1) := by decide +kernel
theorem dL_law_409 : decode cL_law 409 = .ok (.iload_n 3, 1) := by decide +kernel
theorem dL_law_410 : decode cL_law 410 = .ok (.iconst 2, 1) := by decide +kernel
theorem dL_law_411 : decode cL_law 411 = .ok (.iadd, 1) := by decide +kernel
theorem dL_law_412 : decode cL_law 412 = .ok (.iaload, 1) := by decide +kernel
theorem dL_law_413 : decode cL_law 413 = .ok (.invokevirtual 69, 3) := by decide +kernel
theorem dL_law_416 : decode cL_law 416 = .ok (.if_icmp .eq 325, 3) := by decide +kernel
theorem dL_law_419 : decode cL_law 419 = .ok (.iconst 0, 1) := by decide +kernel
theorem dL_law_420 : decode cL_law 420 = .ok (.ireturn, 1) := by decide +kernel
theorem dL_law_421 : decode cL_law 421 = .ok (.aload_n 1, 1) := by decide +kernel
theorem dL_law_422 : decode cL_law 422 = .ok (.aload_n 0, 1) := by decide +kernel
theorem dL_law_423 : decode cL_law 423 = .ok (.iload_n 3, 1) := by decide +kernel
theorem dL_law_424 : decode cL_law 424 = .ok (.iconst 1, 1) := by decide +kernel
theorem dL_law_425 : decode cL_law 425 = .ok (.iadd, 1) := by decide +kernel
theorem dL_law_426 : decode cL_law 426 = .ok (.iaload, 1) := by decide +kernel
theorem dL_law_427 : decode cL_law 427 = .ok (.aload_n 0, 1) := by decide +kernel
theorem dL_law_428 : decode cL_law 428 = .ok (.iload_n 3, 1) := by decide +kernel
theorem dL_law_429 : decode cL_law 429 = .ok (.iconst 2, 1) := by decide +kernel
theorem dL_law_430 : decode cL_law 430 = .ok (.iadd, 1) := by decide +kernel
theorem dL_law_431 : decode cL_law 431 = .ok (.iaload, 1) := by decide +kernel
theorem dL_law_432 : decode cL_law 432 = .ok (.aload_n 0, 1) := by decide +kernel
theorem dL_law_433 : decode cL_law 433 = .ok (.iload_n 3, 1) := by decide +kernel
theorem dL_law_434 : decode cL_law 434 = .ok (.iconst 3, 1) := by decide +kernel
theorem dL_law_435 : decode cL_law 435 = .ok (.iadd, 1) := by decide +kernel
theorem dL_law_436 : decode cL_law 436 = .ok (.iaload, 1) := by decide +kernel
theorem dL_law_437 : decode cL_law 437 = .ok (.invokevirtual 70, 3) := by decide +kernel
theorem dL_law_440 : decode cL_law 440 = .ok (.aload_n 2, 1) := by decide +kernel
theorem dL_law_441 : decode cL_law 441 = .ok (.aload_n 0, 1) := by decide +kernel
theorem dL_law_442 : decode cL_law 442 = .ok (.iload_n 3, 1) := by decide +kernel
theorem dL_law_443 : decode cL_law 443 = .ok (.iconst 1, 1) := by decide +kernel
theorem dL_law_444 : decode cL_law 444 = .ok (.iadd, 1) := by decide +kernel
theorem dL_law_445 : decode cL_law 445 = .ok (.iaload, 1) := by decide +kernel
theorem dL_law_446 : decode cL_law 446 = .ok (.aload_n 0, 1) := by decide +kernel
theorem dL_law_447 : decode cL_law 447 = .ok (.iload_n 3, 1) := by decide +kernel
theorem dL_law_448 : decode cL_law 448 = .ok (.iconst 2, 1) := by decide +kernel
theorem dL_law_449 : decode cL_law 449 = .ok (.iadd, 1) := by decide +kernel
theorem dL_law_450 : decode cL_law 450 = .ok (.iaload, 1) := by decide +kernel
theorem dL_law_451 : decode cL_law 451 = .ok (.aload_n 0, 1) := by decide +kernel
theorem dL_law_452 : decode cL_law 452 = .ok (.iload_n 3, 1) := by decide +kernel
theorem dL_law_453 : decode cL_law 453 = .ok (.iconst 3, 1) := by decide +kernel
theorem dL_law_454 : decode cL_law 454 = .ok (.iadd, 1) := by decide +kernel
theorem dL_law_455 : decode cL_law 455 = .ok (.iaload, 1) := by decide +kernel
theorem dL_law_456 : decode cL_law 456 = .ok (.invokevirtual 73, 3) := by decide +kernel
theorem dL_law_459 : decode cL_law 459 = .ok (.if_icmp .eq 282, 3) := by decide +kernel
theorem dL_law_462 : decode cL_law 462 = .ok (.iconst 0, 1) := by decide +kernel
theorem dL_law_463 : decode cL_law 463 = .ok (.ireturn, 1) := by decide +kernel
theorem dL_law_464 : decode cL_law 464 = .ok (.aload_n 1, 1) := by decide +kernel
theorem dL_law_465 : decode cL_law 465 = .ok (.aload_n 0, 1) := by decide +kernel
theorem dL_law_466 : decode cL_law 466 = .ok (.iload_n 3, 1) := by decide +kernel
theorem dL_law_467 : decode cL_law 467 = .ok (.iconst 1, 1) := by decide +kernel
theorem dL_law_468 : decode cL_law 468 = .ok (.iadd, 1) := by decide +kernel
theorem dL_law_469 : decode cL_law 469 = .ok (.iaload, 1) := by decide +kernel
theorem dL_law_470 : decode cL_law 470 = .ok (.aload_n 0, 1) := by decide +kernel
theorem dL_law_471 : decode cL_law 471 = .ok (.iload_n 3, 1) := by decide +kernel
theorem dL_law_472 : decode cL_law 472 = .ok (.iconst 2, 1) := by decide +kernel
theorem dL_law_473 : decode cL_law 473 = .ok (.iadd, 1) := by decide +kernel
theorem dL_law_474 : decode cL_law 474 = .ok (.iaload, 1) := by decide +kernel
theorem dL_law_475 : decode cL_law 475 = .ok (.aload_n 0, 1) := by decide +kernel
theorem dL_law_476 : decode cL_law 476 = .ok (.iload_n 3, 1) := by decide +kernel
theorem dL_law_477 : decode cL_law 477 = .ok (.iconst 3, 1) := by decide +kernel
theorem dL_law_478 : decode cL_law 478 = .ok (.iadd, 1) := by decide +kernel
theorem dL_law_479 : decode cL_law 479 = .ok (.iaload, 1) := by decide +kernel
theorem dL_law_480 : decode cL_law 480 = .ok (.invokevirtual 74, 3) := by decide +kernel
theorem dL_law_483 : decode cL_law 483 = .ok (.aload_n 2, 1) := by decide +kernel
theorem dL_law_484 : decode cL_law 484 = .ok (.aload_n 0, 1) := by decide +kernel
theorem dL_law_485 : decode cL_law 485 = .ok (.iload_n 3, 1) := by decide +kernel
theorem dL_law_486 : decode cL_law 486 = .ok (.iconst 1, 1) := by decide +kernel
theorem dL_law_487 : decode cL_law 487 = .ok (.iadd, 1) := by decide +kernel
theorem dL_law_488 : decode cL_law 488 = .ok (.iaload, 1) := by decide +kernel
theorem dL_law_489 : decode cL_law 489 = .ok (.aload_n 0, 1) := by decide +kernel
theorem dL_law_490 : decode cL_law 490 = .ok (.iload_n 3, 1) := by decide +kernel
theorem dL_law_491 : decode cL_law 491 = .ok (.iconst 2, 1) := by decide +kernel
theorem dL_law_492 : decode cL_law 492 = .ok (.iadd, 1) := by decide +kernel
theorem dL_law_493 : decode cL_law 493 = .ok (.iaload, 1) := by decide +kernel
theorem dL_law_494 : decode cL_law 494 = .ok (.aload_n 0, 1) := by decide +kernel
theorem dL_law_495 : decode cL_law 495 = .ok (.iload_n 3, 1) := by decide +kernel
theorem dL_law_496 : decode cL_law 496 = .ok (.iconst 3, 1) := by decide +kernel
theorem dL_law_497 : decode cL_law 497 = .ok (.iadd, 1) := by decide +kernel
theorem dL_law_498 : decode cL_law 498 = .ok (.iaload, 1) := by decide +kernel
theorem dL_law_499 : decode cL_law 499 = .ok (.invokevirtual 77, 3) := by decide +kernel
theorem dL_law_502 : decode cL_law 502 = .ok (.if_icmp .eq 239, 3) := by decide +kernel
theorem dL_law_505 : decode cL_law 505 = .ok (.iconst 0, 1) := by decide +kernel
theorem dL_law_506 : decode cL_law 506 = .ok (.ireturn, 1) := by decide +kernel
theorem dL_law_507 : decode cL_law 507 = .ok (.aload_n 1, 1) := by decide +kernel
theorem dL_law_508 : decode cL_law 508 = .ok (.aload_n 0, 1) := by decide +kernel
theorem dL_law_509 : decode cL_law 509 = .ok (.iload_n 3, 1) := by decide +kernel
theorem dL_law_510 : decode cL_law 510 = .ok (.iconst 1, 1) := by decide +kernel
theorem dL_law_511 : decode cL_law 511 = .ok (.iadd, 1) := by decide +kernel
theorem dL_law_512 : decode cL_law 512 = .ok (.iaload, 1) := by decide +kernel
theorem dL_law_513 : decode cL_law 513 = .ok (.aload_n 0, 1) := by decide +kernel
theorem dL_law_514 : decode cL_law 514 = .ok (.iload_n 3, 1) := by decide +kernel
theorem dL_law_515 : decode cL_law 515 = .ok (.iconst 2, 1) := by decide +kernel
theorem dL_law_516 : decode cL_law 516 = .ok (.iadd, 1) := by decide +kernel
theorem dL_law_517 : decode cL_law 517 = .ok (.iaload, 1) := by decide +kernel
theorem dL_law_518 : decode cL_law 518 = .ok (.invokevirtual 78, 3) := by decide +kernel
theorem dL_law_521 : decode cL_law 521 = .ok (.aload_n 2, 1) := by decide +kernel
theorem dL_law_522 : decode cL_law 522 = .ok (.aload_n 0, 1) := by decide +kernel
theorem dL_law_523 : decode cL_law 523 = .ok (.iload_n 3, 1) := by decide +kernel
theorem dL_law_524 : decode cL_law 524 = .ok (.iconst 1, 1) := by decide +kernel
theorem dL_law_525 : decode cL_law 525 = .ok (.iadd, 1) := by decide +kernel
theorem dL_law_526 : decode cL_law 526 = .ok (.iaload, 1) := by decide +kernel
theorem dL_law_527 : decode cL_law 527 = .ok (.aload_n 0, 1) := by decide +kernel
theorem dL_law_528 : decode cL_law 528 = .ok (.iload_n 3, 1) := by decide +kernel
theorem dL_law_529 : decode cL_law 529 = .ok (.iconst 2, 1) := by decide +kernel
theorem dL_law_530 : decode cL_law 530 = .ok (.iadd, 1) := by decide +kernel
theorem dL_law_531 : decode cL_law 531 = .ok (.iaload, 1) := by decide +kernel
theorem dL_law_532 : decode cL_law 532 = .ok (.invokevirtual 81, 3) := by decide +kernel
theorem dL_law_535 : decode cL_law 535 = .ok (.if_icmp .eq 206, 3) := by decide +kernel
theorem dL_law_538 : decode cL_law 538 = .ok (.iconst 0, 1) := by decide +kernel
theorem dL_law_539 : decode cL_law 539 = .ok (.ireturn, 1) := by decide +kernel
theorem dL_law_540 : decode cL_law 540 = .ok (.aload_n 1, 1) := by decide +kernel
theorem dL_law_541 : decode cL_law 541 = .ok (.aload_n 0, 1) := by decide +kernel
theorem dL_law_542 : decode cL_law 542 = .ok (.iload_n 3, 1) := by decide +kernel
theorem dL_law_543 : decode cL_law 543 = .ok (.iconst 1, 1) := by decide +kernel
theorem dL_law_544 : decode cL_law 544 = .ok (.iadd, 1) := by decide +kernel
theorem dL_law_545 : decode cL_law 545 = .ok (.iaload, 1) := by decide +kernel
theorem dL_law_546 : decode cL_law 546 = .ok (.aload_n 0, 1) := by decide +kernel
theorem dL_law_547 : decode cL_law 547 = .ok (.iload_n 3, 1) := by decide +kernel
theorem dL_law_548 : decode cL_law 548 = .ok (.iconst 2, 1) := by decide +kernel
theorem dL_law_549 : decode cL_law 549 = .ok (.iadd, 1) := by decide +kernel
theorem dL_law_550 : decode cL_law 550 = .ok (.iaload, 1) := by decide +kernel
theorem dL_law_551 : decode cL_law 551 = .ok (.invokevirtual 82, 3) := by decide +kernel
theorem dL_law_554 : decode cL_law 554 = .ok (.aload_n 2, 1) := by decide +kernel
theorem dL_law_555 : decode cL_law 555 = .ok (.aload_n 0, 1) := by decide +kernel
theorem dL_law_556 : decode cL_law 556 = .ok (.iload_n 3, 1) := by decide +kernel
theorem dL_law_557 : decode cL_law 557 = .ok (.iconst 1, 1) := by decide +kernel
theorem dL_law_558 : decode cL_law 558 = .ok (.iadd, 1) := by decide +kernel
theorem dL_law_559 : decode cL_law 559 = .ok (.iaload, 1) := by decide +kernel
theorem dL_law_560 : decode cL_law 560 = .ok (.aload_n 0, 1) := by decide +kernel
theorem dL_law_561 : decode cL_law 561 = .ok (.iload_n 3, 1) := by decide +kernel
theorem dL_law_562 : decode cL_law 562 = .ok (.iconst 2, 1) := by decide +kernel
theorem dL_law_563 : decode cL_law 563 = .ok (.iadd, 1) := by decide +kernel
theorem dL_law_564 : decode cL_law 564 = .ok (.iaload, 1) := by decide +kernel
theorem dL_law_565 : decode cL_law 565 = .ok (.invokevirtual 85, 3) := by decide +kernel
theorem dL_law_568 : decode cL_law 568 = .ok (.if_icmp .eq 173, 3) := by decide +kernel
theorem dL_law_571 : decode cL_law 571 = .ok (.iconst 0, 1) := by decide +kernel
theorem dL_law_572 : decode cL_law 572 = .ok (.ireturn, 1) := by decide +kernel
theorem dL_law_573 : decode cL_law 573 = .ok (.aload_n 1, 1) := by decide +kernel
theorem dL_law_574 : decode cL_law 574 = .ok (.aload_n 0, 1) := by decide +kernel
theorem dL_law_575 : decode cL_law 575 = .ok (.iload_n 3, 1) := by decide +kernel
theorem dL_law_576 : decode cL_law 576 = .ok (.iconst 1, 1) := by decide +kernel
theorem dL_law_577 : decode cL_law 577 = .ok (.iadd, 1) := by decide +kernel
theorem dL_law_578 : decode cL_law 578 = .ok (.iaload, 1) := by decide +kernel
theorem dL_law_579 : decode cL_law 579 = .ok (.aload_n 0, 1) := by decide +kernel
theorem dL_law_580 : decode cL_law 580 = .ok (.iload_n 3, 1) := by decide +kernel
theorem dL_law_581 : decode cL_law 581 = .ok (.iconst 2, 1) := by decide +kernel
theorem dL_law_582 : decode cL_law 582 = .ok (.iadd, 1) := by decide +kernel
theorem dL_law_583 : decode cL_law 583 = .ok (.iaload, 1) := by decide +kernel
theorem dL_law_584 : decode cL_law 584 = .ok (.invokevirtual 86, 3) := by decide +kernel
theorem dL_law_587 : decode cL_law 587 = .ok (.aload_n 2, 1) := by decide +kernel
theorem dL_law_588 : decode cL_law 588 = .ok (.aload_n 0, 1) := by decide +kernel
theorem dL_law_589 : decode cL_law 589 = .ok (.iload_n 3, 1) := by decide +kernel
theorem dL_law_590 : decode cL_law 590 = .ok (.iconst 1, 1) := by decide +kernel
theorem dL_law_591 : decode cL_law 591 = .ok (.iadd, 1) := by decide +kernel
theorem dL_law_592 : decode cL_law 592 = .ok (.iaload, 1) := by decide +kernel
theorem dL_law_593 : decode cL_law 593 = .ok (.aload_n 0, 1) := by decide +kernel
theorem dL_law_594 : decode cL_law 594 = .ok (.iload_n 3, 1) := by decide +kernel
theorem dL_law_595 : decode cL_law 595 = .ok (.iconst 2, 1) := by decide +kernel
theorem dL_law_596 : decode cL_law 596 = .ok (.iadd, 1) := by decide +kernel
theorem dL_law_597 : decode cL_law 597 = .ok (.iaload, 1) := by decide +kernel
theorem dL_law_598 : decode cL_law 598 = .ok (.invokevirtual 89, 3) := by decide +kernel
theorem dL_law_601 : decode cL_law 601 = .ok (.if_icmp .eq 140, 3) := by decide +kernel
theorem dL_law_604 : decode cL_law 604 = .ok (.iconst 0, 1) := by decide +kernel
theorem dL_law_605 : decode cL_law 605 = .ok (.ireturn, 1) := by decide +kernel
theorem dL_law_606 : decode cL_law 606 = .ok (.aload_n 1, 1) := by decide +kernel
theorem dL_law_607 : decode cL_law 607 = .ok (.aload_n 0, 1) := by decide +kernel
theorem dL_law_608 : decode cL_law 608 = .ok (.iload_n 3, 1) := by decide +kernel
theorem dL_law_609 : decode cL_law 609 = .ok (.iconst 1, 1) := by decide +kernel
theorem dL_law_610 : decode cL_law 610 = .ok (.iadd, 1) := by decide +kernel
theorem dL_law_611 : decode cL_law 611 = .ok (.iaload, 1) := by decide +kernel
theorem dL_law_612 : decode cL_law 612 = .ok (.invokevirtual 90, 3) := by decide +kernel
theorem dL_law_615 : decode cL_law 615 = .ok (.aload_n 2, 1) := by decide +kernel
theorem dL_law_616 : decode cL_law 616 = .ok (.aload_n 0, 1) := by decide +kernel
theorem dL_law_617 : decode cL_law 617 = .ok (.iload_n 3, 1) := by decide +kernel
theorem dL_law_618 : decode cL_law 618 = .ok (.iconst 1, 1) := by decide +kernel
theorem dL_law_619 : decode cL_law 619 = .ok (.iadd, 1) := by decide +kernel
theorem dL_law_620 : decode cL_law 620 = .ok (.iaload, 1) := by decide +kernel
theorem dL_law_621 : decode cL_law 621 = .ok (.invokevirtual 93, 3) := by decide +kernel
theorem dL_law_624 : decode cL_law 624 = .ok (.if_icmp .eq 117, 3) := by decide +kernel
theorem dL_law_627 : decode cL_law 627 = .ok (.iconst 0, 1) := by decide +kernel
theorem dL_law_628 : decode cL_law 628 = .ok (.ireturn, 1) := by decide +kernel
theorem dL_law_629 : decode cL_law 629 = .ok (.aload_n 1, 1) := by decide +kernel
theorem dL_law_630 : decode cL_law 630 = .ok (.invokevirtual 94, 3) := by decide +kernel
theorem dL_law_633 : decode cL_law 633 = .ok (.f2d, 1) := by decide +kernel
theorem dL_law_634 : decode cL_law 634 = .ok (.dstore 4, 2) := by decide +kernel
theorem dL_law_636 : decode cL_law 636 = .ok (.aload_n 2, 1) := by decide +kernel
theorem dL_law_637 : decode cL_law 637 = .ok (.invokevirtual 98, 3) := by decide +kernel
theorem dL_law_640 : decode cL_law 640 = .ok (.f2d, 1) := by decide +kernel
theorem dL_law_641 : decode cL_law 641 = .ok (.dstore 6, 2) := by decide +kernel
theorem dL_law_643 : decode cL_law 643 = .ok (.dload 4, 2) := by decide +kernel
theorem dL_law_645 : decode cL_law 645 = .ok (.dload 6, 2) := by decide +kernel
theorem dL_law_647 : decode cL_law 647 = .ok (.dcmp .l, 1) := by decide +kernel
theorem dL_law_648 : decode cL_law 648 = .ok (.ifCond .eq 21, 3) := by decide +kernel
theorem dL_law_651 : decode cL_law 651 = .ok (.dload 4, 2) := by decide +kernel
theorem dL_law_653 : decode cL_law 653 = .ok (.dload 4, 2) := by decide +kernel
theorem dL_law_655 : decode cL_law 655 = .ok (.dcmp .l, 1) := by decide +kernel
theorem dL_law_656 : decode cL_law 656 = .ok (.ifCond .eq 11, 3) := by decide +kernel
theorem dL_law_659 : decode cL_law 659 = .ok (.dload 6, 2) := by decide +kernel
theorem dL_law_661 : decode cL_law 661 = .ok (.dload 6, 2) := by decide +kernel
theorem dL_law_663 : decode cL_law 663 = .ok (.dcmp .l, 1) := by decide +kernel
theorem dL_law_664 : decode cL_law 664 = .ok (.ifCond .ne 5, 3) := by decide +kernel
theorem dL_law_667 : decode cL_law 667 = .ok (.iconst 0, 1) := by decide +kernel
theorem dL_law_668 : decode cL_law 668 = .ok (.ireturn, 1) := by decide +kernel
theorem dL_law_669 : decode cL_law 669 = .ok (.goto 72, 3) := by decide +kernel
theorem dL_law_672 : decode cL_law 672 = .ok (.aload_n 1, 1) := by decide +kernel
theorem dL_law_673 : decode cL_law 673 = .ok (.aload_n 0, 1) := by decide +kernel
theorem dL_law_674 : decode cL_law 674 = .ok (.iload_n 3, 1) := by decide +kernel
theorem dL_law_675 : decode cL_law 675 = .ok (.iconst 1, 1) := by decide +kernel
theorem dL_law_676 : decode cL_law 676 = .ok (.iadd, 1) := by decide +kernel
theorem dL_law_677 : decode cL_law 677 = .ok (.iaload, 1) := by decide +kernel
theorem dL_law_678 : decode cL_law 678 = .ok (.invokevirtual 99, 3) := by decide +kernel
theorem dL_law_681 : decode cL_law 681 = .ok (.aload_n 2, 1) := by decide +kernel
theorem dL_law_682 : decode cL_law 682 = .ok (.aload_n 0, 1) := by decide +kernel
theorem dL_law_683 : decode cL_law 683 = .ok (.iload_n 3, 1) := by decide +kernel
theorem dL_law_684 : decode cL_law 684 = .ok (.iconst 1, 1) := by decide +kernel
theorem dL_law_685 : decode cL_law 685 = .ok (.iadd, 1) := by decide +kernel
theorem dL_law_686 : decode cL_law 686 = .ok (.iaload, 1) := by decide +kernel
theorem dL_law_687 : decode cL_law 687 = .ok (.invokevirtual 102, 3) := by decide +kernel
theorem dL_law_690 : decode cL_law 690 = .ok (.if_icmp .eq 51, 3) := by decide +kernel
theorem dL_law_693 : decode cL_law 693 = .ok (.iconst 0, 1) := by decide +kernel
theorem dL_law_694 : decode cL_law 694 = .ok (.ireturn, 1) := by decide +kernel
theorem dL_law_695 : decode cL_law 695 = .ok (.aload_n 1, 1) := by decide +kernel
theorem dL_law_696 : decode cL_law 696 = .ok (.aload_n 0, 1) := by decide +kernel
theorem dL_law_697 : decode cL_law 697 = .ok (.iload_n 3, 1) := by decide +kernel
theorem dL_law_698 : decode cL_law 698 = .ok (.iconst 1, 1) := by decide +kernel
theorem dL_law_699 : decode cL_law 699 = .ok (.iadd, 1) := by decide +kernel
theorem dL_law_700 : decode cL_law 700 = .ok (.iaload, 1) := by decide +kernel
theorem dL_law_701 : decode cL_law 701 = .ok (.invokevirtual 103, 3) := by decide +kernel
theorem dL_law_704 : decode cL_law 704 = .ok (.aload_n 2, 1) := by decide +kernel
theorem dL_law_705 : decode cL_law 705 = .ok (.aload_n 0, 1) := by decide +kernel
theorem dL_law_706 : decode cL_law 706 = .ok (.iload_n 3, 1) := by decide +kernel
theorem dL_law_707 : decode cL_law 707 = .ok (.iconst 1, 1) := by decide +kernel
theorem dL_law_708 : decode cL_law 708 = .ok (.iadd, 1) := by decide +kernel
theorem dL_law_709 : decode cL_law 709 = .ok (.iaload, 1) := by decide +kernel
theorem dL_law_710 : decode cL_law 710 = .ok (.invokevirtual 106, 3) := by decide +kernel
theorem dL_law_713 : decode cL_law 713 = .ok (.if_icmp .eq 28, 3) := by decide +kernel
theorem dL_law_716 : decode cL_law 716 = .ok (.iconst 0, 1) := by decide +kernel
theorem dL_law_717 : decode cL_law 717 = .ok (.ireturn, 1) := by decide +kernel
theorem dL_law_718 : decode cL_law 718 = .ok (.aload_n 1, 1) := by decide +kernel
theorem dL_law_719 : decode cL_law 719 = .ok (.aload_n 0, 1) := by decide +kernel
theorem dL_law_720 : decode cL_law 720 = .ok (.iload_n 3, 1) := by decide +kernel
theorem dL_law_721 : decode cL_law 721 = .ok (.iconst 1, 1) := by decide +kernel
theorem dL_law_722 : decode cL_law 722 = .ok (.iadd, 1) := by decide +kernel
theorem dL_law_723 : decode cL_law 723 = .ok (.iaload, 1) := by decide +kernel
theorem dL_law_724 : decode cL_law 724 = .ok (.invokevirtual 107, 3) := by decide +kernel
theorem dL_law_727 : decode cL_law 727 = .ok (.aload_n 2, 1) := by decide +kernel
theorem dL_law_728 : decode cL_law 728 = .ok (.aload_n 0, 1) := by decide +kernel
theorem dL_law_729 : decode cL_law 729 = .ok (.iload_n 3, 1) := by decide +kernel
theorem dL_law_730 : decode cL_law 730 = .ok (.iconst 1, 1) := by decide +kernel
theorem dL_law_731 : decode cL_law 731 = .ok (.iadd, 1) := by decide +kernel
theorem dL_law_732 : decode cL_law 732 = .ok (.iaload, 1) := by decide +kernel
theorem dL_law_733 : decode cL_law 733 = .ok (.invokevirtual 110, 3) := by decide +kernel
theorem dL_law_736 : decode cL_law 736 = .ok (.if_icmp .eq 5, 3) := by decide +kernel
theorem dL_law_739 : decode cL_law 739 = .ok (.iconst 0, 1) := by decide +kernel
theorem dL_law_740 : decode cL_law 740 = .ok (.ireturn, 1) := by decide +kernel
theorem dL_law_741 : decode cL_law 741 = .ok (.iinc 3 4, 3) := by decide +kernel
theorem dL_law_744 : decode cL_law 744 = .ok (.goto (-726), 3) := by decide +kernel
theorem dL_law_747 : decode cL_law 747 = .ok (.iconst 1, 1) := by decide +kernel
theorem dL_law_748 : decode cL_law 748 = .ok (.ireturn, 1) := by decide +kernel
end
section
/-! ONE WORLD FOR ALL METHODS THAT MAKE NOTHING: n cells at the addresses ad 0 .. ad (n-1), what the cell k holds is cE k (h k), h : cell -> slot -> int -/
abbrev Hp : Type := Nat → Nat → Int32
def hs (h : Hp) (k j : Nat) (v : Int32) : Hp := fun a b => if a = k ∧ b = j then v else h a b
theorem hs_row (h : Hp) (k j : Nat) (v : Int32) : hs h k j v k = upd (h k) j v := by
  funext b
  simp [hs, upd]
theorem hs_ne (h : Hp) (k j : Nat) (v : Int32) {a : Nat} (ha : a ≠ k) : hs h k j v a = h a := by
  funext b
  simp [hs, ha]
def adOk (ad : Nat → Nat) (n : Nat) : Prop := ∀ i j : Nat, i < n → j < n → ad i = ad j → i = j
def inW (ad : Nat → Nat) (n : Nat) : Nat → Prop := fun q => ∃ k : Nat, k < n ∧ ad k = q
def wl (ad : Nat → Nat) (n : Nat) (g : Nat → va_E) : va_W := (List.range n).map (fun k => (ad k, g k))
theorem wl_get {ad : Nat → Nat} {n k : Nat} {g : Nat → va_E} (hk : k < n) : (wl ad n g)[k]? = some (ad k, g k) := by
  unfold wl
  rw [List.getElem?_map, List.getElem?_range hk]
  rfl
theorem wl_len {ad : Nat → Nat} {n : Nat} {g : Nat → va_E} : (wl ad n g).length = n := by simp [wl]
theorem wl_inv {ad : Nat → Nat} {n k : Nat} {g : Nat → va_E} {q : Nat × va_E} (h : (wl ad n g)[k]? = some q) : k < n ∧ q = (ad k, g k) := by
  have hk : k < n := by
    have h1 := (List.getElem?_eq_some_iff.mp h).1
    rw [wl_len] at h1
    exact h1
  rw [wl_get hk] at h
  exact ⟨hk, (Option.some.inj h).symm⟩
theorem wl_D {ad : Nat → Nat} {n : Nat} {g : Nat → va_E} (hA : adOk ad n) : va_D (inW ad n) (wl ad n g) := by
  refine ⟨fun i j p q hi hj hpq => ?_, fun k q hk => ?_⟩
  · obtain ⟨h1, rfl⟩ := wl_inv hi
    obtain ⟨h2, rfl⟩ := wl_inv hj
    exact hA i j h1 h2 hpq
  · obtain ⟨h1, rfl⟩ := wl_inv hk
    exact ⟨k, h1, rfl⟩
theorem wl_set {ad : Nat → Nat} {n k : Nat} {g g' : Nat → va_E} {e : va_E} (hk : k < n) (he : g' k = e) (ho : ∀ j : Nat, j ≠ k → g' j = g j) : (wl ad n g).set k (ad k, e) = wl ad n g' := by
  apply List.ext_getElem?
  intro i
  by_cases hi : i < n
  · by_cases hik : i = k
    · subst hik
      rw [List.getElem?_set_self (by rw [wl_len]; exact hk), wl_get hk, he]
    · rw [List.getElem?_set_ne (Ne.symm hik), wl_get hi, wl_get hi, ho i hik]
  · rw [List.getElem?_eq_none (by rw [List.length_set, wl_len]; exact Nat.not_lt.mp hi), List.getElem?_eq_none (by rw [wl_len]; exact Nat.not_lt.mp hi)]
/-- the cells hold h -/
def wp (D : va_G) (cE : Nat → (Nat → Int32) → va_E) (ad : Nat → Nat) (n : Nat) (h : Hp) (H : Heap) : Prop := va_P D vwCl (wl ad n (fun k => cE k (h k))) H
theorem wp_set {D : va_G} {cE : Nat → (Nat → Int32) → va_E} {ad : Nat → Nat} {n : Nat} {h : Hp} {H : Heap} {k j : Nat} {v : Int32} {e : va_E} (hk : k < n) (he : cE k (upd (h k) j v) = e) (hP : va_P D vwCl ((wl ad n (fun k => cE k (h k))).set k (ad k, e)) H) : wp D cE ad n (hs h k j v) H := by
  unfold wp
  rw [wl_set (g' := fun a => cE a (hs h k j v a)) hk (by show cE k (hs h k j v k) = e; rw [hs_row, he]) (fun a ha => by show cE a (hs h k j v a) = cE a (h a); rw [hs_ne h k j v ha])] at hP
  exact hP
/-- an object: some slots are references that stay, the others ints -/
def obv (rf : Nat → Option Nat) (r : Nat → Int32) (j : Nat) : Value := match rf j with
  | some a => .ref a
  | none => .int (r j)
def obf (rf : Nat → Option Nat) (N : Nat) (r : Nat → Int32) : List Value := (List.range N).map (obv rf r)
def ob (ci : Nat) (rf : Nat → Option Nat) (N : Nat) (r : Nat → Int32) : va_E := .inr (ci, obf rf N r)
theorem obf_len {rf : Nat → Option Nat} {N : Nat} {r : Nat → Int32} : (obf rf N r).length = N := by simp [obf]
theorem obf_get {rf : Nat → Option Nat} {N j : Nat} {r : Nat → Int32} (hj : j < N) : (obf rf N r)[j]? = some (obv rf r j) := by
  unfold obf
  rw [List.getElem?_map, List.getElem?_range hj]
  rfl
theorem obf_set {rf : Nat → Option Nat} {N j : Nat} {r : Nat → Int32} {v : Int32} (hj : j < N) (hr : rf j = none) : (obf rf N r).set j (.int v) = obf rf N (upd r j v) := by
  apply List.ext_getElem?
  intro i
  by_cases hi : i < N
  · by_cases hij : i = j
    · subst hij
      rw [List.getElem?_set_self (by rw [obf_len]; exact hj), obf_get hj]
      simp [obv, hr, upd]
    · rw [List.getElem?_set_ne (Ne.symm hij), obf_get hi, obf_get hi]
      simp [obv, upd, hij]
  · rw [List.getElem?_eq_none (by rw [List.length_set, obf_len]; exact Nat.not_lt.mp hi), List.getElem?_eq_none (by rw [obf_len]; exact Nat.not_lt.mp hi)]
/-- the words that all methods share: those of the tables that outlast a call -/
def W0 : List Cond := lw_tbl.filter goodWord
theorem W0_in {w : Cond} (h : w ∈ W0) : w ∈ lw_tbl := (List.mem_filter.mp h).1
theorem W0_good {w : Cond} (h : w ∈ W0) : goodWord w = true := (List.mem_filter.mp h).2
theorem w0_mk {w : Cond} (i : Nat) (h : lw_tbl[i]? = some w) (hg : goodWord w = true) : w ∈ W0 := List.mem_filter.mpr ⟨List.mem_of_getElem? h, hg⟩
theorem w0_sub {ws : List Cond} (ps : List Nat) (hp : ws = ps.filterMap (fun i => lw_tbl[i]?)) (h : ws.all goodWord = true) : ∀ w ∈ ws, w ∈ W0 := by
  intro w hw
  have hg := List.all_eq_true.mp h w hw
  rw [hp] at hw
  obtain ⟨i, -, hi⟩ := List.mem_filterMap.mp hw
  exact w0_mk i hi hg
def tysOf (ids : Nat → ClassId) : List (ClassId × FieldType) := [(ids 0, .char), (ids 1, .int), (ids 2, .object RX2), (ids 3, .object RX3), (ids 4, .object RX5), (ids 5, .object RX6)]
/-- what stands through a whole method -/
def CX (p : Program) (s : State) (m : MethodId) (args : Array Value) (meth : Method) (c : Code) (cc : ByteArray) (nL : Nat) (ret : Option FieldType) (own : String) (D : va_G) (ids : Nat → ClassId) : Prop :=
  p.tables.exec = Jvm.exec ∧ c.code = cc ∧ c.maxLocals = nL ∧ meth.sig.returnType = ret ∧ meth.locks = false ∧ s.vm.findClass own = some m.cls ∧ (∀ w ∈ W0, w.before args s = true) ∧ va_K D vwCl (tysOf ids) s
def ws_ (y : MethodName) (b : ByteArray) (maxL : Nat) (ret : Option FieldType) : List Cond := .code y b maxL ret :: W0
theorem ws_in {Ts : List Cond} {y : MethodName} {b : ByteArray} {maxL : Nat} {ret : Option FieldType} (h : Cond.code y b maxL ret ∈ W0) (hT : ∀ w ∈ W0, w ∈ Ts) : GoodIn Ts (ws_ y b maxL ret) := by
  intro w hw
  have hm : w ∈ W0 := (List.mem_cons.mp hw).elim (fun e => by rw [e]; exact h) id
  exact ⟨hT w hm, good_of_word (W0_good hm)⟩
/-- what a method finds, and what it leaves: Ex is what else stands that nobody changes -/
def WB (D : va_G) (ids : Nat → ClassId) (cE : Nat → (Nat → Int32) → va_E) (ad : Nat → Nat) (n : Nat) (Ex : State → Heap → Prop) (h : Hp) (U : State) : Prop := wp D cE ad n h U.heap ∧ va_K D vwCl (tysOf ids) U ∧ Ex U U.heap
def QW (D : va_G) (cE : Nat → (Nat → Int32) → va_E) (ad : Nat → Nat) (n : Nat) (rv : Option Value) (h : Hp) : Array Value → State → Outcome → State → Prop := fun _ st oc t => oc = .returned rv ∧ wp D cE ad n h t.heap ∧ va_F (inW ad n) st t
/-- Ex goes with the state -/
def ExOk (ad : Nat → Nat) (n : Nat) (Ex : State → Heap → Prop) : Prop :=
  (∀ (s U : State) (H : Heap), s.WarmedH U.vm → Ex s H → Ex U H) ∧ (∀ (U : State) (g : JFrame) (mk : MethodId) (a : Array Value) (H : Heap), Ex U H → Ex (U.calling g mk a) H) ∧ (∀ (s : State) (H0 H : Heap) (locs : List Loc), va_S (inW ad n) H0 H locs → Ex s H0 → Ex s H)
theorem g_t {c : Prop} [Decidable c] {α : Type} {a b r : α} (hc : c) (h : (if c then a else b) = r) : a = r := by rw [if_pos hc] at h; exact h
theorem g_f {c : Prop} [Decidable c] {α : Type} {a b r : α} (hc : ¬ c) (h : (if c then a else b) = r) : b = r := by rw [if_neg hc] at h; exact h
theorem g_if {c : Prop} [Decidable c] {α : Type} {a : Option α} {r : α} (h : (if c then a else none) = some r) : c ∧ a = some r := by
  by_cases hc : c
  · rw [if_pos hc] at h; exact ⟨hc, h⟩
  · rw [if_neg hc] at h; cases h
theorem g_b {α β : Type} {o : Option α} {k : α → Option β} {r : β} (h : o.bind k = some r) : ∃ q, o = some q ∧ k q = some r := by
  cases o with
  | none => cases h
  | some q => exact ⟨q, rfl, h⟩
def inb (i : Int32) (n : Nat) : Bool := decide (0 ≤ i.toInt ∧ i.toInt < (n : Int))
theorem inb_in {i : Int32} {n : Nat} (h : inb i n = true) : vp_in i n := vp_in_iff.mpr (of_decide_eq_true h)
def isb (v : Int32) : Bool := decide (v = 0 ∨ v = 1)
theorem isb_n {v : Int32} (h : isb v = true) : narrow .boolean (.int v) = .int v ∧ fits .boolean (.int v) = true := by
  rcases (of_decide_eq_true h : v = 0 ∨ v = 1) with rfl | rfl
  · exact ⟨rfl, rfl⟩
  · exact ⟨rfl, rfl⟩
section UROWS
variable {p : Program} {l : Launch} {e : Env} {R : Room} {s : State} {m : MethodId} {args : Array Value} {below : List Frame} {meth : Method} {c : Code} {H : Heap} {locs : List Loc} {cells slots : Nat} {Q : State → Prop}
variable {cc : ByteArray} {nL : Nat} {ret : Option FieldType} {own : String} {pc : Nat} {ls : Array Slot} {rest st0 : List Value} {D : va_G} {ids : Nat → ClassId} {cE : Nat → (Nat → Int32) → va_E} {ad : Nat → Nat} {n : Nat} {Ex : State → Heap → Prop} {h h1 : Hp}
theorem u_get (C : CX p s m args meth c cc nL ret own D ids) (hP : wp D cE ad n h H) {k ci N index : Nat} {rf : Nat → Option Nat} {RC : String} {TC : u_T} (hk : k < n) (he : ∀ r, cE k r = ob ci rf N r) (hc : vwCl[ci]? = some (RC, TC, N)) (hin : ∀ w ∈ u_ws RC TC N, w ∈ W0) (j : Nat) (hj : j < N) {v : Value} (hv : obv rf (h k) j = v) (hlink : Cond.fieldLink own index (TC j).1 (TC j).2.1 (TC j).2.2.1 ∈ W0) (hdg : decode cc pc = .ok (.getfield index, 3))
    (kk : W p l e R s m args below meth c H locs cells slots Q (F0 m (pc + 3) ls (v :: rest))) : W p l e R s m args below meth c H locs cells slots Q (F0 m pc ls (.ref (ad k) :: rest)) := by
  obtain ⟨hx, hb, -, -, -, hown, hts, hK⟩ := C
  exact va_get hx hb hts hin hown hK hP k (by rw [wl_get hk, he]; rfl) hc j hj (hts _ hlink) (fun _ z => z) (by rw [obf_get hj, hv]) hdg kk
theorem u_put (hA : adOk ad n) (C : CX p s m args meth c cc nL ret own D ids) (hP : wp D cE ad n h H) (hS : va_S (inW ad n) s.heap H locs) {k ci N index : Nat} {rf : Nat → Option Nat} {RC : String} {TC : u_T} (hk : k < n) (he : ∀ r, cE k r = ob ci rf N r) (hc : vwCl[ci]? = some (RC, TC, N)) (hin : ∀ w ∈ u_ws RC TC N, w ∈ W0) (ty0 : Nat → FieldType) (hty : ∀ k, k < N → parseFieldDescriptor (TC k).2.2.1 = some (ty0 k)) (hnm : ∀ a, a < N → ∀ b, b < N → a ≠ b → (TC a).2.1 ≠ (TC b).2.1) (j : Nat) (hj : j < N) (hrf : rf j = none) (hlink : Cond.fieldLink own index (TC j).1 (TC j).2.1 (TC j).2.2.1 ∈ W0) (hfin : (TC j).2.2.2 = false) {ty : FieldType} {v : Int32} (hd : parseFieldDescriptor (TC j).2.2.1 = some ty) (hn : narrow ty (.int v) = .int v) (hfit : fits ty (.int v) = true) (hdg : decode cc pc = .ok (.putfield index, 3))
    (kk : ∀ (H1 : Heap) (locs1 : List Loc), wp D cE ad n (hs h k j v) H1 → va_S (inW ad n) s.heap H1 locs1 → W p l e R s m args below meth c H1 locs1 cells slots Q (F0 m (pc + 3) ls rest)) : W p l e R s m args below meth c H locs cells slots Q (F0 m pc ls (.int v :: .ref (ad k) :: rest)) := by
  obtain ⟨hx, hb, -, -, -, hown, hts, hK⟩ := C
  exact va_put hx hb hts hin ty0 hty hnm hown hK hP (wl_D hA) hS k (by rw [wl_get hk, he]; rfl) hc j hj (hts _ hlink) (fun _ z => z) hfin hd hn hfit (by rw [obf_len]; exact hj) hdg (fun H1 locs1 hP1 _ hS1 => kk H1 locs1 (wp_set hk (by rw [he, ob, ← obf_set hj hrf]) hP1) hS1)
theorem u_iald (C : CX p s m args meth c cc nL ret own D ids) (hP : wp D cE ad n h H) {k N : Nat} (hk : k < n) (he : ∀ r, cE k r = .inl (ids 1, N, .inl r)) {i : Int32} (hin : inb i N = true) (hdg : decode cc pc = .ok (.iaload, 1))
    (kk : W p l e R s m args below meth c H locs cells slots Q (F0 m (pc + 1) ls (.int (h k i.toNatClampNeg) :: rest))) : W p l e R s m args below meth c H locs cells slots Q (F0 m pc ls (.int i :: .ref (ad k) :: rest)) := by
  obtain ⟨hx, hb, -, -, -, hown, hts, hK⟩ := C
  exact va_iald hx hb hK hP k 1 (by rw [wl_get hk, he]) rfl (inb_in hin) hdg kk
theorem u_iast (hA : adOk ad n) (C : CX p s m args meth c cc nL ret own D ids) (hP : wp D cE ad n h H) (hS : va_S (inW ad n) s.heap H locs) {k N : Nat} (hk : k < n) (he : ∀ r, cE k r = .inl (ids 1, N, .inl r)) {i x : Int32} (hin : inb i N = true) (hdg : decode cc pc = .ok (.iastore, 1))
    (kk : ∀ (H1 : Heap) (locs1 : List Loc), wp D cE ad n (hs h k i.toNatClampNeg x) H1 → va_S (inW ad n) s.heap H1 locs1 → W p l e R s m args below meth c H1 locs1 cells slots Q (F0 m (pc + 1) ls rest)) : W p l e R s m args below meth c H locs cells slots Q (F0 m pc ls (.int x :: .int i :: .ref (ad k) :: rest)) := by
  obtain ⟨hx, hb, -, -, -, hown, hts, hK⟩ := C
  exact va_iast hx hb hK hP (wl_D hA) hS k 1 (by rw [wl_get hk, he]) rfl (inb_in hin) hdg (fun H1 locs1 hP1 _ hS1 => kk H1 locs1 (wp_set hk (he _) hP1) hS1)
theorem u_cald (C : CX p s m args meth c cc nL ret own D ids) (hP : wp D cE ad n h H) {k N : Nat} (hk : k < n) (he : ∀ r, cE k r = .inl (ids 0, N, .inl r)) {i : Int32} (hin : inb i N = true) (hdg : decode cc pc = .ok (.caload, 1))
    (kk : W p l e R s m args below meth c H locs cells slots Q (F0 m (pc + 1) ls (.int (h k i.toNatClampNeg) :: rest))) : W p l e R s m args below meth c H locs cells slots Q (F0 m pc ls (.int i :: .ref (ad k) :: rest)) := by
  obtain ⟨hx, hb, -, -, -, hown, hts, hK⟩ := C
  exact va_cald hx hb hK hP k 0 (by rw [wl_get hk, he]) rfl (inb_in hin) hdg kk
theorem u_cast (hA : adOk ad n) (C : CX p s m args meth c cc nL ret own D ids) (hP : wp D cE ad n h H) (hS : va_S (inW ad n) s.heap H locs) {k N : Nat} (hk : k < n) (he : ∀ r, cE k r = .inl (ids 0, N, .inl r)) {i x : Int32} (hin : inb i N = true) (hdg : decode cc pc = .ok (.castore, 1))
    (kk : ∀ (H1 : Heap) (locs1 : List Loc), wp D cE ad n (hs h k i.toNatClampNeg (vp_nar .char x)) H1 → va_S (inW ad n) s.heap H1 locs1 → W p l e R s m args below meth c H1 locs1 cells slots Q (F0 m (pc + 1) ls rest)) : W p l e R s m args below meth c H locs cells slots Q (F0 m pc ls (.int x :: .int i :: .ref (ad k) :: rest)) := by
  obtain ⟨hx, hb, -, -, -, hown, hts, hK⟩ := C
  exact va_cast hx hb hK hP (wl_D hA) hS k 0 (by rw [wl_get hk, he]) rfl (inb_in hin) hdg (fun H1 locs1 hP1 _ hS1 => kk H1 locs1 (wp_set hk (he _) hP1) hS1)
theorem u_aald (C : CX p s m args meth c cc nL ret own D ids) (hP : wp D cE ad n h H) {k N : Nat} (t : Nat) {f : (Nat → Int32) → Nat → Option Nat} {CN : String} (ht : (tysOf ids)[t]? = some (ids t, .object CN)) (hk : k < n) (he : ∀ r, cE k r = .inl (ids t, N, .inr (.inr (.inr (.inr (f r)))))) {i : Int32} (hin : inb i N = true) {x : Nat} (hv : f (h k) i.toNatClampNeg = some x) (hdg : decode cc pc = .ok (.aaload, 1))
    (kk : W p l e R s m args below meth c H locs cells slots Q (F0 m (pc + 1) ls (.ref x :: rest))) : W p l e R s m args below meth c H locs cells slots Q (F0 m pc ls (.int i :: .ref (ad k) :: rest)) := by
  obtain ⟨hx, hb, -, -, -, hown, hts, hK⟩ := C
  exact va_aldq hx hb hK hP k t (by rw [wl_get hk, he]) ht (inb_in hin) hdg (by rw [hv]; exact kk)
theorem u_aast (hA : adOk ad n) (C : CX p s m args meth c cc nL ret own D ids) (hP : wp D cE ad n h H) (hS : va_S (inW ad n) s.heap H locs) {k N : Nat} (t : Nat) {f : (Nat → Int32) → Nat → Option Nat} {r : vw_C} (ht : (tysOf ids)[t]? = some (ids t, .object r.1)) (hk : k < n) (he : ∀ r, cE k r = .inl (ids t, N, .inr (.inr (.inr (.inr (f r)))))) {x ci : Nat} {vs : List Value} (hxn : x < n) (hxe : cE x (h x) = .inr (ci, vs)) (hc : vwCl[ci]? = some r) {i u : Int32} (hin : inb i N = true) (hf : f (upd (h k) i.toNatClampNeg u) = va_up (f (h k)) i.toNatClampNeg (some (ad x))) (hdg : decode cc pc = .ok (.aastore, 1))
    (kk : ∀ (H1 : Heap) (locs1 : List Loc), wp D cE ad n (hs h k i.toNatClampNeg u) H1 → va_S (inW ad n) s.heap H1 locs1 → W p l e R s m args below meth c H1 locs1 cells slots Q (F0 m (pc + 1) ls rest)) : W p l e R s m args below meth c H locs cells slots Q (F0 m pc ls (.ref (ad x) :: .int i :: .ref (ad k) :: rest)) := by
  obtain ⟨hx, hb, -, -, -, hown, hts, hK⟩ := C
  exact va_astq hx hb hK hP (wl_D hA) hS k t x ci (by rw [wl_get hk, he]) ht (by rw [wl_get hxn, hxe]) hc (inb_in hin) hdg (fun H1 locs1 hP1 _ hS1 => kk H1 locs1 (wp_set hk (by rw [he, hf]) hP1) hS1)
theorem u_alen (C : CX p s m args meth c cc nL ret own D ids) (hP : wp D cE ad n h H) {k : Nat} (t : Nat) {x : vp_A} {ty : FieldType} (ht : (tysOf ids)[t]? = some (ids t, ty)) (hk : k < n) (he : cE k (h k) = .inl (ids t, x)) {v : Int32} (hv : Int32.ofNat x.1 = v) (hdg : decode cc pc = .ok (.arraylength, 1))
    (kk : W p l e R s m args below meth c H locs cells slots Q (F0 m (pc + 1) ls (.int v :: rest))) : W p l e R s m args below meth c H locs cells slots Q (F0 m pc ls (.ref (ad k) :: rest)) := by
  obtain ⟨hx, hb, -, -, -, hown, hts, hK⟩ := C
  exact va_alen hx hb hK hP k t (by rw [wl_get hk, he]) ht hv hdg kk
theorem u_iret (C : CX p s m args meth c cc nL (some .int) own D ids) (hP : wp D cE ad n h H) (hS : va_S (inW ad n) s.heap H locs) {v : Int32} (hdg : decode cc pc = .ok (.ireturn, 1)) : W p l e R s m args below meth c H locs cells slots (MQ below (QW D cE ad n (some (.int v)) h) args s cells slots (inW ad n)) (F0 m pc ls [.int v]) := by
  obtain ⟨hx, hb, -, hr, hlocks, hown, hts, hK⟩ := C
  exact W.iret hx hb hr (fun t ht _ => ⟨rfl, by rw [ht]; exact hP, hS.F ht⟩) hS.2.2 hdg
theorem u_zret (C : CX p s m args meth c cc nL (some .boolean) own D ids) (hP : wp D cE ad n h H) (hS : va_S (inW ad n) s.heap H locs) {v : Int32} (hv : isb v = true) (hdg : decode cc pc = .ok (.ireturn, 1)) : W p l e R s m args below meth c H locs cells slots (MQ below (QW D cE ad n (some (.int v)) h) args s cells slots (inW ad n)) (F0 m pc ls [.int v]) := by
  obtain ⟨hx, hb, -, hr, hlocks, hown, hts, hK⟩ := C
  exact W.zret hx hb hr (isb_n hv).1 (fun t ht _ => ⟨rfl, by rw [ht]; exact hP, hS.F ht⟩) hS.2.2 hdg
theorem u_vret (C : CX p s m args meth c cc nL none own D ids) (hP : wp D cE ad n h H) (hS : va_S (inW ad n) s.heap H locs) (hdg : decode cc pc = .ok (.return_, 1)) : W p l e R s m args below meth c H locs cells slots (MQ below (QW D cE ad n none h) args s cells slots (inW ad n)) (F0 m pc ls []) := by
  obtain ⟨hx, hb, -, hr, hlocks, hown, hts, hK⟩ := C
  exact W.vret hx hb hr (fun t ht _ => ⟨rfl, by rw [ht]; exact hP, hS.F ht⟩) hS.2.2 hdg
theorem u_aret {nm : String} (C : CX p s m args meth c cc nL (some (.object nm)) own D ids) (hP : wp D cE ad n h H) (hS : va_S (inW ad n) s.heap H locs) {a : Nat} (hdg : decode cc pc = .ok (.areturn, 1)) : W p l e R s m args below meth c H locs cells slots (MQ below (QW D cE ad n (some (.ref a)) h) args s cells slots (inW ad n)) (F0 m pc ls [.ref a]) := by
  obtain ⟨hx, hb, -, hr, hlocks, hown, hts, hK⟩ := C
  exact W.aret hx hb hr (Or.inl ⟨_, rfl⟩) (Or.inr ⟨_, rfl⟩) (fun t ht _ => ⟨rfl, by rw [ht]; exact hP, hS.F ht⟩) hS.2.2 hdg
/-- a call's end -/
theorem u_back {rv : Option Value} {a : Array Value} (hr : va_Run p l e R s m args below meth c H locs 0 0 0 0 (F0 m pc ls st0) rest (QW D cE ad n rv h1 a) (inW ad n)) (hS : va_S (inW ad n) s.heap H locs)
    (kk : ∀ (H1 : Heap) (locs1 : List Loc), wp D cE ad n h1 H1 → va_S (inW ad n) s.heap H1 locs1 → W p l e R s m args below meth c H1 locs1 0 0 Q (F0 m (pc + 3) ls (rv.toList ++ rest))) : W p l e R s m args below meth c H locs 0 0 Q (F0 m pc ls st0) := by
  intro T hT X
  obtain ⟨v, st₀, t, T', L, h0, X', hL, e1, e2, ⟨hv, hp, hz, hk⟩, st⟩ := hr T hT X
  cases hv
  rw [h0] at hz hk
  obtain ⟨t2, a1, b1⟩ := kk T'.heap (locs ++ L) (by rw [e1]; exact hp)
    ⟨Nat.le_trans hS.1 (by rw [e1]; exact hz), fun q g1 g2 => by rw [e1, hk q (Nat.lt_of_lt_of_le g1 hS.1) g2]; exact hS.2.1 q g1 g2, fun q hq => by
      rcases List.mem_append.mp hq with g | g
      · exact hS.2.2 q g
      · exact hL q g⟩ T' rfl X'
  exact ⟨t2, st t2 a1, b1⟩
theorem WB_blind {As : List Value} (hEx : ExOk ad n Ex) : FrameBlind (va_Pc As (WB D ids cE ad n Ex h)) := by
  intro a U g mk q
  obtain ⟨q0, q1, q2, q3⟩ := q
  exact ⟨q0, q1, va_K.moved (u := U) (U := U.calling g mk a) (Vm.Alike.refl U.vm) q2, hEx.2.1 _ _ _ _ _ q3⟩
theorem WB_pre {As : List Value} (C : CX p s m args meth c cc nL ret own D ids) (hEx : ExOk ad n Ex) (hX : Ex s s.heap) (hP : wp D cE ad n h H) (hS : va_S (inW ad n) s.heap H locs) : ∀ U : State, U.heap = H → s.WarmedH U.vm → va_Pc As (WB D ids cE ad n Ex h) As.toArray U := by
  obtain ⟨hx, hb, -, hr, hlocks, hown, hts, hK⟩ := C
  intro U hU hW
  exact ⟨rfl, by rw [hU]; exact hP, va_K.moved hW.alike hK, by rw [hU]; exact hEx.1 s U H hW (hEx.2.2 s s.heap H locs hS hX)⟩
theorem u_callV {y : MethodName} {bytes : ByteArray} {maxL index k ci : Nat} {rt : Option FieldType} {rm : Room} {As vs : List Value} {rv : Option Value} {r : vw_C} (C : CX p s m args meth c cc nL ret own D ids) (hEx : ExOk ad n Ex) (hX : Ex s s.heap)
    (hM : Met l y (ws_ y bytes maxL rt) rm (va_Pc (.ref (ad k) :: As) (WB D ids cE ad n Ex h)) (QW D cE ad n rv h1) 0 0 (inW ad n))
    (q1 : Cond.methodLink own index y ∈ W0) (q2 : Cond.instanceMethod y ∈ W0) (q3 : Cond.selects r.1 y y ∈ W0) (q4 : Cond.initialized y.cls ∈ W0) (q5 : Cond.code y bytes maxL rt ∈ W0)
    (hrm : rm.cells = 0 ∧ rm.slots = 0) (hd : y.cls ≠ "java/lang/invoke/MethodHandle" ∧ y.cls ≠ "java/lang/invoke/VarHandle" ∧ (parseMethodDescriptor y.desc).map (fun d => d.parameters.length) = some As.length) (hR : rm.frames + 1 ≤ R.frames ∧ 8 + (maxL + 11) + rm.locals ≤ R.locals)
    (hk : k < n) (he : cE k (h k) = .inr (ci, vs)) (hc : vwCl[ci]? = some r) (hP : wp D cE ad n h H) (hS : va_S (inW ad n) s.heap H locs) (hsz : ls.size = nL) (hcat : (rest.map fun v => v.category).sum ≤ 8) (hst : st0 = As.reverse ++ .ref (ad k) :: rest) (hdg : decode cc pc = .ok (.invokevirtual index, 3))
    (kk : ∀ (H1 : Heap) (locs1 : List Loc), wp D cE ad n h1 H1 → va_S (inW ad n) s.heap H1 locs1 → W p l e R s m args below meth c H1 locs1 0 0 Q (F0 m (pc + 3) ls (rv.toList ++ rest))) : W p l e R s m args below meth c H locs 0 0 Q (F0 m pc ls st0) := by
  have C0 := C
  obtain ⟨hx, hb, hml, hr, hlocks, hown, hts, hK⟩ := C
  refine u_back (va_runV (C := r.1) (b := ad k) (As := As) (rest := rest) (n := As.length) ⟨hx, hb, hml, hown, hts⟩ hM ⟨callB_of As.length hts (ws_in q5 (fun _ z => z)) rfl hrm.1 hrm.2 (hts _ q4) (hts _ q1) hd hR, hts _ q2, hts _ q3⟩ ⟨WB_blind hEx, va_recv hK hP (q0 := k) hc (by rw [wl_get hk, he]), WB_pre C0 hEx hX hP hS⟩ rfl rfl hsz hst (lv_room hcat) hdg ⟨Nat.zero_le _, Nat.zero_le _⟩) hS kk
theorem u_callS {y : MethodName} {bytes : ByteArray} {maxL index : Nat} {rt : Option FieldType} {rm : Room} {As : List Value} {rv : Option Value} (C : CX p s m args meth c cc nL ret own D ids) (hEx : ExOk ad n Ex) (hX : Ex s s.heap)
    (hM : Met l y (ws_ y bytes maxL rt) rm (va_Pc As (WB D ids cE ad n Ex h)) (QW D cE ad n rv h1) 0 0 (inW ad n))
    (q1 : Cond.methodLink own index y ∈ W0) (q2 : Cond.static y ∈ W0) (q4 : Cond.initialized y.cls ∈ W0) (q5 : Cond.code y bytes maxL rt ∈ W0)
    (hrm : rm.cells = 0 ∧ rm.slots = 0) (hd : y.cls ≠ "java/lang/invoke/MethodHandle" ∧ y.cls ≠ "java/lang/invoke/VarHandle" ∧ (parseMethodDescriptor y.desc).map (fun d => d.parameters.length) = some As.length) (hR : rm.frames + 1 ≤ R.frames ∧ 8 + (maxL + 11) + rm.locals ≤ R.locals)
    (hP : wp D cE ad n h H) (hS : va_S (inW ad n) s.heap H locs) (hsz : ls.size = nL) (hcat : (rest.map fun v => v.category).sum ≤ 8) (hst : st0 = As.reverse ++ rest) (hdg : decode cc pc = .ok (.invokestatic index, 3))
    (kk : ∀ (H1 : Heap) (locs1 : List Loc), wp D cE ad n h1 H1 → va_S (inW ad n) s.heap H1 locs1 → W p l e R s m args below meth c H1 locs1 0 0 Q (F0 m (pc + 3) ls (rv.toList ++ rest))) : W p l e R s m args below meth c H locs 0 0 Q (F0 m pc ls st0) := by
  have C0 := C
  obtain ⟨hx, hb, hml, hr, hlocks, hown, hts, hK⟩ := C
  refine u_back (va_runS (As := As) (rest := rest) (n := As.length) ⟨hx, hb, hml, hown, hts⟩ hM ⟨callB_of As.length hts (ws_in q5 (fun _ z => z)) rfl hrm.1 hrm.2 (hts _ q4) (hts _ q1) hd hR, hts _ q2⟩ ⟨WB_blind hEx, WB_pre C0 hEx hX hP hS⟩ rfl rfl hsz hst (lv_room hcat) hdg ⟨Nat.zero_le _, Nat.zero_le _⟩) hS kk
theorem u_callN {y : MethodName} {host : String} {bytes : ByteArray} {maxL index : Nat} {rt : Option FieldType} {rm : Room} {As : List Value} {rv : Option Value} (C : CX p s m args meth c cc nL ret own D ids) (hEx : ExOk ad n Ex) (hX : Ex s s.heap) (hN : va_Nw (.methodLinkNest own index y host) s)
    (hM : Met l y (ws_ y bytes maxL rt) rm (va_Pc As (WB D ids cE ad n Ex h)) (QW D cE ad n rv h1) 0 0 (inW ad n))
    (q2 : Cond.static y ∈ W0) (q4 : Cond.initialized y.cls ∈ W0) (q5 : Cond.code y bytes maxL rt ∈ W0)
    (hrm : rm.cells = 0 ∧ rm.slots = 0) (hd : y.cls ≠ "java/lang/invoke/MethodHandle" ∧ y.cls ≠ "java/lang/invoke/VarHandle" ∧ (parseMethodDescriptor y.desc).map (fun d => d.parameters.length) = some As.length) (hR : rm.frames + 1 ≤ R.frames ∧ 8 + (maxL + 11) + rm.locals ≤ R.locals)
    (hP : wp D cE ad n h H) (hS : va_S (inW ad n) s.heap H locs) (hsz : ls.size = nL) (hcat : (rest.map fun v => v.category).sum ≤ 8) (hst : st0 = As.reverse ++ rest) (hdg : decode cc pc = .ok (.invokestatic index, 3))
    (kk : ∀ (H1 : Heap) (locs1 : List Loc), wp D cE ad n h1 H1 → va_S (inW ad n) s.heap H1 locs1 → W p l e R s m args below meth c H1 locs1 0 0 Q (F0 m (pc + 3) ls (rv.toList ++ rest))) : W p l e R s m args below meth c H locs 0 0 Q (F0 m pc ls st0) := by
  have C0 := C
  obtain ⟨hx, hb, hml, hr, hlocks, hown, hts, hK⟩ := C
  refine u_back (va_runSN (As := As) (rest := rest) (n := As.length) ⟨hx, hb, hml, hown, hts⟩ hM ⟨va_cnB As.length hts (ws_in q5 (fun _ z => z)) rfl hrm.1 hrm.2 hN (hts _ q4) hd hR, hts _ q2, trivial⟩ ⟨WB_blind hEx, WB_pre C0 hEx hX hP hS⟩ rfl rfl hsz hst (lv_room hcat) hdg ⟨Nat.zero_le _, Nat.zero_le _⟩) hS kk
end UROWS
/-- a method's walk gives its contract -/
theorem u_met {l : Launch} {y : MethodName} {own : String} {bytes : ByteArray} {maxL : Nat} {rt : Option FieldType} {rm : Room} {As : List Value} {rv : Option Value} {D : va_G} {ids : Nat → ClassId} {cE : Nat → (Nat → Int32) → va_E} {ad : Nat → Nat} {n : Nat} {Ex : State → Heap → Prop} {h h1 : Hp} {lv : List (Nat × Value)} (hy : plainName y.cls = true) (hown : y.cls = own) (hsl : (lg_sl As).length ≤ maxL) (hlv : lv_args 0 As = lv)
    (body : ∀ (p : Program) (e : Env) (s : State) (m : MethodId) (args : Array Value) (below : List Frame) (meth : Method) (c : Code) (H : Heap) (ls : Array Slot), CX p s m args meth c bytes maxL rt own D ids → Ex s s.heap → wp D cE ad n h H → va_S (inW ad n) s.heap H [] → lv_has ls maxL lv → W p l e rm s m args below meth c H [] 0 0 (MQ below (QW D cE ad n rv h1) args s 0 0 (inW ad n)) (F0 m 0 ls [])) :
    Met l y (ws_ y bytes maxL rt) rm (va_Pc As (WB D ids cE ad n Ex h)) (QW D cE ad n rv h1) 0 0 (inW ad n) := by
  refine Met.ofW (cc := bytes) (maxL := maxL) (ret := rt) hy rfl ?_
  intro p e s m args below meth c s₁ B hml hv
  obtain ⟨rfl, hP, hK, hX⟩ := hv
  have hts := atoms_spec (ws := ws_ y bytes maxL rt) B.pre
  have hfc : s.vm.findClass own = some m.cls := by rw [← hown]; exact findClass_of_methodNamed B.named
  have hl := lv_entry As (n := maxL) hsl
  rw [lg_entry_eq]
  generalize (lg_sl As ++ List.replicate (maxL - (lg_sl As).length) Slot.unset).toArray = ls at hl ⊢
  rw [hlv] at hl
  exact body p e s m As.toArray below meth c s.heap ls ⟨B.exec, B.bytes, hml, B.returns, B.notSynchronized, hfc, fun w hw => hts w (List.mem_cons_of_mem _ hw), hK⟩ hX hP va_S.rf hl
end
section
/-! WHICH CELL IS WHAT. The class: 0 the object; 1+5i the state i (0 now, 1 the snapshot, 2..5 the history's, 6 trial), its row of captains behind it, its three captains behind that; 36 the history; 37 the text, 38 its signs; 39 the board, 40 its timetables, 41 users, 42 44 46 timetables with their hours behind them; 48 the sailed day, 49 its ferries, 50 53 56 a ferry, its timetable, its hours. The reference: 0 the object, 1..11 its rows. -/
abbrev isX5 (k : Nat) : Prop := k < 36 ∧ k % 5 = 1
abbrev isaCap (k : Nat) : Prop := k < 36 ∧ k % 5 = 2
abbrev isX2 (k : Nat) : Prop := 3 ≤ k ∧ k < 36 ∧ (k % 5 = 3 ∨ k % 5 = 4 ∨ k % 5 = 0)
abbrev isX6 (k : Nat) : Prop := k = 42 ∨ k = 44 ∨ k = 46 ∨ k = 51 ∨ k = 54 ∨ k = 57
abbrev isaHr (k : Nat) : Prop := k = 43 ∨ k = 45 ∨ k = 47 ∨ k = 52 ∨ k = 55 ∨ k = 58
abbrev isX3 (k : Nat) : Prop := k = 50 ∨ k = 53 ∨ k = 56
abbrev hiOk (k : Nat) : Prop := k = 11 ∨ k = 16 ∨ k = 21 ∨ k = 26
def rfX7 (ad : Nat → Nat) : Nat → Option Nat := fun j => match j with
  | 0 => some (ad 1)
  | 1 => some (ad 6)
  | 3 => some (ad 36)
  | 5 => some (ad 37)
  | 6 => some (ad 31)
  | 7 => some (ad 39)
  | 8 => some (ad 48)
  | _ => none
def rf0 : Nat → Option Nat := fun _ => none
/-- one reference, in the slot 0 -/
def rf1 (a : Nat) : Nat → Option Nat := fun j => match j with
  | 0 => some a
  | _ => none
def rf2 (a b : Nat) : Nat → Option Nat := fun j => match j with
  | 0 => some a
  | _ => some b
def cEC (ids : Nat → ClassId) (ad : Nat → Nat) (k : Nat) (r : Nat → Int32) : va_E :=
  if k < 36 then
    if k = 0 then ob 7 (rfX7 ad) 9 r
    else if k % 5 = 1 then ob 5 (rf1 (ad (k + 1))) 7 r
    else if k % 5 = 2 then .inl (ids 2, 3, .inr (.inr (.inr (.inr (fun i => some (ad (k + 1 + i)))))))
    else ob 2 rf0 10 r
  else if k < 42 then
    if k = 36 then .inl (ids 4, 4, .inr (.inr (.inr (.inr (fun i => some (ad (11 + 5 * (r i).toNatClampNeg)))))))
    else if k = 37 then ob 0 (rf1 (ad 38)) 7 r
    else if k = 38 then .inl (ids 0, 60, .inl r)
    else if k = 39 then ob 1 (rf2 (ad 40) (ad 41)) 2 r
    else if k = 40 then .inl (ids 5, 3, .inr (.inr (.inr (.inr (fun i => some (ad (42 + 2 * i)))))))
    else .inl (ids 1, 48, .inl r)
  else if k = 42 ∨ k = 44 ∨ k = 46 ∨ k = 51 ∨ k = 54 ∨ k = 57 then ob 6 (rf1 (ad (k + 1))) 3 r
  else if k = 43 ∨ k = 45 ∨ k = 47 ∨ k = 52 ∨ k = 55 ∨ k = 58 then .inl (ids 1, 8, .inl r)
  else if k = 48 then ob 4 (rf1 (ad 49)) 3 r
  else if k = 49 then .inl (ids 3, 3, .inr (.inr (.inr (.inr (fun i => some (ad (50 + 3 * i)))))))
  else ob 3 (rf1 (ad (k + 1))) 11 r
def rfX8 (ad : Nat → Nat) : Nat → Option Nat := fun j => if j < 11 then some (ad (j + 1)) else none
def szM (k : Nat) : Nat := match k with
  | 1 => 36
  | 2 => 36
  | 3 => 36
  | 4 => 144
  | 5 => 60
  | 6 => 24
  | _ => 3
def cEM (ids : Nat → ClassId) (ad : Nat → Nat) (k : Nat) (r : Nat → Int32) : va_E := if k = 0 then ob 8 (rfX8 ad) 16 r else .inl (ids 1, szM k, .inl r)
section KINDS
variable {ids : Nat → ClassId} {ad : Nat → Nat} {k : Nat}
theorem cE_X7 (r : Nat → Int32) : cEC ids ad 0 r = ob 7 (rfX7 ad) 9 r := rfl
theorem cE_aSt (r : Nat → Int32) : cEC ids ad 36 r = .inl (ids 4, 4, .inr (.inr (.inr (.inr (fun i => some (ad (11 + 5 * (r i).toNatClampNeg))))))) := rfl
theorem cE_X0 (r : Nat → Int32) : cEC ids ad 37 r = ob 0 (rf1 (ad 38)) 7 r := rfl
theorem cE_aC (r : Nat → Int32) : cEC ids ad 38 r = .inl (ids 0, 60, .inl r) := rfl
theorem cE_X1 (r : Nat → Int32) : cEC ids ad 39 r = ob 1 (rf2 (ad 40) (ad 41)) 2 r := rfl
theorem cE_aTt (r : Nat → Int32) : cEC ids ad 40 r = .inl (ids 5, 3, .inr (.inr (.inr (.inr (fun i => some (ad (42 + 2 * i))))))) := rfl
theorem cE_aU (r : Nat → Int32) : cEC ids ad 41 r = .inl (ids 1, 48, .inl r) := rfl
theorem cE_X4 (r : Nat → Int32) : cEC ids ad 48 r = ob 4 (rf1 (ad 49)) 3 r := rfl
theorem cE_aFe (r : Nat → Int32) : cEC ids ad 49 r = .inl (ids 3, 3, .inr (.inr (.inr (.inr (fun i => some (ad (50 + 3 * i))))))) := rfl
theorem cE_X5 (hk : isX5 k) (r : Nat → Int32) : cEC ids ad k r = ob 5 (rf1 (ad (k + 1))) 7 r := by
  unfold cEC
  rw [if_pos hk.1, if_neg (by omega), if_pos hk.2]
theorem cE_aCap (hk : isaCap k) (r : Nat → Int32) : cEC ids ad k r = .inl (ids 2, 3, .inr (.inr (.inr (.inr (fun i => some (ad (k + 1 + i))))))) := by
  unfold cEC
  rw [if_pos hk.1, if_neg (by omega), if_neg (by omega), if_pos hk.2]
theorem cE_X2 (hk : isX2 k) (r : Nat → Int32) : cEC ids ad k r = ob 2 rf0 10 r := by
  unfold cEC
  rw [if_pos hk.2.1, if_neg (by omega), if_neg (by omega), if_neg (by omega)]
theorem cE_X6 (hk : isX6 k) (r : Nat → Int32) : cEC ids ad k r = ob 6 (rf1 (ad (k + 1))) 3 r := by
  unfold cEC
  rw [if_neg (by omega), if_neg (by omega), if_pos hk]
theorem cE_aHr (hk : isaHr k) (r : Nat → Int32) : cEC ids ad k r = .inl (ids 1, 8, .inl r) := by
  unfold cEC
  rw [if_neg (by omega), if_neg (by omega), if_neg (by omega), if_pos hk]
theorem cE_X3 (hk : isX3 k) (r : Nat → Int32) : cEC ids ad k r = ob 3 (rf1 (ad (k + 1))) 11 r := by
  unfold cEC
  rw [if_neg (by omega), if_neg (by omega), if_neg (by omega), if_neg (by omega), if_neg (by omega), if_neg (by omega)]
theorem cE_X8 (r : Nat → Int32) : cEM ids ad 0 r = ob 8 (rfX8 ad) 16 r := rfl
theorem cE_m1 (r : Nat → Int32) : cEM ids ad 1 r = .inl (ids 1, 36, .inl r) := rfl
theorem cE_m2 (r : Nat → Int32) : cEM ids ad 2 r = .inl (ids 1, 36, .inl r) := rfl
theorem cE_m3 (r : Nat → Int32) : cEM ids ad 3 r = .inl (ids 1, 36, .inl r) := rfl
theorem cE_m4 (r : Nat → Int32) : cEM ids ad 4 r = .inl (ids 1, 144, .inl r) := rfl
theorem cE_m5 (r : Nat → Int32) : cEM ids ad 5 r = .inl (ids 1, 60, .inl r) := rfl
theorem cE_m6 (r : Nat → Int32) : cEM ids ad 6 r = .inl (ids 1, 24, .inl r) := rfl
theorem cE_m7 (r : Nat → Int32) : cEM ids ad 7 r = .inl (ids 1, 3, .inl r) := rfl
theorem cE_m8 (r : Nat → Int32) : cEM ids ad 8 r = .inl (ids 1, 3, .inl r) := rfl
theorem cE_m9 (r : Nat → Int32) : cEM ids ad 9 r = .inl (ids 1, 3, .inl r) := rfl
theorem cE_m10 (r : Nat → Int32) : cEM ids ad 10 r = .inl (ids 1, 3, .inl r) := rfl
theorem cE_m11 (r : Nat → Int32) : cEM ids ad 11 r = .inl (ids 1, 3, .inl r) := rfl
end KINDS
theorem lt_X5 {k : Nat} (hk : isX5 k) : k < 59 := by omega
theorem lt_aCap {k : Nat} (hk : isaCap k) : k < 59 := by omega
theorem lt_X2 {k : Nat} (hk : isX2 k) : k < 59 := by omega
theorem lt_X6 {k : Nat} (hk : isX6 k) : k < 59 := by omega
theorem lt_aHr {k : Nat} (hk : isaHr k) : k < 59 := by omega
theorem lt_X3 {k : Nat} (hk : isX3 k) : k < 59 := by omega
theorem inb_nat {i : Int32} {n : Nat} (hg : inb i n = true) (hn : n < 2 ^ 31) : i.toNatClampNeg < n := by
  obtain ⟨j, hj, rfl⟩ := vp_in_of (inb_in hg) hn
  rw [nI_clamp (by omega)]
  exact hj
theorem cap_of {k : Nat} (hk : isX5 k) : isaCap (k + 1) := by omega
theorem hr_of {k : Nat} (hk : isX6 k) : isaHr (k + 1) := by omega
theorem tt_of {k : Nat} (hk : isX3 k) : isX6 (k + 1) := by omega
theorem cp_el {k : Nat} {i : Int32} (hk : isaCap k) (hg : inb i 3 = true) : isX2 (k + 1 + i.toNatClampNeg) := by
  have h := inb_nat hg (by decide)
  omega
theorem tt_el {i : Int32} (hg : inb i 3 = true) : isX6 (42 + 2 * i.toNatClampNeg) := by
  have h := inb_nat hg (by decide)
  omega
theorem fe_el {i : Int32} (hg : inb i 3 = true) : isX3 (50 + 3 * i.toNatClampNeg) := by
  have h := inb_nat hg (by decide)
  omega
theorem hi_el {u : Int32} (hg : inb u 4 = true) : isX5 (11 + 5 * u.toNatClampNeg) := by
  have h := inb_nat hg (by decide)
  omega
theorem pX5_1 : isX5 1 := by decide
theorem pX5_6 : isX5 6 := by decide
theorem pX5_31 : isX5 31 := by decide
/-- the four tables of the class -/
def sL0 : Nat → Int32 := fun j => if j = 1 then 1 else 0
def sG0 : Nat → Int32 := fun j => if j = 0 then 11 else if j = 1 then 6 else if j = 2 then 23 else 1
def sL1 : Nat → Int32 := fun j => if j = 1 then 1 else 0
def sG1 : Nat → Int32 := fun j => if j = 1 then 9 else 1
def f_within (N : Nat) (f g : Nat → Int32) (a1 a2 : Int32) : Int32 := if a1 < 0 then 0 else if Int32.ofNat N ≤ a1 then 0 else if a2 < f a1.toNatClampNeg then 0 else if g a1.toNatClampNeg < a2 then 0 else 1
def f_X7_isValueOfCaptain (h : Hp) (a1 a2 : Int32) : Option (Int32 × Hp) := some (f_within 4 sL0 sG0 a1 a2, h)
def f_X7_isValueOfSetting (h : Hp) (a1 a2 : Int32) : Option (Int32 × Hp) := some (f_within 2 sL1 sG1 a1 a2, h)
end
section
/-- the rounds that a loop is given -/
abbrev FU : Nat := 200
def f_X7_isCaptain (h : Hp) (a1 : Int32) : Option (Int32 × Hp) :=
    if a1 < 0 then
      some ((0 : Int32), h)
    else
      if (3 : Int32) ≤ a1 then
        some ((0 : Int32), h)
      else
        some ((1 : Int32), h)
def f_X2_tell (h : Hp) (k : Nat) (a1 : Int32) : Option (Int32 × Hp) :=
    if a1 = 0 then
      some ((h k 0), h)
    else
    if a1 = 1 then
      some ((h k 1), h)
    else
    if a1 = 2 then
      some ((h k 2), h)
    else
    if a1 = 3 then
      some ((h k 3), h)
    else
    if a1 = 4 then
      some ((0 : Int32), h)
    else
    if a1 = 5 then
      some ((h k 4), h)
    else
    if a1 = 6 then
      some ((h k 5), h)
    else
    if a1 = 7 then
      some ((h k 6), h)
    else
    if a1 = 8 then
      some ((h k 7), h)
    else
    if a1 = 9 then
      some ((h k 8), h)
    else
    if a1 = 10 then
      some ((h k 9), h)
    else
    some ((0 : Int32), h)
def f_X2_copyFrom_64 (k : Nat) (k1 : Nat) (h : Hp) : Option (Hp) :=
    some (hs (hs h k 8 (h k1 8)) k 9 ((hs h k 8 (h k1 8)) k1 9))
def f_X2_copyFrom_48 (k : Nat) (k1 : Nat) (h : Hp) : Option (Hp) :=
    f_X2_copyFrom_64 k k1 (hs (hs h k 6 (h k1 6)) k 7 ((hs h k 6 (h k1 6)) k1 7))
def f_X2_copyFrom_32 (k : Nat) (k1 : Nat) (h : Hp) : Option (Hp) :=
    f_X2_copyFrom_48 k k1 (hs (hs h k 4 (h k1 4)) k 5 ((hs h k 4 (h k1 4)) k1 5))
def f_X2_copyFrom_16 (k : Nat) (k1 : Nat) (h : Hp) : Option (Hp) :=
    f_X2_copyFrom_32 k k1 (hs (hs h k 2 (h k1 2)) k 3 ((hs h k 2 (h k1 2)) k1 3))
def f_X2_copyFrom (h : Hp) (k : Nat) (k1 : Nat) : Option (Hp) :=
    f_X2_copyFrom_16 k k1 (hs (hs h k 0 (h k1 0)) k 1 ((hs h k 0 (h k1 0)) k1 1))
def f_X5_copyFrom_60 (k : Nat) (k1 : Nat) (h : Hp) : Option (Hp) :=
    some (hs (hs h k 5 (h k1 5)) k 6 ((hs h k 5 (h k1 5)) k1 6))
def f_X5_copyFrom_44 (k : Nat) (k1 : Nat) (h : Hp) : Option (Hp) :=
    f_X5_copyFrom_60 k k1 (hs (hs h k 3 (h k1 3)) k 4 ((hs h k 3 (h k1 3)) k1 4))
def f_X5_copyFrom_2 (k : Nat) (k1 : Nat) : Nat → Hp → Int32 → Option (Hp)
  | 0 => fun _ _ => none
  | n + 1 => fun h x2 =>
    if (3 : Int32) ≤ x2 then
      f_X5_copyFrom_44 k k1 (hs (hs h k 1 (h k1 1)) k 2 ((hs h k 1 (h k1 1)) k1 2))
    else
      if inb x2 3 = true then
        if inb x2 3 = true then
          (f_X2_copyFrom h ((k + 1) + 1 + x2.toNatClampNeg) ((k1 + 1) + 1 + x2.toNatClampNeg)).bind (fun q3 =>
            f_X5_copyFrom_2 k k1 n q3 (x2 + 1))
        else none
      else none
theorem f_X5_copyFrom_2_s (k : Nat) (k1 : Nat) (n : Nat) (h : Hp) (x2 : Int32) : f_X5_copyFrom_2 k k1 (n + 1) h x2 =
    if (3 : Int32) ≤ x2 then
      f_X5_copyFrom_44 k k1 (hs (hs h k 1 (h k1 1)) k 2 ((hs h k 1 (h k1 1)) k1 2))
    else
      if inb x2 3 = true then
        if inb x2 3 = true then
          (f_X2_copyFrom h ((k + 1) + 1 + x2.toNatClampNeg) ((k1 + 1) + 1 + x2.toNatClampNeg)).bind (fun q3 =>
            f_X5_copyFrom_2 k k1 n q3 (x2 + 1))
        else none
      else none := rfl
def f_X5_copyFrom (h : Hp) (k : Nat) (k1 : Nat) : Option (Hp) :=
    f_X5_copyFrom_2 k k1 FU h (0 : Int32)
def f_X7_record_74 (h : Hp) : Option (Hp) :=
    if inb (h 0 4) 4 = true then
      if inb (h 36 (h 0 4).toNatClampNeg) 4 = true then
        (f_X5_copyFrom h (11 + 5 * (h 36 (h 0 4).toNatClampNeg).toNatClampNeg) 1).bind (fun q3 =>
          some (hs q3 0 4 ((q3 0 4) + (1 : Int32))))
      else none
    else none
def f_X7_record_63 (h : Hp) : Option (Hp) :=
    f_X7_record_74 (hs h 0 4 ((4 : Int32) - (1 : Int32)))
def f_X7_record_21 : Nat → Hp → Nat → Int32 → Option (Hp)
  | 0 => fun _ _ _ => none
  | n + 1 => fun h r1 x2 =>
    if (4 : Int32) ≤ x2 then
      if inb ((4 : Int32) - (1 : Int32)) 4 = true then
        if hiOk r1 then
          f_X7_record_63 (hs h 36 ((4 : Int32) - (1 : Int32)).toNatClampNeg (nI ((r1 - 11) / 5)))
        else none
      else none
    else
      if inb x2 4 = true then
        if inb (h 36 x2.toNatClampNeg) 4 = true then
          if inb (x2 - (1 : Int32)) 4 = true then
            f_X7_record_21 n (hs h 36 (x2 - (1 : Int32)).toNatClampNeg (h 36 x2.toNatClampNeg)) r1 (x2 + 1)
          else none
        else none
      else none
theorem f_X7_record_21_s (n : Nat) (h : Hp) (r1 : Nat) (x2 : Int32) : f_X7_record_21 (n + 1) h r1 x2 =
    if (4 : Int32) ≤ x2 then
      if inb ((4 : Int32) - (1 : Int32)) 4 = true then
        if hiOk r1 then
          f_X7_record_63 (hs h 36 ((4 : Int32) - (1 : Int32)).toNatClampNeg (nI ((r1 - 11) / 5)))
        else none
      else none
    else
      if inb x2 4 = true then
        if inb (h 36 x2.toNatClampNeg) 4 = true then
          if inb (x2 - (1 : Int32)) 4 = true then
            f_X7_record_21 n (hs h 36 (x2 - (1 : Int32)).toNatClampNeg (h 36 x2.toNatClampNeg)) r1 (x2 + 1)
          else none
        else none
      else none := rfl
def f_X7_record (h : Hp) : Option (Hp) :=
    if (h 0 4) < (4 : Int32) then
      f_X7_record_74 h
    else
      if inb (0 : Int32) 4 = true then
        if inb (h 36 (0 : Int32).toNatClampNeg) 4 = true then
          f_X7_record_21 FU h (11 + 5 * (h 36 (0 : Int32).toNatClampNeg).toNatClampNeg) (1 : Int32)
        else none
      else none
def f_X2_change_45 (k : Nat) (h : Hp) : Option (Hp) :=
    some h
def f_X2_change_61 (k : Nat) (h : Hp) : Option (Hp) :=
    some h
def f_X2_change (h : Hp) (k : Nat) (a1 : Int32) (a2 : Int32) : Option (Hp) :=
    if a1 = 0 then
      some (hs h k 0 a2)
    else
    if a1 = 1 then
      f_X2_change_45 k (hs h k 1 a2)
    else
    if a1 = 2 then
      some (hs h k 2 a2)
    else
    if a1 = 3 then
      f_X2_change_61 k (hs h k 3 a2)
    else
    some h
def f_X7_captain (h : Hp) (a1 : Int32) (a2 : Int32) (a3 : Int32) : Option (Int32 × Hp) :=
    (f_X7_isCaptain h a1).bind (fun q1 =>
      if q1.1 = 0 then
        some ((-1 : Int32), q1.2)
      else
        (f_X7_isValueOfCaptain q1.2 a2 a3).bind (fun q2 =>
          if q2.1 = 0 then
            some ((-2 : Int32), q2.2)
          else
            if inb a1 3 = true then
              (f_X2_tell q2.2 ((1 + 1) + 1 + a1.toNatClampNeg) a2).bind (fun q4 =>
                if q4.1 = a3 then
                  some ((-5 : Int32), q4.2)
                else
                  (f_X7_record q4.2).bind (fun q5 =>
                    if inb a1 3 = true then
                      (f_X2_change q5 ((1 + 1) + 1 + a1.toNatClampNeg) a2 a3).bind (fun q7 =>
                        some (q4.1, q7))
                    else none))
            else none))
def f_X0_digitOf (h : Hp) (a1 : Int32) : Option (Int32 × Hp) :=
    if a1 < (48 : Int32) then
      some ((-5 : Int32), h)
    else
      if (57 : Int32) < a1 then
        some ((-5 : Int32), h)
      else
        some ((a1 - (48 : Int32)), h)
def f_X0_takesCaptain_18 (h : Hp) : Option (Int32 × Hp) :=
    (f_X7_isCaptain (hs h 37 3 (1 : Int32)) ((hs h 37 3 (1 : Int32)) 37 4)).bind (fun q1 =>
      if isb q1.1 = true then
        some (q1.1, q1.2)
      else none)
def f_X0_takesCaptain (h : Hp) (a1 : Int32) : Option (Int32 × Hp) :=
    (f_X0_digitOf h a1).bind (fun q1 =>
      f_X0_takesCaptain_18 (hs (hs q1.2 37 4 q1.1) 37 2 (((hs q1.2 37 4 q1.1) 37 2) + (1 : Int32))))
def f_X0_whatOf (h : Hp) (a1 : Int32) : Option (Int32 × Hp) :=
    if a1 = 100 then
      some ((1 : Int32), h)
    else
    if a1 = 102 then
      some ((2 : Int32), h)
    else
    if a1 = 104 then
      some ((3 : Int32), h)
    else
    if a1 = 112 then
      some ((0 : Int32), h)
    else
    some ((-5 : Int32), h)
def f_X0_takesLetter_13 (h : Hp) : Option (Int32 × Hp) :=
    if (h 37 5) = (-5 : Int32) then
      some ((0 : Int32), h)
    else
      some ((1 : Int32), h)
def f_X0_takesLetter (h : Hp) (a1 : Int32) : Option (Int32 × Hp) :=
    (f_X0_whatOf h a1).bind (fun q1 =>
      f_X0_takesLetter_13 (hs (hs q1.2 37 5 q1.1) 37 3 (3 : Int32)))
def f_X0_tellsNumber (h : Hp) (k1 : Nat) : Option (Int32 × Hp) :=
    (f_X7_isCaptain h (h 37 4)).bind (fun q1 =>
      if q1.1 = 0 then
        some ((0 : Int32), q1.2)
      else
        (f_X7_isValueOfCaptain q1.2 (q1.2 37 5) (q1.2 37 6)).bind (fun q2 =>
          if q2.1 = 0 then
            some ((0 : Int32), q2.2)
          else
            if inb (q2.2 37 4) 3 = true then
              (f_X2_change q2.2 ((k1 + 1) + 1 + (q2.2 37 4).toNatClampNeg) (q2.2 37 5) (q2.2 37 6)).bind (fun q4 =>
                some ((1 : Int32), q4))
            else none))
def f_X0_takesFirstDigit_13 (k2 : Nat) (h : Hp) : Option (Int32 × Hp) :=
    (f_X0_tellsNumber h k2).bind (fun q1 =>
      if isb q1.1 = true then
        some (q1.1, q1.2)
      else none)
def f_X0_takesFirstDigit (h : Hp) (k2 : Nat) (a1 : Int32) : Option (Int32 × Hp) :=
    (f_X0_digitOf h a1).bind (fun q1 =>
      f_X0_takesFirstDigit_13 k2 (hs (hs q1.2 37 6 q1.1) 37 3 (4 : Int32)))
def f_X0_takesBehindDigit (h : Hp) (k2 : Nat) (a1 : Int32) : Option (Int32 × Hp) :=
    if a1 = (59 : Int32) then
      some ((1 : Int32), (hs h 37 3 (0 : Int32)))
    else
      (f_X0_digitOf h a1).bind (fun q1 =>
        if q1.1 = (-5 : Int32) then
          (f_X0_takesLetter q1.2 a1).bind (fun q3 =>
            if isb q3.1 = true then
              some (q3.1, q3.2)
            else none)
        else
          if (q1.2 37 6) = 0 then
            some ((0 : Int32), q1.2)
          else
            (f_X0_tellsNumber (hs q1.2 37 6 (((q1.2 37 6) * (10 : Int32)) + q1.1)) k2).bind (fun q2 =>
              if isb q2.1 = true then
                some (q2.1, q2.2)
              else none))
def f_X0_takes (h : Hp) (k2 : Nat) (a1 : Int32) : Option (Int32 × Hp) :=
    if (h 37 3) = 0 then
      (f_X0_takesCaptain h a1).bind (fun q1 =>
        if isb q1.1 = true then
          some (q1.1, q1.2)
        else none)
    else
    if (h 37 3) = 1 then
      if a1 = (58 : Int32) then
        some ((1 : Int32), (hs h 37 3 (2 : Int32)))
      else
        some ((0 : Int32), (hs h 37 3 (2 : Int32)))
    else
    if (h 37 3) = 2 then
      (f_X0_takesLetter h a1).bind (fun q2 =>
        if isb q2.1 = true then
          some (q2.1, q2.2)
        else none)
    else
    if (h 37 3) = 3 then
      (f_X0_takesFirstDigit h k2 a1).bind (fun q3 =>
        if isb q3.1 = true then
          some (q3.1, q3.2)
        else none)
    else
    (f_X0_takesBehindDigit h k2 a1).bind (fun q4 =>
      if isb q4.1 = true then
        some (q4.1, q4.2)
      else none)
def f_X0_readInto_51 (k1 : Nat) (h : Hp) : Option (Int32 × Hp) :=
    if (h 37 3) = (4 : Int32) then
      some ((-5 : Int32), h)
    else
      some ((h 37 1), h)
def f_X0_readInto_12 (k1 : Nat) : Nat → Hp → Int32 → Option (Int32 × Hp)
  | 0 => fun _ _ => none
  | n + 1 => fun h x2 =>
    if (h 37 1) ≤ x2 then
      f_X0_readInto_51 k1 h
    else
      if (60 : Int32) ≤ x2 then
        f_X0_readInto_51 k1 h
      else
        if inb x2 60 = true then
          (f_X0_takes h k1 (h 38 x2.toNatClampNeg)).bind (fun q1 =>
            if q1.1 = 0 then
              some (x2, q1.2)
            else
              f_X0_readInto_12 k1 n q1.2 (x2 + 1))
        else none
theorem f_X0_readInto_12_s (k1 : Nat) (n : Nat) (h : Hp) (x2 : Int32) : f_X0_readInto_12 k1 (n + 1) h x2 =
    if (h 37 1) ≤ x2 then
      f_X0_readInto_51 k1 h
    else
      if (60 : Int32) ≤ x2 then
        f_X0_readInto_51 k1 h
      else
        if inb x2 60 = true then
          (f_X0_takes h k1 (h 38 x2.toNatClampNeg)).bind (fun q1 =>
            if q1.1 = 0 then
              some (x2, q1.2)
            else
              f_X0_readInto_12 k1 n q1.2 (x2 + 1))
        else none := rfl
def f_X0_readInto_10 (k1 : Nat) (h : Hp) : Option (Int32 × Hp) :=
    f_X0_readInto_12 k1 FU h (0 : Int32)
def f_X0_readInto (h : Hp) (k1 : Nat) : Option (Int32 × Hp) :=
    f_X0_readInto_10 k1 (hs (hs h 37 3 (0 : Int32)) 37 2 (0 : Int32))
def f_X7_captains (h : Hp) : Option (Int32 × Hp) :=
    (f_X5_copyFrom h 31 1).bind (fun q1 =>
      (f_X0_readInto q1 31).bind (fun q2 =>
        if q2.1 = (-5 : Int32) then
          (f_X7_record q2.2).bind (fun q3 =>
            (f_X5_copyFrom q3 1 31).bind (fun q4 =>
              some ((q4 37 2), q4)))
        else
          some (((-100 : Int32) - q2.1), q2.2)))
def f_X7_truth (h : Hp) (a1 : Int32) : Option (Int32 × Hp) :=
    if a1 < 0 then
      some ((-2 : Int32), h)
    else
      if a1 < (12 : Int32) then
        if (h 1 3) = a1 then
          some ((-5 : Int32), h)
        else
          (f_X7_record h).bind (fun q1 =>
            some ((h 1 3), (hs q1 1 3 a1)))
      else
        some ((-2 : Int32), h)
def f_X5_tellSetting (h : Hp) (k : Nat) (a1 : Int32) : Option (Int32 × Hp) :=
    if a1 = 0 then
      some ((h k 1), h)
    else
      some ((h k 2), h)
def f_X5_changeSetting (h : Hp) (k : Nat) (a1 : Int32) (a2 : Int32) : Option (Hp) :=
    if a1 = 0 then
      some (hs h k 1 a2)
    else
      some (hs h k 2 a2)
def f_X7_set (h : Hp) (a1 : Int32) (a2 : Int32) : Option (Int32 × Hp) :=
    (f_X7_isValueOfSetting h a1 a2).bind (fun q1 =>
      if q1.1 = 0 then
        some ((-2 : Int32), q1.2)
      else
        (f_X5_tellSetting q1.2 1 a1).bind (fun q2 =>
          if q2.1 = a2 then
            some ((-5 : Int32), q2.2)
          else
            (f_X7_record q2.2).bind (fun q3 =>
              (f_X5_changeSetting q3 1 a1 a2).bind (fun q4 =>
                some (q2.1, q4)))))
def f_X7_lot (h : Hp) (a1 : Int32) : Option (Int32 × Hp) :=
    if a1 < 0 then
      some ((-2 : Int32), h)
    else
      if a1 < (65537 : Int32) then
        if (h 1 4) = a1 then
          some ((-5 : Int32), h)
        else
          (f_X7_record h).bind (fun q1 =>
            some ((h 1 4), (hs q1 1 4 a1)))
      else
        some ((-2 : Int32), h)
def f_X7_levelAt (h : Hp) (a1 : Int32) (a2 : Int32) : Option (Int32 × Hp) :=
    some ((if 0 ≤ (((a2 + a1) - (a2 + a1) / (12 : Int32) * (12 : Int32)) - (6 : Int32)) then (((a2 + a1) - (a2 + a1) / (12 : Int32) * (12 : Int32)) - (6 : Int32)) else 0 - (((a2 + a1) - (a2 + a1) / (12 : Int32) * (12 : Int32)) - (6 : Int32))), h)
def f_X6_print_97 (k : Nat) (k1 : Nat) (K23 : Hp → Int32 → Int32 → Option (Hp)) (h : Hp) (x2 : Int32) (x3 : Int32) : Option (Hp) :=
    K23 h x2 (x3 + 1)
def f_X6_print_93 (k : Nat) (k1 : Nat) (K23 : Hp → Int32 → Int32 → Option (Hp)) (h : Hp) (x3 : Int32) : Option (Hp) :=
    f_X6_print_97 k k1 K23 h (x3 + (3 : Int32)) x3
def f_X6_print_54 (k : Nat) (k1 : Nat) (K23 : Hp → Int32 → Int32 → Option (Hp)) (h : Hp) (x2 : Int32) (x3 : Int32) (t0 : Int32) : Option (Hp) :=
    if t0 = 0 then
      f_X6_print_97 k k1 K23 h x2 x3
    else
      if (8 : Int32) ≤ (h k 1) then
        f_X6_print_97 k k1 K23 h x2 x3
      else
        if inb (h k 1) 8 = true then
          f_X6_print_93 k k1 K23 (hs (hs h (k + 1) (h k 1).toNatClampNeg x3) k 1 (((hs h (k + 1) (h k 1).toNatClampNeg x3) k 1) + (1 : Int32))) x3
        else none
def f_X6_print_53 (k : Nat) (k1 : Nat) (K23 : Hp → Int32 → Int32 → Option (Hp)) (h : Hp) (x2 : Int32) (x3 : Int32) : Option (Hp) :=
    f_X6_print_54 k k1 K23 h x2 x3 (0 : Int32)
def f_X6_print_23 (k : Nat) (k1 : Nat) : Nat → Hp → Int32 → Int32 → Option (Hp)
  | 0 => fun _ _ _ => none
  | n + 1 => fun h x2 x3 =>
    if (21 : Int32) < x3 then
      some h
    else
      if x3 < x2 then
        f_X6_print_53 k k1 (f_X6_print_23 k k1 n) h x2 x3
      else
        (f_X7_levelAt h (h k1 0) x3).bind (fun q1 =>
          if q1.1 < (q1.2 k1 1) then
            f_X6_print_53 k k1 (f_X6_print_23 k k1 n) q1.2 x2 x3
          else
            f_X6_print_54 k k1 (f_X6_print_23 k k1 n) q1.2 x2 x3 (1 : Int32))
theorem f_X6_print_23_s (k : Nat) (k1 : Nat) (n : Nat) (h : Hp) (x2 : Int32) (x3 : Int32) : f_X6_print_23 k k1 (n + 1) h x2 x3 =
    if (21 : Int32) < x3 then
      some h
    else
      if x3 < x2 then
        f_X6_print_53 k k1 (f_X6_print_23 k k1 n) h x2 x3
      else
        (f_X7_levelAt h (h k1 0) x3).bind (fun q1 =>
          if q1.1 < (q1.2 k1 1) then
            f_X6_print_53 k k1 (f_X6_print_23 k k1 n) q1.2 x2 x3
          else
            f_X6_print_54 k k1 (f_X6_print_23 k k1 n) q1.2 x2 x3 (1 : Int32)) := rfl
def f_X6_print_13 (k : Nat) (k1 : Nat) (h : Hp) : Option (Hp) :=
    f_X6_print_23 k k1 FU h (h k1 2) (h k1 2)
def f_X6_print (h : Hp) (k : Nat) (k1 : Nat) : Option (Hp) :=
    f_X6_print_13 k k1 (hs (hs h k 2 (h k1 3)) k 1 (0 : Int32))
def f_X3_beginDay_44 (k : Nat) (k1 : Nat) (h : Hp) : Option (Hp) :=
    some (hs h k 10 (0 : Int32))
def f_X3_beginDay_34 (k : Nat) (k1 : Nat) (h : Hp) : Option (Hp) :=
    f_X3_beginDay_44 k k1 (hs (hs h k 8 (0 : Int32)) k 9 (0 : Int32))
def f_X3_beginDay_24 (k : Nat) (k1 : Nat) (h : Hp) : Option (Hp) :=
    f_X3_beginDay_34 k k1 (hs (hs h k 3 (0 : Int32)) k 7 (0 : Int32))
def f_X3_beginDay (h : Hp) (k : Nat) (k1 : Nat) : Option (Hp) :=
    (f_X6_print h (k + 1) k1).bind (fun q1 =>
      f_X3_beginDay_24 k k1 (hs (hs q1 k 1 (q1 k1 1)) k 2 ((hs q1 k 1 (q1 k1 1)) k1 3)))
def f_X6_has (h : Hp) (k : Nat) (a1 : Int32) : Option (Int32 × Hp) :=
    if a1 < 0 then
      some ((0 : Int32), h)
    else
      if (h k 1) ≤ a1 then
        some ((0 : Int32), h)
      else
        if (8 : Int32) ≤ a1 then
          some ((0 : Int32), h)
        else
          some ((1 : Int32), h)
def f_X6_hourOf (h : Hp) (k : Nat) (a1 : Int32) : Option (Int32 × Hp) :=
    (f_X6_has h k a1).bind (fun q1 =>
      if q1.1 = 0 then
        some ((-5 : Int32), q1.2)
      else
        if inb a1 8 = true then
          some ((q1.2 (k + 1) a1.toNatClampNeg), q1.2)
        else none)
def f_X3_beginHour_126 (k : Nat) (h : Hp) : Option (Hp) :=
    some (hs h k 6 (0 : Int32))
def f_X3_beginHour_98 (k : Nat) (h : Hp) (x2 : Int32) (t1 : Int32) : Option (Hp) :=
    if isb t1 = true then
      if ((hs h k 6 t1) k 6) = 0 then
        some (hs h k 6 t1)
      else
        if ((hs h k 6 t1) k 1) ≤ x2 then
          some (hs h k 6 t1)
        else
          f_X3_beginHour_126 k (hs (hs h k 6 t1) k 8 (((hs h k 6 t1) k 8) + (1 : Int32)))
    else none
def f_X3_beginHour_97 (k : Nat) (h : Hp) (x2 : Int32) : Option (Hp) :=
    f_X3_beginHour_98 k h x2 (0 : Int32)
def f_X3_beginHour_50 (k : Nat) (h : Hp) (x1 : Int32) (x2 : Int32) : Option (Hp) :=
    if (h k 3) = 0 then
      if (21 : Int32) < x1 then
        f_X3_beginHour_97 k h x2
      else
        (f_X6_has h (k + 1) (h k 7)).bind (fun q1 =>
          if q1.1 = 0 then
            f_X3_beginHour_97 k q1.2 x2
          else
            (f_X6_hourOf q1.2 (k + 1) (q1.2 k 7)).bind (fun q2 =>
              if x1 < q2.1 then
                f_X3_beginHour_97 k q2.2 x2
              else
                f_X3_beginHour_98 k q2.2 x2 (1 : Int32)))
    else
      f_X3_beginHour_97 k h x2
def f_X3_beginHour_38 (k : Nat) (h : Hp) (x1 : Int32) (x2 : Int32) : Option (Hp) :=
    f_X3_beginHour_50 k (hs h k 2 (((h k 2) + (1 : Int32)) - ((h k 2) + (1 : Int32)) / (2 : Int32) * (2 : Int32))) x1 x2
def f_X3_beginHour_23 (k : Nat) (h : Hp) (x1 : Int32) (x2 : Int32) (t1 : Int32) : Option (Hp) :=
    if isb t1 = true then
      if ((hs h k 5 t1) k 5) = 0 then
        f_X3_beginHour_50 k (hs h k 5 t1) x1 x2
      else
        f_X3_beginHour_38 k (hs (hs h k 5 t1) k 3 (0 : Int32)) x1 x2
    else none
def f_X3_beginHour_22 (k : Nat) (h : Hp) (x1 : Int32) (x2 : Int32) : Option (Hp) :=
    f_X3_beginHour_23 k h x1 x2 (0 : Int32)
def f_X3_beginHour (h : Hp) (k : Nat) (a1 : Int32) (a2 : Int32) : Option (Hp) :=
    if (h k 3) = 0 then
      f_X3_beginHour_22 k h a1 a2
    else
      if a1 = ((h k 4) + (2 : Int32)) then
        f_X3_beginHour_23 k h a1 a2 (1 : Int32)
      else
        f_X3_beginHour_22 k h a1 a2
def f_X3_wantsFrom (h : Hp) (k : Nat) (a1 : Int32) : Option (Int32 × Hp) :=
    if (h k 6) = 0 then
      some ((0 : Int32), h)
    else
      if (h k 2) = a1 then
        some ((1 : Int32), h)
      else
        some ((0 : Int32), h)
def f_X3_arrivedAt (h : Hp) (k : Nat) (a1 : Int32) : Option (Int32 × Hp) :=
    if (h k 5) = 0 then
      some ((0 : Int32), h)
    else
      if (h k 2) = a1 then
        some ((1 : Int32), h)
      else
        some ((0 : Int32), h)
def f_X4_drawLot_27 (h : Hp) (x1 : Int32) : Option (Int32 × Hp) :=
    if x1 ≤ 0 then
      some ((0 : Int32), h)
    else
      if ¬ x1 = 0 then
        some (((h 48 1) - (h 48 1) / x1 * x1), h)
      else none
def f_X4_drawLot (h : Hp) (a1 : Int32) : Option (Int32 × Hp) :=
    f_X4_drawLot_27 (hs (hs h 48 1 ((((75 : Int32) * (h 48 1)) + (74 : Int32)) - (((75 : Int32) * (h 48 1)) + (74 : Int32)) / (65537 : Int32) * (65537 : Int32))) 48 2 (((hs h 48 1 ((((75 : Int32) * (h 48 1)) + (74 : Int32)) - (((75 : Int32) * (h 48 1)) + (74 : Int32)) / (65537 : Int32) * (65537 : Int32))) 48 2) + (1 : Int32))) a1
def f_X3_depart_10 (k : Nat) (h : Hp) (x1 : Int32) : Option (Hp) :=
    some (hs (hs h k 4 x1) k 7 (((hs h k 4 x1) k 7) + (1 : Int32)))
def f_X3_depart (h : Hp) (k : Nat) (a1 : Int32) : Option (Hp) :=
    f_X3_depart_10 k (hs (hs h k 3 (1 : Int32)) k 6 (0 : Int32)) a1
def f_X3_stay (h : Hp) (k : Nat) (a1 : Int32) : Option (Hp) :=
    if a1 = 0 then
      some (hs h k 9 ((h k 9) + (1 : Int32)))
    else
      some (hs (hs h k 9 ((h k 9) + (1 : Int32))) k 10 (((hs h k 9 ((h k 9) + (1 : Int32))) k 10) + (1 : Int32)))
def f_X4_givePier_48 (K19 : Hp → Int32 → Int32 → Int32 → Int32 → Int32 → Int32 → Option (Hp)) (h : Hp) (x1 : Int32) (x2 : Int32) (x4 : Int32) (x6 : Int32) (x7 : Int32) (r8 : Nat) (t0 : Int32) (t1 : Int32) : Option (Hp) :=
    (f_X3_arrivedAt h r8 x1).bind (fun q1 =>
      K19 q1.2 x1 x2 (t0 + t1) (x4 ||| q1.1) x6 (x7 + 1))
def f_X4_givePier_171 (K117 : Hp → Int32 → Int32 → Int32 → Int32 → Int32 → Int32 → Int32 → Int32 → Option (Hp)) (h : Hp) (x1 : Int32) (x2 : Int32) (x4 : Int32) (x5 : Int32) (x6 : Int32) (x7 : Int32) (x9 : Int32) (x10 : Int32) : Option (Hp) :=
    K117 h x1 x2 x4 x5 x6 x7 x9 (x10 + 1)
def f_X4_givePier_168 (K117 : Hp → Int32 → Int32 → Int32 → Int32 → Int32 → Int32 → Int32 → Int32 → Option (Hp)) (h : Hp) (x1 : Int32) (x2 : Int32) (x4 : Int32) (x5 : Int32) (x6 : Int32) (x7 : Int32) (x9 : Int32) (x10 : Int32) : Option (Hp) :=
    f_X4_givePier_171 K117 h x1 x2 x4 x5 x6 (x7 + 1) x9 x10
def f_X4_givePier_161 (K117 : Hp → Int32 → Int32 → Int32 → Int32 → Int32 → Int32 → Int32 → Int32 → Option (Hp)) (h : Hp) (x1 : Int32) (x2 : Int32) (x4 : Int32) (x5 : Int32) (x6 : Int32) (x7 : Int32) (x9 : Int32) (x10 : Int32) (r11 : Nat) : Option (Hp) :=
    (f_X3_stay h r11 x5).bind (fun q1 =>
      f_X4_givePier_168 K117 q1 x1 x2 x4 x5 x6 x7 x9 x10)
def f_X4_givePier_117 : Nat → Hp → Int32 → Int32 → Int32 → Int32 → Int32 → Int32 → Int32 → Int32 → Option (Hp)
  | 0 => fun _ _ _ _ _ _ _ _ _ => none
  | n + 1 => fun h x1 x2 x4 x5 x6 x7 x9 x10 =>
    if x9 ≤ x10 then
      some h
    else
      if inb x10 3 = true then
        (f_X3_wantsFrom h (50 + 3 * x10.toNatClampNeg) x1).bind (fun q2 =>
          if q2.1 = 0 then
            f_X4_givePier_171 (f_X4_givePier_117 n) q2.2 x1 x2 x4 x5 x6 x7 x9 x10
          else
            if x4 = 0 then
              if x7 = x6 then
                (f_X3_depart q2.2 (50 + 3 * x10.toNatClampNeg) x2).bind (fun q3 =>
                  f_X4_givePier_168 (f_X4_givePier_117 n) q3 x1 x2 x4 x5 x6 x7 x9 x10)
              else
                f_X4_givePier_161 (f_X4_givePier_117 n) q2.2 x1 x2 x4 x5 x6 x7 x9 x10 (50 + 3 * x10.toNatClampNeg)
            else
              f_X4_givePier_161 (f_X4_givePier_117 n) q2.2 x1 x2 x4 x5 x6 x7 x9 x10 (50 + 3 * x10.toNatClampNeg))
      else none
theorem f_X4_givePier_117_s (n : Nat) (h : Hp) (x1 : Int32) (x2 : Int32) (x4 : Int32) (x5 : Int32) (x6 : Int32) (x7 : Int32) (x9 : Int32) (x10 : Int32) : f_X4_givePier_117 (n + 1) h x1 x2 x4 x5 x6 x7 x9 x10 =
    if x9 ≤ x10 then
      some h
    else
      if inb x10 3 = true then
        (f_X3_wantsFrom h (50 + 3 * x10.toNatClampNeg) x1).bind (fun q2 =>
          if q2.1 = 0 then
            f_X4_givePier_171 (f_X4_givePier_117 n) q2.2 x1 x2 x4 x5 x6 x7 x9 x10
          else
            if x4 = 0 then
              if x7 = x6 then
                (f_X3_depart q2.2 (50 + 3 * x10.toNatClampNeg) x2).bind (fun q3 =>
                  f_X4_givePier_168 (f_X4_givePier_117 n) q3 x1 x2 x4 x5 x6 x7 x9 x10)
              else
                f_X4_givePier_161 (f_X4_givePier_117 n) q2.2 x1 x2 x4 x5 x6 x7 x9 x10 (50 + 3 * x10.toNatClampNeg)
            else
              f_X4_givePier_161 (f_X4_givePier_117 n) q2.2 x1 x2 x4 x5 x6 x7 x9 x10 (50 + 3 * x10.toNatClampNeg))
      else none := rfl
def f_X4_givePier_98 (h : Hp) (x1 : Int32) (x2 : Int32) (x4 : Int32) (x5 : Int32) (t0 : Int32) : Option (Hp) :=
    f_X4_givePier_117 FU h x1 x2 x4 x5 t0 (0 : Int32) (3 : Int32) (0 : Int32)
def f_X4_givePier_82 (h : Hp) (x1 : Int32) (x2 : Int32) (x3 : Int32) (x4 : Int32) (t0 : Int32) : Option (Hp) :=
    if t0 = 0 then
      f_X4_givePier_98 h x1 x2 x4 t0 (0 : Int32)
    else
      (f_X4_drawLot h x3).bind (fun q1 =>
        f_X4_givePier_98 q1.2 x1 x2 x4 t0 q1.1)
def f_X4_givePier_81 (h : Hp) (x1 : Int32) (x2 : Int32) (x3 : Int32) (x4 : Int32) : Option (Hp) :=
    f_X4_givePier_82 h x1 x2 x3 x4 (0 : Int32)
def f_X4_givePier_19 : Nat → Hp → Int32 → Int32 → Int32 → Int32 → Int32 → Int32 → Option (Hp)
  | 0 => fun _ _ _ _ _ _ _ => none
  | n + 1 => fun h x1 x2 x3 x4 x6 x7 =>
    if x6 ≤ x7 then
      if x4 = 0 then
        if x3 ≤ (1 : Int32) then
          f_X4_givePier_81 h x1 x2 x3 x4
        else
          f_X4_givePier_82 h x1 x2 x3 x4 (1 : Int32)
      else
        f_X4_givePier_81 h x1 x2 x3 x4
    else
      if inb x7 3 = true then
        (f_X3_wantsFrom h (50 + 3 * x7.toNatClampNeg) x1).bind (fun q2 =>
          if q2.1 = 0 then
            f_X4_givePier_48 (f_X4_givePier_19 n) q2.2 x1 x2 x4 x6 x7 (50 + 3 * x7.toNatClampNeg) x3 (0 : Int32)
          else
            f_X4_givePier_48 (f_X4_givePier_19 n) q2.2 x1 x2 x4 x6 x7 (50 + 3 * x7.toNatClampNeg) x3 (1 : Int32))
      else none
theorem f_X4_givePier_19_s (n : Nat) (h : Hp) (x1 : Int32) (x2 : Int32) (x3 : Int32) (x4 : Int32) (x6 : Int32) (x7 : Int32) : f_X4_givePier_19 (n + 1) h x1 x2 x3 x4 x6 x7 =
    if x6 ≤ x7 then
      if x4 = 0 then
        if x3 ≤ (1 : Int32) then
          f_X4_givePier_81 h x1 x2 x3 x4
        else
          f_X4_givePier_82 h x1 x2 x3 x4 (1 : Int32)
      else
        f_X4_givePier_81 h x1 x2 x3 x4
    else
      if inb x7 3 = true then
        (f_X3_wantsFrom h (50 + 3 * x7.toNatClampNeg) x1).bind (fun q2 =>
          if q2.1 = 0 then
            f_X4_givePier_48 (f_X4_givePier_19 n) q2.2 x1 x2 x4 x6 x7 (50 + 3 * x7.toNatClampNeg) x3 (0 : Int32)
          else
            f_X4_givePier_48 (f_X4_givePier_19 n) q2.2 x1 x2 x4 x6 x7 (50 + 3 * x7.toNatClampNeg) x3 (1 : Int32))
      else none := rfl
def f_X4_givePier (h : Hp) (a1 : Int32) (a2 : Int32) : Option (Hp) :=
    f_X4_givePier_19 FU h a1 a2 (0 : Int32) (0 : Int32) (3 : Int32) (0 : Int32)
def f_X4_run_102 (k1 : Nat) (K43 : Hp → Int32 → Option (Hp)) : Nat → Hp → Int32 → Int32 → Option (Hp)
  | 0 => fun _ _ _ => none
  | n + 1 => fun h x2 x4 =>
    if (2 : Int32) ≤ x4 then
      K43 h (x2 + 1)
    else
      (f_X4_givePier h x4 x2).bind (fun q1 =>
        f_X4_run_102 k1 K43 n q1 x2 (x4 + 1))
theorem f_X4_run_102_s (k1 : Nat) (K43 : Hp → Int32 → Option (Hp)) (n : Nat) (h : Hp) (x2 : Int32) (x4 : Int32) : f_X4_run_102 k1 K43 (n + 1) h x2 x4 =
    if (2 : Int32) ≤ x4 then
      K43 h (x2 + 1)
    else
      (f_X4_givePier h x4 x2).bind (fun q1 =>
        f_X4_run_102 k1 K43 n q1 x2 (x4 + 1)) := rfl
def f_X4_run_72 (k1 : Nat) (K43 : Hp → Int32 → Option (Hp)) : Nat → Hp → Int32 → Int32 → Int32 → Int32 → Option (Hp)
  | 0 => fun _ _ _ _ _ => none
  | n + 1 => fun h x2 x3 x5 x6 =>
    if x5 ≤ x6 then
      f_X4_run_102 k1 K43 FU h x2 (0 : Int32)
    else
      if inb x6 3 = true then
        (f_X3_beginHour h (50 + 3 * x6.toNatClampNeg) x2 x3).bind (fun q2 =>
          f_X4_run_72 k1 K43 n q2 x2 x3 x5 (x6 + 1))
      else none
theorem f_X4_run_72_s (k1 : Nat) (K43 : Hp → Int32 → Option (Hp)) (n : Nat) (h : Hp) (x2 : Int32) (x3 : Int32) (x5 : Int32) (x6 : Int32) : f_X4_run_72 k1 K43 (n + 1) h x2 x3 x5 x6 =
    if x5 ≤ x6 then
      f_X4_run_102 k1 K43 FU h x2 (0 : Int32)
    else
      if inb x6 3 = true then
        (f_X3_beginHour h (50 + 3 * x6.toNatClampNeg) x2 x3).bind (fun q2 =>
          f_X4_run_72 k1 K43 n q2 x2 x3 x5 (x6 + 1))
      else none := rfl
def f_X4_run_43 (k1 : Nat) : Nat → Hp → Int32 → Option (Hp)
  | 0 => fun _ _ => none
  | n + 1 => fun h x2 =>
    if (24 : Int32) ≤ x2 then
      some h
    else
      (f_X7_levelAt h (h k1 3) x2).bind (fun q1 =>
        f_X4_run_72 k1 (f_X4_run_43 k1 n) FU q1.2 x2 q1.1 (3 : Int32) (0 : Int32))
theorem f_X4_run_43_s (k1 : Nat) (n : Nat) (h : Hp) (x2 : Int32) : f_X4_run_43 k1 (n + 1) h x2 =
    if (24 : Int32) ≤ x2 then
      some h
    else
      (f_X7_levelAt h (h k1 3) x2).bind (fun q1 =>
        f_X4_run_72 k1 (f_X4_run_43 k1 n) FU q1.2 x2 q1.1 (3 : Int32) (0 : Int32)) := rfl
def f_X4_run_15 (k1 : Nat) : Nat → Hp → Int32 → Option (Hp)
  | 0 => fun _ _ => none
  | n + 1 => fun h x2 =>
    if (3 : Int32) ≤ x2 then
      f_X4_run_43 k1 FU h (0 : Int32)
    else
      if inb x2 3 = true then
        if inb x2 3 = true then
          (f_X3_beginDay h (50 + 3 * x2.toNatClampNeg) ((k1 + 1) + 1 + x2.toNatClampNeg)).bind (fun q3 =>
            f_X4_run_15 k1 n q3 (x2 + 1))
        else none
      else none
theorem f_X4_run_15_s (k1 : Nat) (n : Nat) (h : Hp) (x2 : Int32) : f_X4_run_15 k1 (n + 1) h x2 =
    if (3 : Int32) ≤ x2 then
      f_X4_run_43 k1 FU h (0 : Int32)
    else
      if inb x2 3 = true then
        if inb x2 3 = true then
          (f_X3_beginDay h (50 + 3 * x2.toNatClampNeg) ((k1 + 1) + 1 + x2.toNatClampNeg)).bind (fun q3 =>
            f_X4_run_15 k1 n q3 (x2 + 1))
        else none
      else none := rfl
def f_X4_run_13 (k1 : Nat) (h : Hp) : Option (Hp) :=
    f_X4_run_15 k1 FU h (0 : Int32)
def f_X4_run (h : Hp) (k1 : Nat) : Option (Hp) :=
    f_X4_run_13 k1 (hs (hs h 48 1 (h k1 4)) 48 2 (0 : Int32))
def f_X3_crossingsLeft (h : Hp) (k : Nat) : Option (Int32 × Hp) :=
    some (((h (k + 1) 1) - (h k 7)), h)
def f_X2_endDay_52 (k : Nat) (k1 : Nat) (h : Hp) : Option (Hp) :=
    (f_X3_crossingsLeft h k1).bind (fun q1 =>
      some (hs q1.2 k 8 ((h k 8) + q1.1)))
def f_X2_endDay_26 (k : Nat) (k1 : Nat) (h : Hp) : Option (Hp) :=
    f_X2_endDay_52 k k1 (hs (hs h k 6 ((h k 6) + (h k1 9))) k 7 (((hs h k 6 ((h k 6) + (h k1 9))) k 7) + ((hs h k 6 ((h k 6) + (h k1 9))) k1 10)))
def f_X2_endDay (h : Hp) (k : Nat) (k1 : Nat) : Option (Hp) :=
    f_X2_endDay_26 k k1 (hs (hs h k 4 ((h k 4) + (h k1 7))) k 5 (((hs h k 4 ((h k 4) + (h k1 7))) k 5) + ((hs h k 4 ((h k 4) + (h k1 7))) k1 8)))
def f_X3_isLesson (h : Hp) (k : Nat) (a1 : Int32) : Option (Int32 × Hp) :=
    if (h k 8) < a1 then
      some ((0 : Int32), h)
    else
      some ((1 : Int32), h)
def f_X2_learn (h : Hp) (k : Nat) (a1 : Int32) : Option (Hp) :=
    some (hs (hs h k 0 a1) k 9 (((hs h k 0 a1) k 9) + (1 : Int32)))
def f_X5_endDay_95 (k : Nat) (K49 : Hp → Int32 → Option (Hp)) (h : Hp) (x2 : Int32) : Option (Hp) :=
    K49 h (x2 + 1)
def f_X5_endDay_49 (k : Nat) : Nat → Hp → Int32 → Option (Hp)
  | 0 => fun _ _ => none
  | n + 1 => fun h x2 =>
    if (3 : Int32) ≤ x2 then
      some h
    else
      if inb x2 3 = true then
        if inb x2 3 = true then
          (f_X2_endDay h ((k + 1) + 1 + x2.toNatClampNeg) (50 + 3 * x2.toNatClampNeg)).bind (fun q3 =>
            (f_X3_isLesson q3 (50 + 3 * x2.toNatClampNeg) (q3 k 2)).bind (fun q4 =>
              if q4.1 = 0 then
                f_X5_endDay_95 k (f_X5_endDay_49 k n) q4.2 x2
              else
                if inb x2 3 = true then
                  (f_X2_learn q4.2 ((k + 1) + 1 + x2.toNatClampNeg) (q4.2 k 3)).bind (fun q6 =>
                    f_X5_endDay_95 k (f_X5_endDay_49 k n) q6 x2)
                else none))
        else none
      else none
theorem f_X5_endDay_49_s (k : Nat) (n : Nat) (h : Hp) (x2 : Int32) : f_X5_endDay_49 k (n + 1) h x2 =
    if (3 : Int32) ≤ x2 then
      some h
    else
      if inb x2 3 = true then
        if inb x2 3 = true then
          (f_X2_endDay h ((k + 1) + 1 + x2.toNatClampNeg) (50 + 3 * x2.toNatClampNeg)).bind (fun q3 =>
            (f_X3_isLesson q3 (50 + 3 * x2.toNatClampNeg) (q3 k 2)).bind (fun q4 =>
              if q4.1 = 0 then
                f_X5_endDay_95 k (f_X5_endDay_49 k n) q4.2 x2
              else
                if inb x2 3 = true then
                  (f_X2_learn q4.2 ((k + 1) + 1 + x2.toNatClampNeg) (q4.2 k 3)).bind (fun q6 =>
                    f_X5_endDay_95 k (f_X5_endDay_49 k n) q6 x2)
                else none))
        else none
      else none := rfl
def f_X5_endDay_47 (k : Nat) (h : Hp) : Option (Hp) :=
    f_X5_endDay_49 k FU h (0 : Int32)
def f_X5_endDay_18 (k : Nat) (h : Hp) : Option (Hp) :=
    f_X5_endDay_47 k (hs (hs h k 5 ((h k 5) + (h 48 2))) k 3 ((((hs h k 5 ((h k 5) + (h 48 2))) k 3) + ((hs h k 5 ((h k 5) + (h 48 2))) k 1)) - (((hs h k 5 ((h k 5) + (h 48 2))) k 3) + ((hs h k 5 ((h k 5) + (h 48 2))) k 1)) / (12 : Int32) * (12 : Int32)))
def f_X5_endDay (h : Hp) (k : Nat) : Option (Hp) :=
    f_X5_endDay_18 k (hs (hs h k 6 ((h k 6) + (1 : Int32))) k 4 ((hs h k 6 ((h k 6) + (1 : Int32))) 48 1))
def f_X3_tell (h : Hp) (k : Nat) (a1 : Int32) : Option (Int32 × Hp) :=
    if a1 = 5 then
      some ((h k 7), h)
    else
    if a1 = 6 then
      some ((h k 8), h)
    else
    if a1 = 7 then
      some ((h k 9), h)
    else
    if a1 = 8 then
      some ((0 : Int32), h)
    else
    if a1 = 9 then
      (f_X3_crossingsLeft h k).bind (fun q1 =>
        some (q1.1, q1.2))
    else
    some ((0 : Int32), h)
def f_X4_sumOf_14 : Nat → Hp → Int32 → Int32 → Int32 → Int32 → Option (Int32 × Hp)
  | 0 => fun _ _ _ _ _ => none
  | n + 1 => fun h x1 x2 x4 x5 =>
    if x4 ≤ x5 then
      some (x2, h)
    else
      if inb x5 3 = true then
        (f_X3_tell h (50 + 3 * x5.toNatClampNeg) x1).bind (fun q2 =>
          f_X4_sumOf_14 n q2.2 x1 (x2 + q2.1) x4 (x5 + 1))
      else none
theorem f_X4_sumOf_14_s (n : Nat) (h : Hp) (x1 : Int32) (x2 : Int32) (x4 : Int32) (x5 : Int32) : f_X4_sumOf_14 (n + 1) h x1 x2 x4 x5 =
    if x4 ≤ x5 then
      some (x2, h)
    else
      if inb x5 3 = true then
        (f_X3_tell h (50 + 3 * x5.toNatClampNeg) x1).bind (fun q2 =>
          f_X4_sumOf_14 n q2.2 x1 (x2 + q2.1) x4 (x5 + 1))
      else none := rfl
def f_X4_sumOf (h : Hp) (a1 : Int32) : Option (Int32 × Hp) :=
    f_X4_sumOf_14 FU h a1 (0 : Int32) (3 : Int32) (0 : Int32)
def f_X7_sail_40 : Nat → Hp → Int32 → Int32 → Int32 → Option (Int32 × Hp)
  | 0 => fun _ _ _ _ => none
  | n + 1 => fun h x1 x2 x3 =>
    if x1 ≤ x3 then
      some (x2, h)
    else
      (f_X4_run h 1).bind (fun q1 =>
        (f_X5_endDay q1 1).bind (fun q2 =>
          (f_X4_sumOf q2 (5 : Int32)).bind (fun q3 =>
            f_X7_sail_40 n q3.2 x1 (x2 + q3.1) (x3 + 1))))
theorem f_X7_sail_40_s (n : Nat) (h : Hp) (x1 : Int32) (x2 : Int32) (x3 : Int32) : f_X7_sail_40 (n + 1) h x1 x2 x3 =
    if x1 ≤ x3 then
      some (x2, h)
    else
      (f_X4_run h 1).bind (fun q1 =>
        (f_X5_endDay q1 1).bind (fun q2 =>
          (f_X4_sumOf q2 (5 : Int32)).bind (fun q3 =>
            f_X7_sail_40 n q3.2 x1 (x2 + q3.1) (x3 + 1)))) := rfl
def f_X7_sail (h : Hp) (a1 : Int32) : Option (Int32 × Hp) :=
    if a1 < (1 : Int32) then
      some ((-2 : Int32), h)
    else
      if a1 ≤ (30 : Int32) then
        if ((h 1 6) + a1) ≤ (9999 : Int32) then
          (f_X7_record h).bind (fun q1 =>
            f_X7_sail_40 FU q1 a1 (0 : Int32) (0 : Int32))
        else
          some ((-3 : Int32), h)
      else
        some ((-2 : Int32), h)
def f_X0_append (h : Hp) (a1 : Int32) : Option (Int32 × Hp) :=
    if (h 37 1) < 0 then
      some ((0 : Int32), h)
    else
      if (h 37 1) < (60 : Int32) then
        if inb (h 37 1) 60 = true then
          some ((1 : Int32), (hs (hs h 38 (h 37 1).toNatClampNeg (vp_nar .char a1)) 37 1 (((hs h 38 (h 37 1).toNatClampNeg (vp_nar .char a1)) 37 1) + (1 : Int32))))
        else none
      else
        some ((0 : Int32), h)
def f_X7_type (h : Hp) (a1 : Int32) : Option (Int32 × Hp) :=
    (f_X0_append h a1).bind (fun q1 =>
      if q1.1 = 0 then
        some ((-3 : Int32), q1.2)
      else
        some ((q1.2 37 1), q1.2))
def f_X7_clearText (h : Hp) : Option (Int32 × Hp) :=
    some ((h 37 1), (hs h 37 1 (0 : Int32)))
def f_X7_fault (h : Hp) : Option (Int32 × Hp) :=
    (f_X0_readInto h 31).bind (fun q1 =>
      some (q1.1, q1.2))
def f_X7_undo (h : Hp) : Option (Int32 × Hp) :=
    if ((h 0 4) - (1 : Int32)) < 0 then
      some ((-5 : Int32), h)
    else
      if ((h 0 4) - (1 : Int32)) < (4 : Int32) then
        if inb ((h 0 4) - (1 : Int32)) 4 = true then
          if inb (h 36 ((h 0 4) - (1 : Int32)).toNatClampNeg) 4 = true then
            (f_X5_copyFrom h 1 (11 + 5 * (h 36 ((h 0 4) - (1 : Int32)).toNatClampNeg).toNatClampNeg)).bind (fun q3 =>
              some (((hs q3 0 4 ((h 0 4) - (1 : Int32))) 0 4), (hs q3 0 4 ((h 0 4) - (1 : Int32)))))
          else none
        else none
      else
        some ((-5 : Int32), h)
def f_X7_keep (h : Hp) : Option (Int32 × Hp) :=
    (f_X5_copyFrom h 6 1).bind (fun q1 =>
      some (((hs q1 0 2 (1 : Int32)) 1 6), (hs q1 0 2 (1 : Int32))))
def f_X7_restore (h : Hp) : Option (Int32 × Hp) :=
    if (h 0 2) = 0 then
      some ((-5 : Int32), h)
    else
      (f_X7_record h).bind (fun q1 =>
        (f_X5_copyFrom q1 1 6).bind (fun q2 =>
          some ((q2 1 6), q2)))
def f_X6_pierOf (h : Hp) (k : Nat) (a1 : Int32) : Option (Int32 × Hp) :=
    some ((((h k 2) + a1) - ((h k 2) + a1) / (2 : Int32) * (2 : Int32)), h)
def f_X1_placeOf (h : Hp) (a1 : Int32) (a2 : Int32) : Option (Int32 × Hp) :=
    some (((a1 * (2 : Int32)) + a2), h)
def f_X1_noteUse (h : Hp) (a1 : Int32) (a2 : Int32) : Option (Hp) :=
    if a1 < 0 then
      some h
    else
      if (48 : Int32) ≤ a1 then
        some h
      else
        if inb a1 48 = true then
          if inb a1 48 = true then
            some (hs h 41 a1.toNatClampNeg ((h 41 a1.toNatClampNeg) ||| a2))
          else none
        else none
def f_X1_noteUses_2 (k1 : Nat) : Nat → Hp → Int32 → Int32 → Option (Hp)
  | 0 => fun _ _ _ => none
  | n + 1 => fun h x2 x3 =>
    if (h k1 1) ≤ x3 then
      some h
    else
      (f_X6_hourOf h k1 x3).bind (fun q1 =>
        (f_X6_pierOf q1.2 k1 x3).bind (fun q2 =>
          (f_X1_placeOf q2.2 q1.1 q2.1).bind (fun q3 =>
            (f_X1_noteUse q3.2 q3.1 x2).bind (fun q4 =>
              (f_X6_pierOf q4 k1 (x3 + (1 : Int32))).bind (fun q5 =>
                (f_X1_placeOf q5.2 (q1.1 + (2 : Int32)) q5.1).bind (fun q6 =>
                  (f_X1_noteUse q6.2 q6.1 x2).bind (fun q7 =>
                    f_X1_noteUses_2 k1 n q7 x2 (x3 + 1))))))))
theorem f_X1_noteUses_2_s (k1 : Nat) (n : Nat) (h : Hp) (x2 : Int32) (x3 : Int32) : f_X1_noteUses_2 k1 (n + 1) h x2 x3 =
    if (h k1 1) ≤ x3 then
      some h
    else
      (f_X6_hourOf h k1 x3).bind (fun q1 =>
        (f_X6_pierOf q1.2 k1 x3).bind (fun q2 =>
          (f_X1_placeOf q2.2 q1.1 q2.1).bind (fun q3 =>
            (f_X1_noteUse q3.2 q3.1 x2).bind (fun q4 =>
              (f_X6_pierOf q4 k1 (x3 + (1 : Int32))).bind (fun q5 =>
                (f_X1_placeOf q5.2 (q1.1 + (2 : Int32)) q5.1).bind (fun q6 =>
                  (f_X1_noteUse q6.2 q6.1 x2).bind (fun q7 =>
                    f_X1_noteUses_2 k1 n q7 x2 (x3 + 1)))))))) := rfl
def f_X1_noteUses (h : Hp) (k1 : Nat) (a2 : Int32) : Option (Hp) :=
    f_X1_noteUses_2 k1 FU h a2 (0 : Int32)
def f_X1_print_26 (k1 : Nat) : Nat → Hp → Int32 → Option (Hp)
  | 0 => fun _ _ => none
  | n + 1 => fun h x2 =>
    if (3 : Int32) ≤ x2 then
      some h
    else
      if inb x2 3 = true then
        if inb x2 3 = true then
          (f_X6_print h (42 + 2 * x2.toNatClampNeg) ((k1 + 1) + 1 + x2.toNatClampNeg)).bind (fun q3 =>
            if inb x2 3 = true then
              (f_X1_noteUses q3 (42 + 2 * x2.toNatClampNeg) ((1 : Int32) <<< (x2 &&& 31))).bind (fun q5 =>
                f_X1_print_26 k1 n q5 (x2 + 1))
            else none)
        else none
      else none
theorem f_X1_print_26_s (k1 : Nat) (n : Nat) (h : Hp) (x2 : Int32) : f_X1_print_26 k1 (n + 1) h x2 =
    if (3 : Int32) ≤ x2 then
      some h
    else
      if inb x2 3 = true then
        if inb x2 3 = true then
          (f_X6_print h (42 + 2 * x2.toNatClampNeg) ((k1 + 1) + 1 + x2.toNatClampNeg)).bind (fun q3 =>
            if inb x2 3 = true then
              (f_X1_noteUses q3 (42 + 2 * x2.toNatClampNeg) ((1 : Int32) <<< (x2 &&& 31))).bind (fun q5 =>
                f_X1_print_26 k1 n q5 (x2 + 1))
            else none)
        else none
      else none := rfl
def f_X1_print_2 (k1 : Nat) : Nat → Hp → Int32 → Option (Hp)
  | 0 => fun _ _ => none
  | n + 1 => fun h x2 =>
    if (48 : Int32) ≤ x2 then
      f_X1_print_26 k1 FU h (0 : Int32)
    else
      if inb x2 48 = true then
        f_X1_print_2 k1 n (hs h 41 x2.toNatClampNeg (0 : Int32)) (x2 + 1)
      else none
theorem f_X1_print_2_s (k1 : Nat) (n : Nat) (h : Hp) (x2 : Int32) : f_X1_print_2 k1 (n + 1) h x2 =
    if (48 : Int32) ≤ x2 then
      f_X1_print_26 k1 FU h (0 : Int32)
    else
      if inb x2 48 = true then
        f_X1_print_2 k1 n (hs h 41 x2.toNatClampNeg (0 : Int32)) (x2 + 1)
      else none := rfl
def f_X1_print (h : Hp) (k1 : Nat) : Option (Hp) :=
    f_X1_print_2 k1 FU h (0 : Int32)
def f_X7_timetableOf (h : Hp) (a1 : Int32) : Option (Nat × Hp) :=
    (f_X1_print h 1).bind (fun q1 =>
      if inb a1 3 = true then
        some ((42 + 2 * a1.toNatClampNeg), q1)
      else none)
def f_X7_captainOf (h : Hp) (a1 : Int32) (a2 : Int32) : Option (Int32 × Hp) :=
    (f_X7_isCaptain h a1).bind (fun q1 =>
      if q1.1 = 0 then
        some ((-1 : Int32), q1.2)
      else
        if a2 < 0 then
          some ((-2 : Int32), q1.2)
        else
          if a2 ≤ (10 : Int32) then
            if a2 = (4 : Int32) then
              (f_X7_timetableOf q1.2 a1).bind (fun q4 =>
                if isX6 q4.1 then
                  some ((q4.2 q4.1 1), q4.2)
                else none)
            else
              if inb a1 3 = true then
                (f_X2_tell q1.2 ((1 + 1) + 1 + a1.toNatClampNeg) a2).bind (fun q3 =>
                  some (q3.1, q3.2))
              else none
          else
            some ((-2 : Int32), q1.2))
def f_X7_printed (h : Hp) (a1 : Int32) (a2 : Int32) (a3 : Int32) : Option (Int32 × Hp) :=
    (f_X7_isCaptain h a1).bind (fun q1 =>
      if q1.1 = 0 then
        some ((-1 : Int32), q1.2)
      else
        (f_X7_timetableOf q1.2 a1).bind (fun q2 =>
          if isX6 q2.1 then
            (f_X6_has q2.2 q2.1 a2).bind (fun q4 =>
              if q4.1 = 0 then
                some ((-1 : Int32), q4.2)
              else
                if a3 = 0 then
                  (f_X6_hourOf q4.2 q2.1 a2).bind (fun q5 =>
                    some (q5.1, q5.2))
                else
                if a3 = 1 then
                  (f_X6_pierOf q4.2 q2.1 a2).bind (fun q6 =>
                    some (q6.1, q6.2))
                else
                some ((-2 : Int32), q4.2))
          else none))
def f_X7_levelReached_56 (K21 : Hp → Int32 → Int32 → Int32 → Int32 → Option (Int32 × Hp)) (h : Hp) (x1 : Int32) (x2 : Int32) (x3 : Int32) (x4 : Int32) : Option (Int32 × Hp) :=
    K21 h x1 x2 x3 (x4 + 1)
def f_X7_levelReached_37 (K21 : Hp → Int32 → Int32 → Int32 → Int32 → Option (Int32 × Hp)) (h : Hp) (x1 : Int32) (x3 : Int32) (x4 : Int32) (t0 : Int32) (t1 : Int32) : Option (Int32 × Hp) :=
    if (t0 + t1) = 0 then
      f_X7_levelReached_56 K21 h x1 (t0 + t1) (0 : Int32) x4
    else
      if (t0 + t1) = (6 : Int32) then
        f_X7_levelReached_56 K21 h x1 (t0 + t1) (1 : Int32) x4
      else
        f_X7_levelReached_56 K21 h x1 (t0 + t1) x3 x4
def f_X7_levelReached_21 : Nat → Hp → Int32 → Int32 → Int32 → Int32 → Option (Int32 × Hp)
  | 0 => fun _ _ _ _ _ => none
  | n + 1 => fun h x1 x2 x3 x4 =>
    if x1 ≤ x4 then
      some (x2, h)
    else
      if x3 = 0 then
        f_X7_levelReached_37 (f_X7_levelReached_21 n) h x1 x3 x4 x2 (1 : Int32)
      else
        f_X7_levelReached_37 (f_X7_levelReached_21 n) h x1 x3 x4 x2 (-1 : Int32)
theorem f_X7_levelReached_21_s (n : Nat) (h : Hp) (x1 : Int32) (x2 : Int32) (x3 : Int32) (x4 : Int32) : f_X7_levelReached_21 (n + 1) h x1 x2 x3 x4 =
    if x1 ≤ x4 then
      some (x2, h)
    else
      if x3 = 0 then
        f_X7_levelReached_37 (f_X7_levelReached_21 n) h x1 x3 x4 x2 (1 : Int32)
      else
        f_X7_levelReached_37 (f_X7_levelReached_21 n) h x1 x3 x4 x2 (-1 : Int32) := rfl
def f_X7_levelReached_17 (h : Hp) (x1 : Int32) (x2 : Int32) (t0 : Int32) : Option (Int32 × Hp) :=
    f_X7_levelReached_21 FU h x1 x2 t0 (0 : Int32)
def f_X7_levelReached (h : Hp) (a1 : Int32) (a2 : Int32) : Option (Int32 × Hp) :=
    (f_X7_levelAt h a1 (0 : Int32)).bind (fun q1 =>
      if (6 : Int32) ≤ a1 then
        f_X7_levelReached_17 q1.2 a2 q1.1 (0 : Int32)
      else
        f_X7_levelReached_17 q1.2 a2 q1.1 (1 : Int32))
def f_X7_level_65 (h : Hp) (x2 : Int32) (x3 : Int32) (t0 : Int32) : Option (Int32 × Hp) :=
    if x3 = 0 then
      (f_X7_levelAt h t0 x2).bind (fun q1 =>
        some (q1.1, q1.2))
    else
    if x3 = 1 then
      (f_X7_levelReached h t0 x2).bind (fun q2 =>
        some (q2.1, q2.2))
    else
    some ((-2 : Int32), h)
def f_X7_level_17 (h : Hp) (x1 : Int32) (x2 : Int32) (x3 : Int32) (t0 : Int32) : Option (Int32 × Hp) :=
    if t0 = 0 then
      some ((-1 : Int32), h)
    else
      if x2 < 0 then
        some ((-1 : Int32), h)
      else
        if x2 < (24 : Int32) then
          (f_X7_isCaptain h x1).bind (fun q1 =>
            if q1.1 = 0 then
              f_X7_level_65 q1.2 x2 x3 (q1.2 1 3)
            else
              if inb x1 3 = true then
                f_X7_level_65 q1.2 x2 x3 (q1.2 ((1 + 1) + 1 + x1.toNatClampNeg) 0)
              else none)
        else
          some ((-1 : Int32), h)
def f_X7_level_12 (h : Hp) (x1 : Int32) (x2 : Int32) (x3 : Int32) : Option (Int32 × Hp) :=
    f_X7_level_17 h x1 x2 x3 (1 : Int32)
def f_X7_level (h : Hp) (a1 : Int32) (a2 : Int32) (a3 : Int32) : Option (Int32 × Hp) :=
    (f_X7_isCaptain h a1).bind (fun q1 =>
      if q1.1 = 0 then
        if a1 = (3 : Int32) then
          f_X7_level_12 q1.2 a1 a2 a3
        else
          f_X7_level_17 q1.2 a1 a2 a3 (0 : Int32)
      else
        f_X7_level_12 q1.2 a1 a2 a3)
def f_X1_usersAt (h : Hp) (a1 : Int32) : Option (Int32 × Hp) :=
    if a1 < 0 then
      some ((0 : Int32), h)
    else
      if (48 : Int32) ≤ a1 then
        some ((0 : Int32), h)
      else
        if inb a1 48 = true then
          some ((h 41 a1.toNatClampNeg), h)
        else none
def f_X7_uses (h : Hp) (a1 : Int32) (a2 : Int32) : Option (Int32 × Hp) :=
    if a1 < 0 then
      some ((-1 : Int32), h)
    else
      if (2 : Int32) ≤ a1 then
        some ((-1 : Int32), h)
      else
        if a2 < 0 then
          some ((-1 : Int32), h)
        else
          if a2 < (24 : Int32) then
            (f_X1_print h 1).bind (fun q1 =>
              (f_X1_placeOf q1 a2 a1).bind (fun q2 =>
                (f_X1_usersAt q2.2 q2.1).bind (fun q3 =>
                  some (q3.1, q3.2))))
          else
            some ((-1 : Int32), h)
def f_J6_bitCount_0f7a4 (h : Hp) (a1 : Int32) : Option (Int32 × Hp) :=
    some (((((((((a1 - (((a1.toUInt32 >>> ((1 : Int32).toUInt32 &&& Int32.toUInt32 31)).toInt32) &&& (1431655765 : Int32))) &&& (858993459 : Int32)) + ((((a1 - (((a1.toUInt32 >>> ((1 : Int32).toUInt32 &&& Int32.toUInt32 31)).toInt32) &&& (1431655765 : Int32))).toUInt32 >>> ((2 : Int32).toUInt32 &&& Int32.toUInt32 31)).toInt32) &&& (858993459 : Int32))) + (((((a1 - (((a1.toUInt32 >>> ((1 : Int32).toUInt32 &&& Int32.toUInt32 31)).toInt32) &&& (1431655765 : Int32))) &&& (858993459 : Int32)) + ((((a1 - (((a1.toUInt32 >>> ((1 : Int32).toUInt32 &&& Int32.toUInt32 31)).toInt32) &&& (1431655765 : Int32))).toUInt32 >>> ((2 : Int32).toUInt32 &&& Int32.toUInt32 31)).toInt32) &&& (858993459 : Int32))).toUInt32 >>> ((4 : Int32).toUInt32 &&& Int32.toUInt32 31)).toInt32)) &&& (252645135 : Int32)) + (((((((a1 - (((a1.toUInt32 >>> ((1 : Int32).toUInt32 &&& Int32.toUInt32 31)).toInt32) &&& (1431655765 : Int32))) &&& (858993459 : Int32)) + ((((a1 - (((a1.toUInt32 >>> ((1 : Int32).toUInt32 &&& Int32.toUInt32 31)).toInt32) &&& (1431655765 : Int32))).toUInt32 >>> ((2 : Int32).toUInt32 &&& Int32.toUInt32 31)).toInt32) &&& (858993459 : Int32))) + (((((a1 - (((a1.toUInt32 >>> ((1 : Int32).toUInt32 &&& Int32.toUInt32 31)).toInt32) &&& (1431655765 : Int32))) &&& (858993459 : Int32)) + ((((a1 - (((a1.toUInt32 >>> ((1 : Int32).toUInt32 &&& Int32.toUInt32 31)).toInt32) &&& (1431655765 : Int32))).toUInt32 >>> ((2 : Int32).toUInt32 &&& Int32.toUInt32 31)).toInt32) &&& (858993459 : Int32))).toUInt32 >>> ((4 : Int32).toUInt32 &&& Int32.toUInt32 31)).toInt32)) &&& (252645135 : Int32)).toUInt32 >>> ((8 : Int32).toUInt32 &&& Int32.toUInt32 31)).toInt32)) + ((((((((a1 - (((a1.toUInt32 >>> ((1 : Int32).toUInt32 &&& Int32.toUInt32 31)).toInt32) &&& (1431655765 : Int32))) &&& (858993459 : Int32)) + ((((a1 - (((a1.toUInt32 >>> ((1 : Int32).toUInt32 &&& Int32.toUInt32 31)).toInt32) &&& (1431655765 : Int32))).toUInt32 >>> ((2 : Int32).toUInt32 &&& Int32.toUInt32 31)).toInt32) &&& (858993459 : Int32))) + (((((a1 - (((a1.toUInt32 >>> ((1 : Int32).toUInt32 &&& Int32.toUInt32 31)).toInt32) &&& (1431655765 : Int32))) &&& (858993459 : Int32)) + ((((a1 - (((a1.toUInt32 >>> ((1 : Int32).toUInt32 &&& Int32.toUInt32 31)).toInt32) &&& (1431655765 : Int32))).toUInt32 >>> ((2 : Int32).toUInt32 &&& Int32.toUInt32 31)).toInt32) &&& (858993459 : Int32))).toUInt32 >>> ((4 : Int32).toUInt32 &&& Int32.toUInt32 31)).toInt32)) &&& (252645135 : Int32)) + (((((((a1 - (((a1.toUInt32 >>> ((1 : Int32).toUInt32 &&& Int32.toUInt32 31)).toInt32) &&& (1431655765 : Int32))) &&& (858993459 : Int32)) + ((((a1 - (((a1.toUInt32 >>> ((1 : Int32).toUInt32 &&& Int32.toUInt32 31)).toInt32) &&& (1431655765 : Int32))).toUInt32 >>> ((2 : Int32).toUInt32 &&& Int32.toUInt32 31)).toInt32) &&& (858993459 : Int32))) + (((((a1 - (((a1.toUInt32 >>> ((1 : Int32).toUInt32 &&& Int32.toUInt32 31)).toInt32) &&& (1431655765 : Int32))) &&& (858993459 : Int32)) + ((((a1 - (((a1.toUInt32 >>> ((1 : Int32).toUInt32 &&& Int32.toUInt32 31)).toInt32) &&& (1431655765 : Int32))).toUInt32 >>> ((2 : Int32).toUInt32 &&& Int32.toUInt32 31)).toInt32) &&& (858993459 : Int32))).toUInt32 >>> ((4 : Int32).toUInt32 &&& Int32.toUInt32 31)).toInt32)) &&& (252645135 : Int32)).toUInt32 >>> ((8 : Int32).toUInt32 &&& Int32.toUInt32 31)).toInt32)).toUInt32 >>> ((16 : Int32).toUInt32 &&& Int32.toUInt32 31)).toInt32)) &&& (63 : Int32)), h)
def f_X1_isClash (h : Hp) (a1 : Int32) : Option (Int32 × Hp) :=
    (f_X1_usersAt h a1).bind (fun q1 =>
      (f_J6_bitCount_0f7a4 q1.2 q1.1).bind (fun q2 =>
        if q2.1 < (2 : Int32) then
          some ((0 : Int32), q2.2)
        else
          some ((1 : Int32), q2.2)))
def f_X1_placeOfClash_31 (K4 : Hp → Int32 → Int32 → Int32 → Option (Int32 × Hp)) (h : Hp) (x1 : Int32) (x2 : Int32) (x3 : Int32) : Option (Int32 × Hp) :=
    K4 h x1 x2 (x3 + 1)
def f_X1_placeOfClash_4 : Nat → Hp → Int32 → Int32 → Int32 → Option (Int32 × Hp)
  | 0 => fun _ _ _ _ => none
  | n + 1 => fun h x1 x2 x3 =>
    if (48 : Int32) ≤ x3 then
      some ((-5 : Int32), h)
    else
      (f_X1_isClash h x3).bind (fun q1 =>
        if q1.1 = 0 then
          f_X1_placeOfClash_31 (f_X1_placeOfClash_4 n) q1.2 x1 x2 x3
        else
          if x2 = x1 then
            some (x3, q1.2)
          else
            f_X1_placeOfClash_31 (f_X1_placeOfClash_4 n) q1.2 x1 (x2 + 1) x3)
theorem f_X1_placeOfClash_4_s (n : Nat) (h : Hp) (x1 : Int32) (x2 : Int32) (x3 : Int32) : f_X1_placeOfClash_4 (n + 1) h x1 x2 x3 =
    if (48 : Int32) ≤ x3 then
      some ((-5 : Int32), h)
    else
      (f_X1_isClash h x3).bind (fun q1 =>
        if q1.1 = 0 then
          f_X1_placeOfClash_31 (f_X1_placeOfClash_4 n) q1.2 x1 x2 x3
        else
          if x2 = x1 then
            some (x3, q1.2)
          else
            f_X1_placeOfClash_31 (f_X1_placeOfClash_4 n) q1.2 x1 (x2 + 1) x3) := rfl
def f_X1_placeOfClash (h : Hp) (a1 : Int32) : Option (Int32 × Hp) :=
    f_X1_placeOfClash_4 FU h a1 (0 : Int32) (0 : Int32)
def f_X7_clash (h : Hp) (a1 : Int32) (a2 : Int32) : Option (Int32 × Hp) :=
    (f_X1_print h 1).bind (fun q1 =>
      (f_X1_placeOfClash q1 a1).bind (fun q2 =>
        if q2.1 = (-5 : Int32) then
          some ((-1 : Int32), q2.2)
        else
          if a2 = 0 then
            some ((q2.1 / (2 : Int32)), q2.2)
          else
          if a2 = 1 then
            some ((q2.1 - q2.1 / (2 : Int32) * (2 : Int32)), q2.2)
          else
          if a2 = 2 then
            (f_X1_usersAt q2.2 q2.1).bind (fun q3 =>
              some (q3.1, q3.2))
          else
          some ((-2 : Int32), q2.2)))
def f_X7_hoursWithWater_25 (K4 : Hp → Int32 → Int32 → Int32 → Int32 → Option (Int32 × Hp)) (h : Hp) (x0 : Int32) (x1 : Int32) (x2 : Int32) (x3 : Int32) : Option (Int32 × Hp) :=
    K4 h x0 x1 x2 (x3 + 1)
def f_X7_hoursWithWater_4 : Nat → Hp → Int32 → Int32 → Int32 → Int32 → Option (Int32 × Hp)
  | 0 => fun _ _ _ _ _ => none
  | n + 1 => fun h x0 x1 x2 x3 =>
    if (24 : Int32) ≤ x3 then
      some (x2, h)
    else
      (f_X7_levelAt h x0 x3).bind (fun q1 =>
        if q1.1 < x1 then
          f_X7_hoursWithWater_25 (f_X7_hoursWithWater_4 n) q1.2 x0 x1 x2 x3
        else
          f_X7_hoursWithWater_25 (f_X7_hoursWithWater_4 n) q1.2 x0 x1 (x2 ||| ((1 : Int32) <<< (x3 &&& 31))) x3)
theorem f_X7_hoursWithWater_4_s (n : Nat) (h : Hp) (x0 : Int32) (x1 : Int32) (x2 : Int32) (x3 : Int32) : f_X7_hoursWithWater_4 (n + 1) h x0 x1 x2 x3 =
    if (24 : Int32) ≤ x3 then
      some (x2, h)
    else
      (f_X7_levelAt h x0 x3).bind (fun q1 =>
        if q1.1 < x1 then
          f_X7_hoursWithWater_25 (f_X7_hoursWithWater_4 n) q1.2 x0 x1 x2 x3
        else
          f_X7_hoursWithWater_25 (f_X7_hoursWithWater_4 n) q1.2 x0 x1 (x2 ||| ((1 : Int32) <<< (x3 &&& 31))) x3) := rfl
def f_X7_hoursWithWater (h : Hp) (a1 : Int32) (a2 : Int32) : Option (Int32 × Hp) :=
    f_X7_hoursWithWater_4 FU h a1 a2 (0 : Int32) (0 : Int32)
def f_X7_hours (h : Hp) (a1 : Int32) (a2 : Int32) : Option (Int32 × Hp) :=
    (f_X7_isCaptain h a1).bind (fun q1 =>
      if q1.1 = 0 then
        some ((-1 : Int32), q1.2)
      else
        if inb a1 3 = true then
          (f_X7_hoursWithWater q1.2 (q1.2 ((1 + 1) + 1 + a1.toNatClampNeg) 0) (q1.2 ((1 + 1) + 1 + a1.toNatClampNeg) 1)).bind (fun q3 =>
            (f_X7_hoursWithWater q3.2 (q3.2 1 3) (q3.2 ((1 + 1) + 1 + a1.toNatClampNeg) 1)).bind (fun q4 =>
              if a2 = 0 then
                some (q3.1, q4.2)
              else
              if a2 = 1 then
                some (q4.1, q4.2)
              else
              if a2 = 2 then
                some ((q3.1 ^^^ q4.1), q4.2)
              else
              some ((-2 : Int32), q4.2)))
        else none)
def f_X1_clashes_24 (K4 : Hp → Int32 → Int32 → Option (Int32 × Hp)) (h : Hp) (x1 : Int32) (x2 : Int32) : Option (Int32 × Hp) :=
    K4 h x1 (x2 + 1)
def f_X1_clashes_4 : Nat → Hp → Int32 → Int32 → Option (Int32 × Hp)
  | 0 => fun _ _ _ => none
  | n + 1 => fun h x1 x2 =>
    if (48 : Int32) ≤ x2 then
      some (x1, h)
    else
      (f_X1_isClash h x2).bind (fun q1 =>
        if q1.1 = 0 then
          f_X1_clashes_24 (f_X1_clashes_4 n) q1.2 x1 x2
        else
          f_X1_clashes_24 (f_X1_clashes_4 n) q1.2 (x1 + 1) x2)
theorem f_X1_clashes_4_s (n : Nat) (h : Hp) (x1 : Int32) (x2 : Int32) : f_X1_clashes_4 (n + 1) h x1 x2 =
    if (48 : Int32) ≤ x2 then
      some (x1, h)
    else
      (f_X1_isClash h x2).bind (fun q1 =>
        if q1.1 = 0 then
          f_X1_clashes_24 (f_X1_clashes_4 n) q1.2 x1 x2
        else
          f_X1_clashes_24 (f_X1_clashes_4 n) q1.2 (x1 + 1) x2) := rfl
def f_X1_clashes (h : Hp) : Option (Int32 × Hp) :=
    f_X1_clashes_4 FU h (0 : Int32) (0 : Int32)
def f_X1_crossings_13 : Nat → Hp → Int32 → Int32 → Int32 → Option (Int32 × Hp)
  | 0 => fun _ _ _ _ => none
  | n + 1 => fun h x1 x3 x4 =>
    if x3 ≤ x4 then
      some (x1, h)
    else
      if inb x4 3 = true then
        f_X1_crossings_13 n h (x1 + (h (42 + 2 * x4.toNatClampNeg) 1)) x3 (x4 + 1)
      else none
theorem f_X1_crossings_13_s (n : Nat) (h : Hp) (x1 : Int32) (x3 : Int32) (x4 : Int32) : f_X1_crossings_13 (n + 1) h x1 x3 x4 =
    if x3 ≤ x4 then
      some (x1, h)
    else
      if inb x4 3 = true then
        f_X1_crossings_13 n h (x1 + (h (42 + 2 * x4.toNatClampNeg) 1)) x3 (x4 + 1)
      else none := rfl
def f_X1_crossings (h : Hp) : Option (Int32 × Hp) :=
    f_X1_crossings_13 FU h (0 : Int32) (3 : Int32) (0 : Int32)
def f_X5_sumOf_14 (k : Nat) : Nat → Hp → Int32 → Int32 → Int32 → Int32 → Option (Int32 × Hp)
  | 0 => fun _ _ _ _ _ => none
  | n + 1 => fun h x1 x2 x4 x5 =>
    if x4 ≤ x5 then
      some (x2, h)
    else
      if inb x5 3 = true then
        (f_X2_tell h ((k + 1) + 1 + x5.toNatClampNeg) x1).bind (fun q2 =>
          f_X5_sumOf_14 k n q2.2 x1 (x2 + q2.1) x4 (x5 + 1))
      else none
theorem f_X5_sumOf_14_s (k : Nat) (n : Nat) (h : Hp) (x1 : Int32) (x2 : Int32) (x4 : Int32) (x5 : Int32) : f_X5_sumOf_14 k (n + 1) h x1 x2 x4 x5 =
    if x4 ≤ x5 then
      some (x2, h)
    else
      if inb x5 3 = true then
        (f_X2_tell h ((k + 1) + 1 + x5.toNatClampNeg) x1).bind (fun q2 =>
          f_X5_sumOf_14 k n q2.2 x1 (x2 + q2.1) x4 (x5 + 1))
      else none := rfl
def f_X5_sumOf (h : Hp) (k : Nat) (a1 : Int32) : Option (Int32 × Hp) :=
    f_X5_sumOf_14 k FU h a1 (0 : Int32) (3 : Int32) (0 : Int32)
def f_X7_count (h : Hp) (a1 : Int32) : Option (Int32 × Hp) :=
    if a1 = 0 then
      some ((h 1 6), h)
    else
    if a1 = 1 then
      some ((h 1 3), h)
    else
    if a1 = 2 then
      some ((h 1 4), h)
    else
    if a1 = 3 then
      (f_X1_print h 1).bind (fun q1 =>
        (f_X1_clashes q1).bind (fun q2 =>
          some (q2.1, q2.2)))
    else
    if a1 = 4 then
      (f_X1_print h 1).bind (fun q3 =>
        (f_X1_crossings q3).bind (fun q4 =>
          some (q4.1, q4.2)))
    else
    if a1 = 5 then
      (f_X5_sumOf h 1 (5 : Int32)).bind (fun q5 =>
        some (q5.1, q5.2))
    else
    if a1 = 6 then
      (f_X5_sumOf h 1 (9 : Int32)).bind (fun q6 =>
        some (q6.1, q6.2))
    else
    if a1 = 7 then
      some ((h 1 5), h)
    else
    if a1 = 8 then
      (f_X5_sumOf h 1 (6 : Int32)).bind (fun q7 =>
        some (q7.1, q7.2))
    else
    if a1 = 9 then
      (f_X5_sumOf h 1 (7 : Int32)).bind (fun q8 =>
        some (q8.1, q8.2))
    else
    if a1 = 10 then
      some ((h 0 4), h)
    else
    if a1 = 11 then
      some ((h 37 1), h)
    else
    if a1 = 12 then
      (f_X5_tellSetting h 1 (0 : Int32)).bind (fun q9 =>
        some (q9.1, q9.2))
    else
    if a1 = 13 then
      (f_X5_tellSetting h 1 (1 : Int32)).bind (fun q10 =>
        some (q10.1, q10.2))
    else
    some ((-2 : Int32), h)
def f_X4_learners_28 (K4 : Hp → Int32 → Int32 → Int32 → Option (Int32 × Hp)) (h : Hp) (x1 : Int32) (x2 : Int32) (x3 : Int32) : Option (Int32 × Hp) :=
    K4 h x1 x2 (x3 + 1)
def f_X4_learners_4 : Nat → Hp → Int32 → Int32 → Int32 → Option (Int32 × Hp)
  | 0 => fun _ _ _ _ => none
  | n + 1 => fun h x1 x2 x3 =>
    if (3 : Int32) ≤ x3 then
      some (x2, h)
    else
      if inb x3 3 = true then
        (f_X3_isLesson h (50 + 3 * x3.toNatClampNeg) x1).bind (fun q2 =>
          if q2.1 = 0 then
            f_X4_learners_28 (f_X4_learners_4 n) q2.2 x1 x2 x3
          else
            f_X4_learners_28 (f_X4_learners_4 n) q2.2 x1 (x2 ||| ((1 : Int32) <<< (x3 &&& 31))) x3)
      else none
theorem f_X4_learners_4_s (n : Nat) (h : Hp) (x1 : Int32) (x2 : Int32) (x3 : Int32) : f_X4_learners_4 (n + 1) h x1 x2 x3 =
    if (3 : Int32) ≤ x3 then
      some (x2, h)
    else
      if inb x3 3 = true then
        (f_X3_isLesson h (50 + 3 * x3.toNatClampNeg) x1).bind (fun q2 =>
          if q2.1 = 0 then
            f_X4_learners_28 (f_X4_learners_4 n) q2.2 x1 x2 x3
          else
            f_X4_learners_28 (f_X4_learners_4 n) q2.2 x1 (x2 ||| ((1 : Int32) <<< (x3 &&& 31))) x3)
      else none := rfl
def f_X4_learners (h : Hp) (a1 : Int32) : Option (Int32 × Hp) :=
    f_X4_learners_4 FU h a1 (0 : Int32) (0 : Int32)
def f_X7_ifSailed (h : Hp) (a1 : Int32) : Option (Int32 × Hp) :=
    (f_X4_run h 1).bind (fun q1 =>
      if a1 = 0 then
        (f_X4_sumOf q1 (5 : Int32)).bind (fun q2 =>
          some (q2.1, q2.2))
      else
      if a1 = 1 then
        (f_X4_sumOf q1 (9 : Int32)).bind (fun q3 =>
          some (q3.1, q3.2))
      else
      if a1 = 2 then
        (f_X4_sumOf q1 (6 : Int32)).bind (fun q4 =>
          some (q4.1, q4.2))
      else
      if a1 = 3 then
        (f_X4_sumOf q1 (7 : Int32)).bind (fun q5 =>
          some (q5.1, q5.2))
      else
      if a1 = 4 then
        some ((q1 48 2), q1)
      else
      if a1 = 5 then
        (f_X4_learners q1 (q1 1 2)).bind (fun q6 =>
          some (q6.1, q6.2))
      else
      some ((-2 : Int32), q1))
def f_X7_bestHour_115 (K31 : Hp → Int32 → Int32 → Int32 → Int32 → Int32 → Option (Int32 × Hp)) (h : Hp) (x1 : Int32) (x2 : Int32) (x3 : Int32) (x4 : Int32) (x5 : Int32) : Option (Int32 × Hp) :=
    K31 h x1 x2 x3 x4 (x5 + 1)
def f_X7_bestHour_105 (K31 : Hp → Int32 → Int32 → Int32 → Int32 → Int32 → Option (Int32 × Hp)) (h : Hp) (x1 : Int32) (x5 : Int32) (x6 : Int32) (x7 : Int32) : Option (Int32 × Hp) :=
    f_X7_bestHour_115 K31 h x1 x5 x6 x7 x5
def f_X7_bestHour_31 : Nat → Hp → Int32 → Int32 → Int32 → Int32 → Int32 → Option (Int32 × Hp)
  | 0 => fun _ _ _ _ _ _ => none
  | n + 1 => fun h x1 x2 x3 x4 x5 =>
    if (24 : Int32) ≤ x5 then
      some (x2, h)
    else
      if inb x1 3 = true then
        (f_X1_print (hs h ((31 + 1) + 1 + x1.toNatClampNeg) 2 x5) 31).bind (fun q2 =>
          (f_X1_clashes q2).bind (fun q3 =>
            if inb x1 3 = true then
              if q3.1 < x3 then
                f_X7_bestHour_105 (f_X7_bestHour_31 n) q3.2 x1 x5 q3.1 (q3.2 (42 + 2 * x1.toNatClampNeg) 1)
              else
                if q3.1 = x3 then
                  if (q3.2 (42 + 2 * x1.toNatClampNeg) 1) ≤ x4 then
                    f_X7_bestHour_115 (f_X7_bestHour_31 n) q3.2 x1 x2 x3 x4 x5
                  else
                    f_X7_bestHour_105 (f_X7_bestHour_31 n) q3.2 x1 x5 q3.1 (q3.2 (42 + 2 * x1.toNatClampNeg) 1)
                else
                  f_X7_bestHour_115 (f_X7_bestHour_31 n) q3.2 x1 x2 x3 x4 x5
            else none))
      else none
theorem f_X7_bestHour_31_s (n : Nat) (h : Hp) (x1 : Int32) (x2 : Int32) (x3 : Int32) (x4 : Int32) (x5 : Int32) : f_X7_bestHour_31 (n + 1) h x1 x2 x3 x4 x5 =
    if (24 : Int32) ≤ x5 then
      some (x2, h)
    else
      if inb x1 3 = true then
        (f_X1_print (hs h ((31 + 1) + 1 + x1.toNatClampNeg) 2 x5) 31).bind (fun q2 =>
          (f_X1_clashes q2).bind (fun q3 =>
            if inb x1 3 = true then
              if q3.1 < x3 then
                f_X7_bestHour_105 (f_X7_bestHour_31 n) q3.2 x1 x5 q3.1 (q3.2 (42 + 2 * x1.toNatClampNeg) 1)
              else
                if q3.1 = x3 then
                  if (q3.2 (42 + 2 * x1.toNatClampNeg) 1) ≤ x4 then
                    f_X7_bestHour_115 (f_X7_bestHour_31 n) q3.2 x1 x2 x3 x4 x5
                  else
                    f_X7_bestHour_105 (f_X7_bestHour_31 n) q3.2 x1 x5 q3.1 (q3.2 (42 + 2 * x1.toNatClampNeg) 1)
                else
                  f_X7_bestHour_115 (f_X7_bestHour_31 n) q3.2 x1 x2 x3 x4 x5
            else none))
      else none := rfl
def f_X7_bestHour (h : Hp) (a1 : Int32) : Option (Int32 × Hp) :=
    (f_X7_isCaptain h a1).bind (fun q1 =>
      if q1.1 = 0 then
        some ((-1 : Int32), q1.2)
      else
        (f_X5_copyFrom q1.2 31 1).bind (fun q2 =>
          f_X7_bestHour_31 FU q2 a1 (0 : Int32) (49 : Int32) (0 : Int32) (0 : Int32)))
def f_X7_bestPhase_81 (K27 : Hp → Int32 → Int32 → Int32 → Int32 → Option (Int32 × Hp)) (h : Hp) (x1 : Int32) (x2 : Int32) (x3 : Int32) (x4 : Int32) : Option (Int32 × Hp) :=
    K27 h x1 x2 x3 (x4 + 1)
def f_X7_bestPhase_27 : Nat → Hp → Int32 → Int32 → Int32 → Int32 → Option (Int32 × Hp)
  | 0 => fun _ _ _ _ _ => none
  | n + 1 => fun h x1 x2 x3 x4 =>
    if (12 : Int32) ≤ x4 then
      some (x2, h)
    else
      if inb x1 3 = true then
        (f_X4_run (hs h ((31 + 1) + 1 + x1.toNatClampNeg) 0 x4) 31).bind (fun q2 =>
          (f_X4_sumOf q2 (5 : Int32)).bind (fun q3 =>
            if q3.1 ≤ x3 then
              f_X7_bestPhase_81 (f_X7_bestPhase_27 n) q3.2 x1 x2 x3 x4
            else
              f_X7_bestPhase_81 (f_X7_bestPhase_27 n) q3.2 x1 x4 q3.1 x4))
      else none
theorem f_X7_bestPhase_27_s (n : Nat) (h : Hp) (x1 : Int32) (x2 : Int32) (x3 : Int32) (x4 : Int32) : f_X7_bestPhase_27 (n + 1) h x1 x2 x3 x4 =
    if (12 : Int32) ≤ x4 then
      some (x2, h)
    else
      if inb x1 3 = true then
        (f_X4_run (hs h ((31 + 1) + 1 + x1.toNatClampNeg) 0 x4) 31).bind (fun q2 =>
          (f_X4_sumOf q2 (5 : Int32)).bind (fun q3 =>
            if q3.1 ≤ x3 then
              f_X7_bestPhase_81 (f_X7_bestPhase_27 n) q3.2 x1 x2 x3 x4
            else
              f_X7_bestPhase_81 (f_X7_bestPhase_27 n) q3.2 x1 x4 q3.1 x4))
      else none := rfl
def f_X7_bestPhase (h : Hp) (a1 : Int32) : Option (Int32 × Hp) :=
    (f_X7_isCaptain h a1).bind (fun q1 =>
      if q1.1 = 0 then
        some ((-1 : Int32), q1.2)
      else
        (f_X5_copyFrom q1.2 31 1).bind (fun q2 =>
          f_X7_bestPhase_27 FU q2 a1 (0 : Int32) (-1 : Int32) (0 : Int32)))
end
section
def f_X8_put (h : Hp) (a1 : Int32) (a2 : Int32) (a3 : Int32) : Option (Hp) :=
    if inb (((6 : Int32) + ((10 : Int32) * a1)) + a2) 36 = true then
      some (hs h 1 (((6 : Int32) + ((10 : Int32) * a1)) + a2).toNatClampNeg a3)
    else none
def f_X8_in (h : Hp) (a1 : Int32) (a2 : Int32) (a3 : Int32) : Option (Int32 × Hp) :=
    if a1 < a2 then
      some ((0 : Int32), h)
    else
      if a3 < a1 then
        some ((0 : Int32), h)
      else
        some ((1 : Int32), h)
def f_X8_isCaptain (h : Hp) (a1 : Int32) : Option (Int32 × Hp) :=
    (f_X8_in h a1 (0 : Int32) (2 : Int32)).bind (fun q1 =>
      if isb q1.1 = true then
        some (q1.1, q1.2)
      else none)
def f_X8_least (h : Hp) (a1 : Int32) : Option (Int32 × Hp) :=
    if a1 = (1 : Int32) then
      some ((1 : Int32), h)
    else
      some ((0 : Int32), h)
def f_X8_most (h : Hp) (a1 : Int32) : Option (Int32 × Hp) :=
    if a1 = 0 then
      some ((11 : Int32), h)
    else
      if a1 = (1 : Int32) then
        some ((6 : Int32), h)
      else
        if a1 = (2 : Int32) then
          some ((23 : Int32), h)
        else
          some ((1 : Int32), h)
def f_X8_of (h : Hp) (a1 : Int32) (a2 : Int32) : Option (Int32 × Hp) :=
    if inb (((6 : Int32) + ((10 : Int32) * a1)) + a2) 36 = true then
      some ((h 1 (((6 : Int32) + ((10 : Int32) * a1)) + a2).toNatClampNeg), h)
    else none
def f_X8_record_49 : Nat → Hp → Int32 → Option (Hp)
  | 0 => fun _ _ => none
  | n + 1 => fun h x1 =>
    if (36 : Int32) ≤ x1 then
      some (hs h 0 12 ((h 0 12) + (1 : Int32)))
    else
      if inb x1 36 = true then
        if inb (((36 : Int32) * (h 0 12)) + x1) 144 = true then
          f_X8_record_49 n (hs h 4 (((36 : Int32) * (h 0 12)) + x1).toNatClampNeg (h 1 x1.toNatClampNeg)) (x1 + 1)
        else none
      else none
theorem f_X8_record_49_s (n : Nat) (h : Hp) (x1 : Int32) : f_X8_record_49 (n + 1) h x1 =
    if (36 : Int32) ≤ x1 then
      some (hs h 0 12 ((h 0 12) + (1 : Int32)))
    else
      if inb x1 36 = true then
        if inb (((36 : Int32) * (h 0 12)) + x1) 144 = true then
          f_X8_record_49 n (hs h 4 (((36 : Int32) * (h 0 12)) + x1).toNatClampNeg (h 1 x1.toNatClampNeg)) (x1 + 1)
        else none
      else none := rfl
def f_X8_record_47 (h : Hp) : Option (Hp) :=
    f_X8_record_49 FU h (0 : Int32)
def f_X8_record_10 : Nat → Hp → Int32 → Option (Hp)
  | 0 => fun _ _ => none
  | n + 1 => fun h x1 =>
    if (108 : Int32) ≤ x1 then
      f_X8_record_47 (hs h 0 12 ((h 0 12) - (1 : Int32)))
    else
      if inb (x1 + (36 : Int32)) 144 = true then
        if inb x1 144 = true then
          f_X8_record_10 n (hs h 4 x1.toNatClampNeg (h 4 (x1 + (36 : Int32)).toNatClampNeg)) (x1 + 1)
        else none
      else none
theorem f_X8_record_10_s (n : Nat) (h : Hp) (x1 : Int32) : f_X8_record_10 (n + 1) h x1 =
    if (108 : Int32) ≤ x1 then
      f_X8_record_47 (hs h 0 12 ((h 0 12) - (1 : Int32)))
    else
      if inb (x1 + (36 : Int32)) 144 = true then
        if inb x1 144 = true then
          f_X8_record_10 n (hs h 4 x1.toNatClampNeg (h 4 (x1 + (36 : Int32)).toNatClampNeg)) (x1 + 1)
        else none
      else none := rfl
def f_X8_record (h : Hp) : Option (Hp) :=
    if (h 0 12) = (4 : Int32) then
      f_X8_record_10 FU h (0 : Int32)
    else
      f_X8_record_47 h
def f_X8_captain (h : Hp) (a1 : Int32) (a2 : Int32) (a3 : Int32) : Option (Int32 × Hp) :=
    (f_X8_isCaptain h a1).bind (fun q1 =>
      if q1.1 = 0 then
        some ((-1 : Int32), q1.2)
      else
        (f_X8_in q1.2 a2 (0 : Int32) (3 : Int32)).bind (fun q2 =>
          if q2.1 = 0 then
            some ((-2 : Int32), q2.2)
          else
            (f_X8_least q2.2 a2).bind (fun q3 =>
              (f_X8_most q3.2 a2).bind (fun q4 =>
                (f_X8_in q4.2 a3 q3.1 q4.1).bind (fun q5 =>
                  if q5.1 = 0 then
                    some ((-2 : Int32), q5.2)
                  else
                    (f_X8_of q5.2 a1 a2).bind (fun q6 =>
                      if q6.1 = a3 then
                        some ((-5 : Int32), q6.2)
                      else
                        (f_X8_record q6.2).bind (fun q7 =>
                          (f_X8_put q7 a1 a2 a3).bind (fun q8 =>
                            some (q6.1, q8)))))))))
def f_X8_isNext (h : Hp) (a1 : Int32) (a2 : Int32) : Option (Int32 × Hp) :=
    if (h 0 13) ≤ (h 0 11) then
      some ((0 : Int32), h)
    else
      if inb (h 0 11) 60 = true then
        (f_X8_in h (h 5 (h 0 11).toNatClampNeg) a1 a2).bind (fun q1 =>
          if q1.1 = 0 then
            some ((0 : Int32), q1.2)
          else
            some ((1 : Int32), q1.2))
      else none
def f_X8_number_52 : Nat → Hp → Int32 → Int32 → Option (Int32 × Hp)
  | 0 => fun _ _ _ => none
  | n + 1 => fun h x2 x3 =>
    if x3 ≤ 0 then
      some (x3, h)
    else
      (f_X8_isNext h (48 : Int32) (57 : Int32)).bind (fun q1 =>
        if q1.1 = 0 then
          some (x3, q1.2)
        else
          if inb (q1.2 0 11) 60 = true then
            if x2 < ((((10 : Int32) * x3) + (q1.2 5 (q1.2 0 11).toNatClampNeg)) - (48 : Int32)) then
              some (x3, q1.2)
            else
              if inb (q1.2 0 11) 60 = true then
                f_X8_number_52 n (hs q1.2 0 11 ((q1.2 0 11) + (1 : Int32))) x2 ((((10 : Int32) * x3) + (q1.2 5 (q1.2 0 11).toNatClampNeg)) - (48 : Int32))
              else none
          else none)
theorem f_X8_number_52_s (n : Nat) (h : Hp) (x2 : Int32) (x3 : Int32) : f_X8_number_52 (n + 1) h x2 x3 =
    if x3 ≤ 0 then
      some (x3, h)
    else
      (f_X8_isNext h (48 : Int32) (57 : Int32)).bind (fun q1 =>
        if q1.1 = 0 then
          some (x3, q1.2)
        else
          if inb (q1.2 0 11) 60 = true then
            if x2 < ((((10 : Int32) * x3) + (q1.2 5 (q1.2 0 11).toNatClampNeg)) - (48 : Int32)) then
              some (x3, q1.2)
            else
              if inb (q1.2 0 11) 60 = true then
                f_X8_number_52 n (hs q1.2 0 11 ((q1.2 0 11) + (1 : Int32))) x2 ((((10 : Int32) * x3) + (q1.2 5 (q1.2 0 11).toNatClampNeg)) - (48 : Int32))
              else none
          else none) := rfl
def f_X8_number_20 (h : Hp) (x2 : Int32) (t1 : Int32) (t2 : Int32) : Option (Int32 × Hp) :=
    (f_X8_isNext h t1 t2).bind (fun q1 =>
      if q1.1 = 0 then
        some ((-5 : Int32), q1.2)
      else
        if inb (q1.2 0 11) 60 = true then
          f_X8_number_52 FU (hs q1.2 0 11 ((q1.2 0 11) + (1 : Int32))) x2 ((q1.2 5 (q1.2 0 11).toNatClampNeg) - (48 : Int32))
        else none)
def f_X8_number (h : Hp) (a1 : Int32) (a2 : Int32) : Option (Int32 × Hp) :=
    if (9 : Int32) ≤ a2 then
      f_X8_number_20 h a2 ((48 : Int32) + a1) (57 : Int32)
    else
      f_X8_number_20 h a2 ((48 : Int32) + a1) ((48 : Int32) + a2)
def f_X8_sign_21 (h : Hp) (x2 : Int32) (t1 : Int32) (t2 : Int32) : Option (Int32 × Hp) :=
    if isb x2 = true then
      some (x2, (hs h 0 11 (t1 + t2)))
    else none
def f_X8_sign (h : Hp) (a1 : Int32) : Option (Int32 × Hp) :=
    (f_X8_isNext h a1 a1).bind (fun q1 =>
      if q1.1 = 0 then
        f_X8_sign_21 q1.2 q1.1 (q1.2 0 11) (0 : Int32)
      else
        f_X8_sign_21 q1.2 q1.1 (q1.2 0 11) (1 : Int32))
def f_X8_aboutOf (h : Hp) : Option (Int32 × Hp) :=
    (f_X8_sign h (112 : Int32)).bind (fun q1 =>
      if q1.1 = 0 then
        (f_X8_sign q1.2 (100 : Int32)).bind (fun q2 =>
          if q2.1 = 0 then
            (f_X8_sign q2.2 (102 : Int32)).bind (fun q3 =>
              if q3.1 = 0 then
                (f_X8_sign q3.2 (104 : Int32)).bind (fun q4 =>
                  if q4.1 = 0 then
                    some ((-5 : Int32), q4.2)
                  else
                    some ((3 : Int32), q4.2))
              else
                some ((2 : Int32), q3.2))
          else
            some ((1 : Int32), q2.2))
      else
        some ((0 : Int32), q1.2))
def f_X8_readPart_78 (K37 : Hp → Int32 → Int32 → Int32 → Option (Int32 × Hp)) (h : Hp) (x1 : Int32) (x2 : Int32) : Option (Int32 × Hp) :=
    (f_X8_aboutOf h).bind (fun q1 =>
      K37 q1.2 x1 x2 q1.1)
def f_X8_readPart_37 : Nat → Hp → Int32 → Int32 → Int32 → Option (Int32 × Hp)
  | 0 => fun _ _ _ _ => none
  | n + 1 => fun h x1 x2 x3 =>
    if x3 = (-5 : Int32) then
      some ((1 : Int32), h)
    else
      (f_X8_least h x3).bind (fun q1 =>
        (f_X8_most q1.2 x3).bind (fun q2 =>
          (f_X8_number q2.2 q1.1 q2.1).bind (fun q3 =>
            if q3.1 = (-5 : Int32) then
              some ((0 : Int32), q3.2)
            else
              if x1 = 0 then
                f_X8_readPart_78 (f_X8_readPart_37 n) q3.2 x1 x2
              else
                (f_X8_put q3.2 x2 x3 q3.1).bind (fun q4 =>
                  f_X8_readPart_78 (f_X8_readPart_37 n) q4 x1 x2))))
theorem f_X8_readPart_37_s (n : Nat) (h : Hp) (x1 : Int32) (x2 : Int32) (x3 : Int32) : f_X8_readPart_37 (n + 1) h x1 x2 x3 =
    if x3 = (-5 : Int32) then
      some ((1 : Int32), h)
    else
      (f_X8_least h x3).bind (fun q1 =>
        (f_X8_most q1.2 x3).bind (fun q2 =>
          (f_X8_number q2.2 q1.1 q2.1).bind (fun q3 =>
            if q3.1 = (-5 : Int32) then
              some ((0 : Int32), q3.2)
            else
              if x1 = 0 then
                f_X8_readPart_78 (f_X8_readPart_37 n) q3.2 x1 x2
              else
                (f_X8_put q3.2 x2 x3 q3.1).bind (fun q4 =>
                  f_X8_readPart_78 (f_X8_readPart_37 n) q4 x1 x2)))) := rfl
def f_X8_readPart (h : Hp) (a1 : Int32) : Option (Int32 × Hp) :=
    (f_X8_number h (0 : Int32) (2 : Int32)).bind (fun q1 =>
      if q1.1 = (-5 : Int32) then
        some ((0 : Int32), q1.2)
      else
        (f_X8_sign q1.2 (58 : Int32)).bind (fun q2 =>
          if q2.1 = 0 then
            some ((0 : Int32), q2.2)
          else
            (f_X8_aboutOf q2.2).bind (fun q3 =>
              if q3.1 = (-5 : Int32) then
                some ((0 : Int32), q3.2)
              else
                f_X8_readPart_37 FU q3.2 a1 q1.1 q3.1)))
def f_X8_readAll_9 : Nat → Hp → Int32 → Int32 → Option (Int32 × Hp)
  | 0 => fun _ _ _ => none
  | n + 1 => fun h x1 x2 =>
    if x2 = 0 then
      if (h 0 13) ≤ (h 0 11) then
        some (x1, h)
      else
        some (((-100 : Int32) - (h 0 11)), h)
    else
      (f_X8_readPart h (0 : Int32)).bind (fun q1 =>
        if q1.1 = 0 then
          some (((-100 : Int32) - (q1.2 0 11)), q1.2)
        else
          (f_X8_sign q1.2 (59 : Int32)).bind (fun q2 =>
            f_X8_readAll_9 n q2.2 (x1 + 1) q2.1))
theorem f_X8_readAll_9_s (n : Nat) (h : Hp) (x1 : Int32) (x2 : Int32) : f_X8_readAll_9 (n + 1) h x1 x2 =
    if x2 = 0 then
      if (h 0 13) ≤ (h 0 11) then
        some (x1, h)
      else
        some (((-100 : Int32) - (h 0 11)), h)
    else
      (f_X8_readPart h (0 : Int32)).bind (fun q1 =>
        if q1.1 = 0 then
          some (((-100 : Int32) - (q1.2 0 11)), q1.2)
        else
          (f_X8_sign q1.2 (59 : Int32)).bind (fun q2 =>
            f_X8_readAll_9 n q2.2 (x1 + 1) q2.1)) := rfl
def f_X8_readAll (h : Hp) : Option (Int32 × Hp) :=
    f_X8_readAll_9 FU (hs h 0 11 (0 : Int32)) (0 : Int32) (1 : Int32)
def f_X8_captains_22 : Nat → Hp → Int32 → Int32 → Option (Int32 × Hp)
  | 0 => fun _ _ _ => none
  | n + 1 => fun h x1 x2 =>
    if x1 ≤ x2 then
      some (x1, h)
    else
      (f_X8_readPart h (1 : Int32)).bind (fun q1 =>
        f_X8_captains_22 n (hs q1.2 0 11 ((q1.2 0 11) + (1 : Int32))) x1 (x2 + 1))
theorem f_X8_captains_22_s (n : Nat) (h : Hp) (x1 : Int32) (x2 : Int32) : f_X8_captains_22 (n + 1) h x1 x2 =
    if x1 ≤ x2 then
      some (x1, h)
    else
      (f_X8_readPart h (1 : Int32)).bind (fun q1 =>
        f_X8_captains_22 n (hs q1.2 0 11 ((q1.2 0 11) + (1 : Int32))) x1 (x2 + 1)) := rfl
def f_X8_captains (h : Hp) : Option (Int32 × Hp) :=
    (f_X8_readAll h).bind (fun q1 =>
      if 0 ≤ q1.1 then
        (f_X8_record q1.2).bind (fun q2 =>
          f_X8_captains_22 FU (hs q2 0 11 (0 : Int32)) q1.1 (0 : Int32))
      else
        some (q1.1, q1.2))
def f_X8_change (h : Hp) (a1 : Int32) (a2 : Int32) : Option (Int32 × Hp) :=
    if inb a1 36 = true then
      if (h 1 a1.toNatClampNeg) = a2 then
        some ((-5 : Int32), h)
      else
        (f_X8_record h).bind (fun q1 =>
          if inb a1 36 = true then
            some ((h 1 a1.toNatClampNeg), (hs q1 1 a1.toNatClampNeg a2))
          else none)
    else none
def f_X8_truth (h : Hp) (a1 : Int32) : Option (Int32 × Hp) :=
    (f_X8_in h a1 (0 : Int32) (11 : Int32)).bind (fun q1 =>
      if q1.1 = 0 then
        some ((-2 : Int32), q1.2)
      else
        (f_X8_change q1.2 (1 : Int32) a1).bind (fun q2 =>
          some (q2.1, q2.2)))
def f_X8_set_21 (h : Hp) (x1 : Int32) (x2 : Int32) (t0 : Int32) (t1 : Int32) (t2 : Int32) : Option (Int32 × Hp) :=
    (f_X8_in h t0 t1 t2).bind (fun q1 =>
      if q1.1 = 0 then
        some ((-2 : Int32), q1.2)
      else
        (f_X8_change q1.2 ((3 : Int32) + x1) x2).bind (fun q2 =>
          some (q2.1, q2.2)))
def f_X8_set (h : Hp) (a1 : Int32) (a2 : Int32) : Option (Int32 × Hp) :=
    (f_X8_in h a1 (0 : Int32) (1 : Int32)).bind (fun q1 =>
      if q1.1 = 0 then
        some ((-2 : Int32), q1.2)
      else
        if a1 = 0 then
          f_X8_set_21 q1.2 a1 a2 a2 a1 (1 : Int32)
        else
          f_X8_set_21 q1.2 a1 a2 a2 a1 (9 : Int32))
def f_X8_lot (h : Hp) (a1 : Int32) : Option (Int32 × Hp) :=
    (f_X8_in h a1 (0 : Int32) (65536 : Int32)).bind (fun q1 =>
      if q1.1 = 0 then
        some ((-2 : Int32), q1.2)
      else
        (f_X8_change q1.2 (2 : Int32) a1).bind (fun q2 =>
          some (q2.1, q2.2)))
def f_X8_sumOf (h : Hp) (a1 : Int32) : Option (Int32 × Hp) :=
    (f_X8_of h (0 : Int32) a1).bind (fun q1 =>
      (f_X8_of q1.2 (1 : Int32) a1).bind (fun q2 =>
        (f_X8_of q2.2 (2 : Int32) a1).bind (fun q3 =>
          some (((q1.1 + q2.1) + q3.1), q3.2))))
def f_X8_levelOf (h : Hp) (a1 : Int32) (a2 : Int32) : Option (Int32 × Hp) :=
    if 0 ≤ (((a2 + a1) - (a2 + a1) / (12 : Int32) * (12 : Int32)) - (6 : Int32)) then
      some ((((a2 + a1) - (a2 + a1) / (12 : Int32) * (12 : Int32)) - (6 : Int32)), h)
    else
      some ((-(((a2 + a1) - (a2 + a1) / (12 : Int32) * (12 : Int32)) - (6 : Int32))), h)
def f_X8_isEnough (h : Hp) (a1 : Int32) (a2 : Int32) (a3 : Int32) : Option (Int32 × Hp) :=
    (f_X8_levelOf h a2 a3).bind (fun q1 =>
      (f_X8_of q1.2 a1 (1 : Int32)).bind (fun q2 =>
        if q1.1 < q2.1 then
          some ((0 : Int32), q2.2)
        else
          some ((1 : Int32), q2.2)))
def f_X8_print_64 (K14 : Hp → Int32 → Int32 → Option (Hp)) (h : Hp) (x1 : Int32) (x2 : Int32) : Option (Hp) :=
    K14 h x1 (x2 + 3)
def f_X8_print_14 : Nat → Hp → Int32 → Int32 → Option (Hp)
  | 0 => fun _ _ _ => none
  | n + 1 => fun h x1 x2 =>
    if (23 : Int32) < (x2 + (2 : Int32)) then
      some h
    else
      (f_X8_of h x1 (0 : Int32)).bind (fun q1 =>
        (f_X8_isEnough q1.2 x1 q1.1 x2).bind (fun q2 =>
          if q2.1 = 0 then
            f_X8_print_14 n q2.2 x1 (x2 + 1)
          else
            if inb x1 3 = true then
              if inb (((8 : Int32) * x1) + (q2.2 7 x1.toNatClampNeg)) 24 = true then
                if inb x1 3 = true then
                  if inb x1 3 = true then
                    f_X8_print_64 (f_X8_print_14 n) (hs (hs q2.2 6 (((8 : Int32) * x1) + (q2.2 7 x1.toNatClampNeg)).toNatClampNeg x2) 7 x1.toNatClampNeg (((hs q2.2 6 (((8 : Int32) * x1) + (q2.2 7 x1.toNatClampNeg)).toNatClampNeg x2) 7 x1.toNatClampNeg) + (1 : Int32))) x1 x2
                  else none
                else none
              else none
            else none))
theorem f_X8_print_14_s (n : Nat) (h : Hp) (x1 : Int32) (x2 : Int32) : f_X8_print_14 (n + 1) h x1 x2 =
    if (23 : Int32) < (x2 + (2 : Int32)) then
      some h
    else
      (f_X8_of h x1 (0 : Int32)).bind (fun q1 =>
        (f_X8_isEnough q1.2 x1 q1.1 x2).bind (fun q2 =>
          if q2.1 = 0 then
            f_X8_print_14 n q2.2 x1 (x2 + 1)
          else
            if inb x1 3 = true then
              if inb (((8 : Int32) * x1) + (q2.2 7 x1.toNatClampNeg)) 24 = true then
                if inb x1 3 = true then
                  if inb x1 3 = true then
                    f_X8_print_64 (f_X8_print_14 n) (hs (hs q2.2 6 (((8 : Int32) * x1) + (q2.2 7 x1.toNatClampNeg)).toNatClampNeg x2) 7 x1.toNatClampNeg (((hs q2.2 6 (((8 : Int32) * x1) + (q2.2 7 x1.toNatClampNeg)).toNatClampNeg x2) 7 x1.toNatClampNeg) + (1 : Int32))) x1 x2
                  else none
                else none
              else none
            else none)) := rfl
def f_X8_print (h : Hp) (a1 : Int32) : Option (Hp) :=
    if inb a1 3 = true then
      (f_X8_of (hs h 7 a1.toNatClampNeg (0 : Int32)) a1 (2 : Int32)).bind (fun q1 =>
        f_X8_print_14 FU q1.2 a1 q1.1)
    else none
def f_X8_printAll_2 : Nat → Hp → Int32 → Option (Hp)
  | 0 => fun _ _ => none
  | n + 1 => fun h x1 =>
    if (3 : Int32) ≤ x1 then
      some h
    else
      (f_X8_print h x1).bind (fun q1 =>
        f_X8_printAll_2 n q1 (x1 + 1))
theorem f_X8_printAll_2_s (n : Nat) (h : Hp) (x1 : Int32) : f_X8_printAll_2 (n + 1) h x1 =
    if (3 : Int32) ≤ x1 then
      some h
    else
      (f_X8_print h x1).bind (fun q1 =>
        f_X8_printAll_2 n q1 (x1 + 1)) := rfl
def f_X8_printAll (h : Hp) : Option (Hp) :=
    f_X8_printAll_2 FU h (0 : Int32)
def f_X8_hourOf (h : Hp) (a1 : Int32) (a2 : Int32) : Option (Int32 × Hp) :=
    if inb (((8 : Int32) * a1) + a2) 24 = true then
      some ((h 6 (((8 : Int32) * a1) + a2).toNatClampNeg), h)
    else none
def f_X8_wants (h : Hp) (a1 : Int32) (a2 : Int32) : Option (Int32 × Hp) :=
    if inb a1 3 = true then
      if a2 < (h 9 a1.toNatClampNeg) then
        some ((0 : Int32), h)
      else
        if inb a1 3 = true then
          if inb a1 3 = true then
            if (h 7 a1.toNatClampNeg) ≤ (h 10 a1.toNatClampNeg) then
              some ((0 : Int32), h)
            else
              if inb a1 3 = true then
                (f_X8_hourOf h a1 (h 10 a1.toNatClampNeg)).bind (fun q1 =>
                  if a2 < q1.1 then
                    some ((0 : Int32), q1.2)
                  else
                    if (23 : Int32) < (a2 + (2 : Int32)) then
                      some ((0 : Int32), q1.2)
                    else
                      some ((1 : Int32), q1.2))
              else none
          else none
        else none
    else none
def f_X8_more (h : Hp) (a1 : Int32) (a2 : Int32) (a3 : Int32) : Option (Hp) :=
    (f_X8_of h a1 a2).bind (fun q1 =>
      (f_X8_put q1.2 a1 a2 (q1.1 + a3)).bind (fun q2 =>
        some q2))
def f_X8_isThere (h : Hp) (a1 : Int32) (a2 : Int32) (a3 : Int32) : Option (Int32 × Hp) :=
    if inb a1 3 = true then
      if (h 8 a1.toNatClampNeg) = a2 then
        if inb a1 3 = true then
          if a3 < (h 9 a1.toNatClampNeg) then
            some ((0 : Int32), h)
          else
            some ((1 : Int32), h)
        else none
      else
        some ((0 : Int32), h)
    else none
def f_X8_bits (h : Hp) (a1 : Int32) : Option (Int32 × Hp) :=
    some ((((a1 &&& (1 : Int32)) + ((a1 >>> ((1 : Int32) &&& 31)) &&& (1 : Int32))) + ((a1 >>> ((2 : Int32) &&& 31)) &&& (1 : Int32))), h)
def f_X8_draw_57 (K45 : Hp → Int32 → Int32 → Int32 → Option (Int32 × Hp)) (h : Hp) (x1 : Int32) (x2 : Int32) (x3 : Int32) : Option (Int32 × Hp) :=
    K45 h x1 (x2 - ((x1 >>> (x3 &&& 31)) &&& (1 : Int32))) (x3 + 1)
def f_X8_draw_45 : Nat → Hp → Int32 → Int32 → Int32 → Option (Int32 × Hp)
  | 0 => fun _ _ _ _ => none
  | n + 1 => fun h x1 x2 x3 =>
    if ((x1 >>> (x3 &&& 31)) &&& (1 : Int32)) = 0 then
      f_X8_draw_57 (f_X8_draw_45 n) h x1 x2 x3
    else
      if x2 ≤ 0 then
        some (x3, h)
      else
        f_X8_draw_57 (f_X8_draw_45 n) h x1 x2 x3
theorem f_X8_draw_45_s (n : Nat) (h : Hp) (x1 : Int32) (x2 : Int32) (x3 : Int32) : f_X8_draw_45 (n + 1) h x1 x2 x3 =
    if ((x1 >>> (x3 &&& 31)) &&& (1 : Int32)) = 0 then
      f_X8_draw_57 (f_X8_draw_45 n) h x1 x2 x3
    else
      if x2 ≤ 0 then
        some (x3, h)
      else
        f_X8_draw_57 (f_X8_draw_45 n) h x1 x2 x3 := rfl
def f_X8_draw_31 (h : Hp) (x1 : Int32) : Option (Int32 × Hp) :=
    if inb (2 : Int32) 36 = true then
      (f_X8_bits h x1).bind (fun q1 =>
        if ¬ q1.1 = 0 then
          f_X8_draw_45 FU q1.2 x1 ((h 1 (2 : Int32).toNatClampNeg) - (h 1 (2 : Int32).toNatClampNeg) / q1.1 * q1.1) (0 : Int32)
        else none)
    else none
def f_X8_draw (h : Hp) (a1 : Int32) : Option (Int32 × Hp) :=
    if inb (2 : Int32) 36 = true then
      if inb (2 : Int32) 36 = true then
        if inb (5 : Int32) 36 = true then
          if inb (5 : Int32) 36 = true then
            f_X8_draw_31 (hs (hs h 1 (2 : Int32).toNatClampNeg ((((75 : Int32) * (h 1 (2 : Int32).toNatClampNeg)) + (74 : Int32)) - (((75 : Int32) * (h 1 (2 : Int32).toNatClampNeg)) + (74 : Int32)) / (65537 : Int32) * (65537 : Int32))) 1 (5 : Int32).toNatClampNeg (((hs h 1 (2 : Int32).toNatClampNeg ((((75 : Int32) * (h 1 (2 : Int32).toNatClampNeg)) + (74 : Int32)) - (((75 : Int32) * (h 1 (2 : Int32).toNatClampNeg)) + (74 : Int32)) / (65537 : Int32) * (65537 : Int32))) 1 (5 : Int32).toNatClampNeg) + (1 : Int32))) a1
          else none
        else none
      else none
    else none
def f_X8_depart_23 (h : Hp) (x1 : Int32) : Option (Hp) :=
    if inb x1 3 = true then
      if inb x1 3 = true then
        (f_X8_more (hs h 10 x1.toNatClampNeg ((h 10 x1.toNatClampNeg) + (1 : Int32))) x1 (4 : Int32) (1 : Int32)).bind (fun q1 =>
          some q1)
      else none
    else none
def f_X8_depart (h : Hp) (a1 : Int32) (a2 : Int32) : Option (Hp) :=
    if inb a1 3 = true then
      if inb a1 3 = true then
        if inb a1 3 = true then
          f_X8_depart_23 (hs (hs h 8 a1.toNatClampNeg ((1 : Int32) - (h 8 a1.toNatClampNeg))) 9 a1.toNatClampNeg (a2 + (2 : Int32))) a1
        else none
      else none
    else none
def f_X8_givePier_115 (K53 : Hp → Int32 → Int32 → Int32 → Int32 → Int32 → Option (Hp)) (h : Hp) (x1 : Int32) (x3 : Int32) (x4 : Int32) (x5 : Int32) (x6 : Int32) : Option (Hp) :=
    K53 h x1 x3 x4 x5 (x6 + 1)
def f_X8_givePier_112 (K53 : Hp → Int32 → Int32 → Int32 → Int32 → Int32 → Option (Hp)) (h : Hp) (x1 : Int32) (x3 : Int32) (x4 : Int32) (x5 : Int32) (x6 : Int32) (t1 : Int32) (t2 : Int32) (t3 : Int32) : Option (Hp) :=
    (f_X8_more h t1 t2 t3).bind (fun q1 =>
      f_X8_givePier_115 K53 q1 x1 x3 x4 x5 x6)
def f_X8_givePier_53 : Nat → Hp → Int32 → Int32 → Int32 → Int32 → Int32 → Option (Hp)
  | 0 => fun _ _ _ _ _ _ => none
  | n + 1 => fun h x1 x3 x4 x5 x6 =>
    if (3 : Int32) ≤ x6 then
      some h
    else
      if ((x1 >>> (x6 &&& 31)) &&& (1 : Int32)) = 0 then
        f_X8_givePier_115 (f_X8_givePier_53 n) h x1 x3 x4 x5 x6
      else
        if x6 = x5 then
          (f_X8_depart h x6 x3).bind (fun q2 =>
            f_X8_givePier_115 (f_X8_givePier_53 n) q2 x1 x3 x4 x5 x6)
        else
          (f_X8_more h x6 (6 : Int32) (1 : Int32)).bind (fun q1 =>
            if x4 = 0 then
              f_X8_givePier_112 (f_X8_givePier_53 n) q1 x1 x3 x4 x5 x6 x6 (7 : Int32) (0 : Int32)
            else
              f_X8_givePier_112 (f_X8_givePier_53 n) q1 x1 x3 x4 x5 x6 x6 (7 : Int32) (1 : Int32))
theorem f_X8_givePier_53_s (n : Nat) (h : Hp) (x1 : Int32) (x3 : Int32) (x4 : Int32) (x5 : Int32) (x6 : Int32) : f_X8_givePier_53 (n + 1) h x1 x3 x4 x5 x6 =
    if (3 : Int32) ≤ x6 then
      some h
    else
      if ((x1 >>> (x6 &&& 31)) &&& (1 : Int32)) = 0 then
        f_X8_givePier_115 (f_X8_givePier_53 n) h x1 x3 x4 x5 x6
      else
        if x6 = x5 then
          (f_X8_depart h x6 x3).bind (fun q2 =>
            f_X8_givePier_115 (f_X8_givePier_53 n) q2 x1 x3 x4 x5 x6)
        else
          (f_X8_more h x6 (6 : Int32) (1 : Int32)).bind (fun q1 =>
            if x4 = 0 then
              f_X8_givePier_112 (f_X8_givePier_53 n) q1 x1 x3 x4 x5 x6 x6 (7 : Int32) (0 : Int32)
            else
              f_X8_givePier_112 (f_X8_givePier_53 n) q1 x1 x3 x4 x5 x6 x6 (7 : Int32) (1 : Int32)) := rfl
def f_X8_givePier_48 (h : Hp) (x1 : Int32) (x3 : Int32) (x4 : Int32) (t0 : Int32) : Option (Hp) :=
    f_X8_givePier_53 FU h x1 x3 x4 t0 (0 : Int32)
def f_X8_givePier_27 (h : Hp) (x1 : Int32) (x3 : Int32) (x4 : Int32) : Option (Hp) :=
    f_X8_givePier_48 h x1 x3 x4 (-5 : Int32)
def f_X8_givePier_17 (h : Hp) (x1 : Int32) (x2 : Int32) (x3 : Int32) (t0 : Int32) : Option (Hp) :=
    if x2 = 0 then
      if x1 = 0 then
        f_X8_givePier_27 h x1 x3 t0
      else
        if t0 = 0 then
          f_X8_givePier_48 h x1 x3 t0 (x1 / (2 : Int32))
        else
          (f_X8_draw h x1).bind (fun q1 =>
            f_X8_givePier_48 q1.2 x1 x3 t0 q1.1)
    else
      f_X8_givePier_27 h x1 x3 t0
def f_X8_givePier_16 (h : Hp) (x1 : Int32) (x2 : Int32) (x3 : Int32) : Option (Hp) :=
    f_X8_givePier_17 h x1 x2 x3 (0 : Int32)
def f_X8_givePier (h : Hp) (a1 : Int32) (a2 : Int32) (a3 : Int32) : Option (Hp) :=
    if a2 = 0 then
      (f_X8_bits h a1).bind (fun q1 =>
        if q1.1 ≤ (1 : Int32) then
          f_X8_givePier_16 q1.2 a1 a2 a3
        else
          f_X8_givePier_17 q1.2 a1 a2 a3 (1 : Int32))
    else
      f_X8_givePier_16 h a1 a2 a3
def f_X8_goOn_120 (K10 : Hp → Int32 → Int32 → Int32 → Int32 → Int32 → Option (Hp)) (h : Hp) (x1 : Int32) (x2 : Int32) (x3 : Int32) (x4 : Int32) (x5 : Int32) : Option (Hp) :=
    K10 h x1 x2 x3 x4 (x5 + 1)
def f_X8_goOn_41 (K10 : Hp → Int32 → Int32 → Int32 → Int32 → Int32 → Option (Hp)) (h : Hp) (x1 : Int32) (x2 : Int32) (x3 : Int32) (x4 : Int32) (x5 : Int32) : Option (Hp) :=
    (f_X8_wants h x5 x1).bind (fun q1 =>
      if q1.1 = 0 then
        f_X8_goOn_120 K10 q1.2 x1 x2 x3 x4 x5
      else
        if inb (1 : Int32) 36 = true then
          (f_X8_isEnough q1.2 x5 (q1.2 1 (1 : Int32).toNatClampNeg) x1).bind (fun q2 =>
            if q2.1 = 0 then
              (f_X8_more q2.2 x5 (5 : Int32) (1 : Int32)).bind (fun q4 =>
                if inb x5 3 = true then
                  if inb x5 3 = true then
                    f_X8_goOn_120 K10 (hs q4 11 x5.toNatClampNeg ((q4 11 x5.toNatClampNeg) + (1 : Int32))) x1 x2 x3 x4 x5
                  else none
                else none)
            else
              (f_X8_isThere q2.2 x5 (0 : Int32) x1).bind (fun q3 =>
                if q3.1 = 0 then
                  f_X8_goOn_120 K10 q3.2 x1 x2 (x3 ||| ((1 : Int32) <<< (x5 &&& 31))) x4 x5
                else
                  f_X8_goOn_120 K10 q3.2 x1 (x2 ||| ((1 : Int32) <<< (x5 &&& 31))) x3 x4 x5))
        else none)
def f_X8_goOn_160 (h : Hp) (x1 : Int32) (t1 : Int32) (t2 : Int32) : Option (Hp) :=
    (f_X8_givePier h t1 t2 x1).bind (fun q1 =>
      some q1)
def f_X8_goOn_141 (h : Hp) (x1 : Int32) (x3 : Int32) (x4 : Int32) (t1 : Int32) (t2 : Int32) : Option (Hp) :=
    (f_X8_givePier h t1 t2 x1).bind (fun q1 =>
      if (x4 &&& (2 : Int32)) = (2 : Int32) then
        f_X8_goOn_160 q1 x1 x3 (1 : Int32)
      else
        f_X8_goOn_160 q1 x1 x3 (0 : Int32))
def f_X8_goOn_10 : Nat → Hp → Int32 → Int32 → Int32 → Int32 → Int32 → Option (Hp)
  | 0 => fun _ _ _ _ _ _ => none
  | n + 1 => fun h x1 x2 x3 x4 x5 =>
    if (3 : Int32) ≤ x5 then
      if (x4 &&& (1 : Int32)) = (1 : Int32) then
        f_X8_goOn_141 h x1 x3 x4 x2 (1 : Int32)
      else
        f_X8_goOn_141 h x1 x3 x4 x2 (0 : Int32)
    else
      if inb x5 3 = true then
        if (h 9 x5.toNatClampNeg) = x1 then
          if inb x5 3 = true then
            f_X8_goOn_41 (f_X8_goOn_10 n) h x1 x2 x3 (x4 ||| ((1 : Int32) <<< ((h 8 x5.toNatClampNeg) &&& 31))) x5
          else none
        else
          f_X8_goOn_41 (f_X8_goOn_10 n) h x1 x2 x3 x4 x5
      else none
theorem f_X8_goOn_10_s (n : Nat) (h : Hp) (x1 : Int32) (x2 : Int32) (x3 : Int32) (x4 : Int32) (x5 : Int32) : f_X8_goOn_10 (n + 1) h x1 x2 x3 x4 x5 =
    if (3 : Int32) ≤ x5 then
      if (x4 &&& (1 : Int32)) = (1 : Int32) then
        f_X8_goOn_141 h x1 x3 x4 x2 (1 : Int32)
      else
        f_X8_goOn_141 h x1 x3 x4 x2 (0 : Int32)
    else
      if inb x5 3 = true then
        if (h 9 x5.toNatClampNeg) = x1 then
          if inb x5 3 = true then
            f_X8_goOn_41 (f_X8_goOn_10 n) h x1 x2 x3 (x4 ||| ((1 : Int32) <<< ((h 8 x5.toNatClampNeg) &&& 31))) x5
          else none
        else
          f_X8_goOn_41 (f_X8_goOn_10 n) h x1 x2 x3 x4 x5
      else none := rfl
def f_X8_goOn (h : Hp) (a1 : Int32) : Option (Hp) :=
    f_X8_goOn_10 FU h a1 (0 : Int32) (0 : Int32) (0 : Int32) (0 : Int32)
def f_X8_learn_71 (K24 : Hp → Int32 → Int32 → Option (Hp)) (h : Hp) (x1 : Int32) (x2 : Int32) : Option (Hp) :=
    K24 h x1 (x2 + 1)
def f_X8_learn_24 : Nat → Hp → Int32 → Int32 → Option (Hp)
  | 0 => fun _ _ _ => none
  | n + 1 => fun h x1 x2 =>
    if (3 : Int32) ≤ x2 then
      if inb (1 : Int32) 36 = true then
        some (hs h 1 (1 : Int32).toNatClampNeg x1)
      else none
    else
      if inb x2 3 = true then
        if inb (4 : Int32) 36 = true then
          if (h 11 x2.toNatClampNeg) < (h 1 (4 : Int32).toNatClampNeg) then
            f_X8_learn_71 (f_X8_learn_24 n) h x1 x2
          else
            (f_X8_put h x2 (0 : Int32) x1).bind (fun q1 =>
              (f_X8_more q1 x2 (9 : Int32) (1 : Int32)).bind (fun q2 =>
                f_X8_learn_71 (f_X8_learn_24 n) (hs q2 0 15 ((q2 0 15) ||| ((1 : Int32) <<< (x2 &&& 31)))) x1 x2))
        else none
      else none
theorem f_X8_learn_24_s (n : Nat) (h : Hp) (x1 : Int32) (x2 : Int32) : f_X8_learn_24 (n + 1) h x1 x2 =
    if (3 : Int32) ≤ x2 then
      if inb (1 : Int32) 36 = true then
        some (hs h 1 (1 : Int32).toNatClampNeg x1)
      else none
    else
      if inb x2 3 = true then
        if inb (4 : Int32) 36 = true then
          if (h 11 x2.toNatClampNeg) < (h 1 (4 : Int32).toNatClampNeg) then
            f_X8_learn_71 (f_X8_learn_24 n) h x1 x2
          else
            (f_X8_put h x2 (0 : Int32) x1).bind (fun q1 =>
              (f_X8_more q1 x2 (9 : Int32) (1 : Int32)).bind (fun q2 =>
                f_X8_learn_71 (f_X8_learn_24 n) (hs q2 0 15 ((q2 0 15) ||| ((1 : Int32) <<< (x2 &&& 31)))) x1 x2))
        else none
      else none := rfl
def f_X8_learn (h : Hp) : Option (Hp) :=
    if inb (1 : Int32) 36 = true then
      if inb (3 : Int32) 36 = true then
        f_X8_learn_24 FU (hs h 0 15 (0 : Int32)) (((h 1 (1 : Int32).toNatClampNeg) + (h 1 (3 : Int32).toNatClampNeg)) - ((h 1 (1 : Int32).toNatClampNeg) + (h 1 (3 : Int32).toNatClampNeg)) / (12 : Int32) * (12 : Int32)) (0 : Int32)
      else none
    else none
def f_X8_sailDay_44 (K6 : Hp → Int32 → Option (Hp)) (h : Hp) (x1 : Int32) : Option (Hp) :=
    K6 h (x1 + 1)
def f_X8_sailDay_30 (K6 : Hp → Int32 → Option (Hp)) (h : Hp) (x1 : Int32) : Option (Hp) :=
    if inb x1 3 = true then
      if inb x1 3 = true then
        f_X8_sailDay_44 K6 (hs (hs h 10 x1.toNatClampNeg (0 : Int32)) 11 x1.toNatClampNeg (0 : Int32)) x1
      else none
    else none
def f_X8_sailDay_71 : Nat → Hp → Int32 → Option (Hp)
  | 0 => fun _ _ => none
  | n + 1 => fun h x1 =>
    if (3 : Int32) ≤ x1 then
      (f_X8_learn h).bind (fun q1 =>
        if inb (0 : Int32) 36 = true then
          if inb (0 : Int32) 36 = true then
            some (hs q1 1 (0 : Int32).toNatClampNeg ((q1 1 (0 : Int32).toNatClampNeg) + (1 : Int32)))
          else none
        else none)
    else
      if inb x1 3 = true then
        if inb x1 3 = true then
          (f_X8_more h x1 (8 : Int32) ((h 7 x1.toNatClampNeg) - (h 10 x1.toNatClampNeg))).bind (fun q2 =>
            f_X8_sailDay_71 n q2 (x1 + 1))
        else none
      else none
theorem f_X8_sailDay_71_s (n : Nat) (h : Hp) (x1 : Int32) : f_X8_sailDay_71 (n + 1) h x1 =
    if (3 : Int32) ≤ x1 then
      (f_X8_learn h).bind (fun q1 =>
        if inb (0 : Int32) 36 = true then
          if inb (0 : Int32) 36 = true then
            some (hs q1 1 (0 : Int32).toNatClampNeg ((q1 1 (0 : Int32).toNatClampNeg) + (1 : Int32)))
          else none
        else none)
    else
      if inb x1 3 = true then
        if inb x1 3 = true then
          (f_X8_more h x1 (8 : Int32) ((h 7 x1.toNatClampNeg) - (h 10 x1.toNatClampNeg))).bind (fun q2 =>
            f_X8_sailDay_71 n q2 (x1 + 1))
        else none
      else none := rfl
def f_X8_sailDay_52 : Nat → Hp → Int32 → Option (Hp)
  | 0 => fun _ _ => none
  | n + 1 => fun h x1 =>
    if (24 : Int32) ≤ x1 then
      f_X8_sailDay_71 FU h (0 : Int32)
    else
      (f_X8_goOn h x1).bind (fun q1 =>
        f_X8_sailDay_52 n q1 (x1 + 1))
theorem f_X8_sailDay_52_s (n : Nat) (h : Hp) (x1 : Int32) : f_X8_sailDay_52 (n + 1) h x1 =
    if (24 : Int32) ≤ x1 then
      f_X8_sailDay_71 FU h (0 : Int32)
    else
      (f_X8_goOn h x1).bind (fun q1 =>
        f_X8_sailDay_52 n q1 (x1 + 1)) := rfl
def f_X8_sailDay_6 : Nat → Hp → Int32 → Option (Hp)
  | 0 => fun _ _ => none
  | n + 1 => fun h x1 =>
    if (3 : Int32) ≤ x1 then
      f_X8_sailDay_52 FU h (0 : Int32)
    else
      (f_X8_of h x1 (3 : Int32)).bind (fun q1 =>
        if inb x1 3 = true then
          if inb x1 3 = true then
            f_X8_sailDay_30 (f_X8_sailDay_6 n) (hs (hs q1.2 8 x1.toNatClampNeg q1.1) 9 x1.toNatClampNeg (-1 : Int32)) x1
          else none
        else none)
theorem f_X8_sailDay_6_s (n : Nat) (h : Hp) (x1 : Int32) : f_X8_sailDay_6 (n + 1) h x1 =
    if (3 : Int32) ≤ x1 then
      f_X8_sailDay_52 FU h (0 : Int32)
    else
      (f_X8_of h x1 (3 : Int32)).bind (fun q1 =>
        if inb x1 3 = true then
          if inb x1 3 = true then
            f_X8_sailDay_30 (f_X8_sailDay_6 n) (hs (hs q1.2 8 x1.toNatClampNeg q1.1) 9 x1.toNatClampNeg (-1 : Int32)) x1
          else none
        else none) := rfl
def f_X8_sailDay (h : Hp) : Option (Hp) :=
    (f_X8_printAll h).bind (fun q1 =>
      f_X8_sailDay_6 FU q1 (0 : Int32))
def f_X8_sail_42 : Nat → Hp → Int32 → Int32 → Int32 → Option (Int32 × Hp)
  | 0 => fun _ _ _ _ => none
  | n + 1 => fun h x1 x2 x3 =>
    if x1 ≤ x3 then
      (f_X8_sumOf h (4 : Int32)).bind (fun q1 =>
        some ((q1.1 - x2), q1.2))
    else
      (f_X8_sailDay h).bind (fun q2 =>
        f_X8_sail_42 n q2 x1 x2 (x3 + 1))
theorem f_X8_sail_42_s (n : Nat) (h : Hp) (x1 : Int32) (x2 : Int32) (x3 : Int32) : f_X8_sail_42 (n + 1) h x1 x2 x3 =
    if x1 ≤ x3 then
      (f_X8_sumOf h (4 : Int32)).bind (fun q1 =>
        some ((q1.1 - x2), q1.2))
    else
      (f_X8_sailDay h).bind (fun q2 =>
        f_X8_sail_42 n q2 x1 x2 (x3 + 1)) := rfl
def f_X8_sail (h : Hp) (a1 : Int32) : Option (Int32 × Hp) :=
    (f_X8_in h a1 (1 : Int32) (30 : Int32)).bind (fun q1 =>
      if q1.1 = 0 then
        some ((-2 : Int32), q1.2)
      else
        if inb (0 : Int32) 36 = true then
          if ((q1.2 1 (0 : Int32).toNatClampNeg) + a1) ≤ (9999 : Int32) then
            (f_X8_record q1.2).bind (fun q2 =>
              (f_X8_sumOf q2 (4 : Int32)).bind (fun q3 =>
                f_X8_sail_42 FU q3.2 a1 q3.1 (0 : Int32)))
          else
            some ((-3 : Int32), q1.2)
        else none)
def f_X8_type_32 (h : Hp) : Option (Int32 × Hp) :=
    some ((h 0 13), h)
def f_X8_type (h : Hp) (a1 : Int32) : Option (Int32 × Hp) :=
    if (h 0 13) = (60 : Int32) then
      some ((-3 : Int32), h)
    else
      if inb (h 0 13) 60 = true then
        f_X8_type_32 (hs (hs h 5 (h 0 13).toNatClampNeg a1) 0 13 (((hs h 5 (h 0 13).toNatClampNeg a1) 0 13) + (1 : Int32)))
      else none
def f_X8_clearText (h : Hp) : Option (Int32 × Hp) :=
    some ((h 0 13), (hs h 0 13 (0 : Int32)))
def f_X8_fault (h : Hp) : Option (Int32 × Hp) :=
    (f_X8_readAll h).bind (fun q1 =>
      if 0 ≤ q1.1 then
        some ((-5 : Int32), q1.2)
      else
        some (((-100 : Int32) - q1.1), q1.2))
def f_X8_undo_22 : Nat → Hp → Int32 → Option (Int32 × Hp)
  | 0 => fun _ _ => none
  | n + 1 => fun h x1 =>
    if (36 : Int32) ≤ x1 then
      some ((h 0 12), h)
    else
      if inb (((36 : Int32) * (h 0 12)) + x1) 144 = true then
        if inb x1 36 = true then
          f_X8_undo_22 n (hs h 1 x1.toNatClampNeg (h 4 (((36 : Int32) * (h 0 12)) + x1).toNatClampNeg)) (x1 + 1)
        else none
      else none
theorem f_X8_undo_22_s (n : Nat) (h : Hp) (x1 : Int32) : f_X8_undo_22 (n + 1) h x1 =
    if (36 : Int32) ≤ x1 then
      some ((h 0 12), h)
    else
      if inb (((36 : Int32) * (h 0 12)) + x1) 144 = true then
        if inb x1 36 = true then
          f_X8_undo_22 n (hs h 1 x1.toNatClampNeg (h 4 (((36 : Int32) * (h 0 12)) + x1).toNatClampNeg)) (x1 + 1)
        else none
      else none := rfl
def f_X8_undo (h : Hp) : Option (Int32 × Hp) :=
    if (h 0 12) = 0 then
      some ((-5 : Int32), h)
    else
      f_X8_undo_22 FU (hs h 0 12 ((h 0 12) - (1 : Int32))) (0 : Int32)
def f_X8_keep_31 (h : Hp) : Option (Int32 × Hp) :=
    if inb (0 : Int32) 36 = true then
      some ((h 1 (0 : Int32).toNatClampNeg), h)
    else none
def f_X8_keep_2 : Nat → Hp → Int32 → Option (Int32 × Hp)
  | 0 => fun _ _ => none
  | n + 1 => fun h x1 =>
    if (36 : Int32) ≤ x1 then
      f_X8_keep_31 (hs h 0 14 (1 : Int32))
    else
      if inb x1 36 = true then
        if inb x1 36 = true then
          f_X8_keep_2 n (hs h 2 x1.toNatClampNeg (h 1 x1.toNatClampNeg)) (x1 + 1)
        else none
      else none
theorem f_X8_keep_2_s (n : Nat) (h : Hp) (x1 : Int32) : f_X8_keep_2 (n + 1) h x1 =
    if (36 : Int32) ≤ x1 then
      f_X8_keep_31 (hs h 0 14 (1 : Int32))
    else
      if inb x1 36 = true then
        if inb x1 36 = true then
          f_X8_keep_2 n (hs h 2 x1.toNatClampNeg (h 1 x1.toNatClampNeg)) (x1 + 1)
        else none
      else none := rfl
def f_X8_keep (h : Hp) : Option (Int32 × Hp) :=
    f_X8_keep_2 FU h (0 : Int32)
def f_X8_restore_16 : Nat → Hp → Int32 → Option (Int32 × Hp)
  | 0 => fun _ _ => none
  | n + 1 => fun h x1 =>
    if (36 : Int32) ≤ x1 then
      if inb (0 : Int32) 36 = true then
        some ((h 1 (0 : Int32).toNatClampNeg), h)
      else none
    else
      if inb x1 36 = true then
        if inb x1 36 = true then
          f_X8_restore_16 n (hs h 1 x1.toNatClampNeg (h 2 x1.toNatClampNeg)) (x1 + 1)
        else none
      else none
theorem f_X8_restore_16_s (n : Nat) (h : Hp) (x1 : Int32) : f_X8_restore_16 (n + 1) h x1 =
    if (36 : Int32) ≤ x1 then
      if inb (0 : Int32) 36 = true then
        some ((h 1 (0 : Int32).toNatClampNeg), h)
      else none
    else
      if inb x1 36 = true then
        if inb x1 36 = true then
          f_X8_restore_16 n (hs h 1 x1.toNatClampNeg (h 2 x1.toNatClampNeg)) (x1 + 1)
        else none
      else none := rfl
def f_X8_restore (h : Hp) : Option (Int32 × Hp) :=
    if (h 0 14) = 0 then
      some ((-5 : Int32), h)
    else
      (f_X8_record h).bind (fun q1 =>
        f_X8_restore_16 FU q1 (0 : Int32))
def f_X8_captainOf (h : Hp) (a1 : Int32) (a2 : Int32) : Option (Int32 × Hp) :=
    (f_X8_isCaptain h a1).bind (fun q1 =>
      if q1.1 = 0 then
        some ((-1 : Int32), q1.2)
      else
        (f_X8_in q1.2 a2 (0 : Int32) (3 : Int32)).bind (fun q2 =>
          if q2.1 = 0 then
            if a2 = (4 : Int32) then
              (f_X8_print q2.2 a1).bind (fun q5 =>
                if inb a1 3 = true then
                  some ((q5 7 a1.toNatClampNeg), q5)
                else none)
            else
              (f_X8_in q2.2 a2 (5 : Int32) (10 : Int32)).bind (fun q3 =>
                if q3.1 = 0 then
                  some ((-2 : Int32), q3.2)
                else
                  (f_X8_of q3.2 a1 (((4 : Int32) + a2) - (5 : Int32))).bind (fun q4 =>
                    some (q4.1, q4.2)))
          else
            (f_X8_of q2.2 a1 a2).bind (fun q6 =>
              some (q6.1, q6.2))))
def f_X8_pierOf (h : Hp) (a1 : Int32) (a2 : Int32) : Option (Int32 × Hp) :=
    (f_X8_of h a1 (3 : Int32)).bind (fun q1 =>
      some (((q1.1 + a2) - (q1.1 + a2) / (2 : Int32) * (2 : Int32)), q1.2))
def f_X8_printed (h : Hp) (a1 : Int32) (a2 : Int32) (a3 : Int32) : Option (Int32 × Hp) :=
    (f_X8_isCaptain h a1).bind (fun q1 =>
      if q1.1 = 0 then
        some ((-1 : Int32), q1.2)
      else
        (f_X8_print q1.2 a1).bind (fun q2 =>
          if inb a1 3 = true then
            (f_X8_in q2 a2 (0 : Int32) ((q2 7 a1.toNatClampNeg) - (1 : Int32))).bind (fun q3 =>
              if q3.1 = 0 then
                some ((-1 : Int32), q3.2)
              else
                if a3 = 0 then
                  (f_X8_hourOf q3.2 a1 a2).bind (fun q5 =>
                    some (q5.1, q5.2))
                else
                  if a3 = (1 : Int32) then
                    (f_X8_pierOf q3.2 a1 a2).bind (fun q4 =>
                      some (q4.1, q4.2))
                  else
                    some ((-2 : Int32), q3.2))
          else none))
def f_X8_level_50 (h : Hp) (x2 : Int32) (t0 : Int32) : Option (Int32 × Hp) :=
    (f_X8_levelOf h t0 x2).bind (fun q1 =>
      some (q1.1, q1.2))
def f_X8_level (h : Hp) (a1 : Int32) (a2 : Int32) (a3 : Int32) : Option (Int32 × Hp) :=
    (f_X8_in h a1 (0 : Int32) (3 : Int32)).bind (fun q1 =>
      if q1.1 = 0 then
        some ((-1 : Int32), q1.2)
      else
        (f_X8_in q1.2 a2 (0 : Int32) (23 : Int32)).bind (fun q2 =>
          if q2.1 = 0 then
            some ((-1 : Int32), q2.2)
          else
            (f_X8_in q2.2 a3 (0 : Int32) (1 : Int32)).bind (fun q3 =>
              if q3.1 = 0 then
                some ((-2 : Int32), q3.2)
              else
                if a1 = (3 : Int32) then
                  if inb (1 : Int32) 36 = true then
                    f_X8_level_50 q3.2 a2 (q3.2 1 (1 : Int32).toNatClampNeg)
                  else none
                else
                  (f_X8_of q3.2 a1 (0 : Int32)).bind (fun q4 =>
                    f_X8_level_50 q4.2 a2 q4.1))))
def f_X8_usesPier_72 (K3 : Hp → Int32 → Int32 → Int32 → Int32 → Option (Int32 × Hp)) (h : Hp) (x1 : Int32) (x2 : Int32) (x3 : Int32) (x4 : Int32) (x5 : Int32) (t0 : Int32) : Option (Int32 × Hp) :=
    if x5 = 0 then
      if t0 = 0 then
        K3 h x1 x2 x3 (x4 + 1)
      else
        some ((1 : Int32), h)
    else
      some ((1 : Int32), h)
def f_X8_usesPier_71 (K3 : Hp → Int32 → Int32 → Int32 → Int32 → Option (Int32 × Hp)) (h : Hp) (x1 : Int32) (x2 : Int32) (x3 : Int32) (x4 : Int32) (x5 : Int32) : Option (Int32 × Hp) :=
    f_X8_usesPier_72 K3 h x1 x2 x3 x4 x5 (0 : Int32)
def f_X8_usesPier_41 (K3 : Hp → Int32 → Int32 → Int32 → Int32 → Option (Int32 × Hp)) (h : Hp) (x1 : Int32) (x2 : Int32) (x3 : Int32) (x4 : Int32) (t0 : Int32) : Option (Int32 × Hp) :=
    (f_X8_hourOf h x1 x4).bind (fun q1 =>
      if (q1.1 + (2 : Int32)) = x3 then
        (f_X8_pierOf q1.2 x1 x4).bind (fun q2 =>
          if q2.1 = x2 then
            f_X8_usesPier_71 K3 q2.2 x1 x2 x3 x4 t0
          else
            f_X8_usesPier_72 K3 q2.2 x1 x2 x3 x4 t0 (1 : Int32))
      else
        f_X8_usesPier_71 K3 q1.2 x1 x2 x3 x4 t0)
def f_X8_usesPier_40 (K3 : Hp → Int32 → Int32 → Int32 → Int32 → Option (Int32 × Hp)) (h : Hp) (x1 : Int32) (x2 : Int32) (x3 : Int32) (x4 : Int32) : Option (Int32 × Hp) :=
    f_X8_usesPier_41 K3 h x1 x2 x3 x4 (0 : Int32)
def f_X8_usesPier_3 : Nat → Hp → Int32 → Int32 → Int32 → Int32 → Option (Int32 × Hp)
  | 0 => fun _ _ _ _ _ => none
  | n + 1 => fun h x1 x2 x3 x4 =>
    if inb x1 3 = true then
      if (h 7 x1.toNatClampNeg) ≤ x4 then
        some ((0 : Int32), h)
      else
        (f_X8_hourOf h x1 x4).bind (fun q1 =>
          if q1.1 = x3 then
            (f_X8_pierOf q1.2 x1 x4).bind (fun q2 =>
              if q2.1 = x2 then
                f_X8_usesPier_41 (f_X8_usesPier_3 n) q2.2 x1 x2 x3 x4 (1 : Int32)
              else
                f_X8_usesPier_40 (f_X8_usesPier_3 n) q2.2 x1 x2 x3 x4)
          else
            f_X8_usesPier_40 (f_X8_usesPier_3 n) q1.2 x1 x2 x3 x4)
    else none
theorem f_X8_usesPier_3_s (n : Nat) (h : Hp) (x1 : Int32) (x2 : Int32) (x3 : Int32) (x4 : Int32) : f_X8_usesPier_3 (n + 1) h x1 x2 x3 x4 =
    if inb x1 3 = true then
      if (h 7 x1.toNatClampNeg) ≤ x4 then
        some ((0 : Int32), h)
      else
        (f_X8_hourOf h x1 x4).bind (fun q1 =>
          if q1.1 = x3 then
            (f_X8_pierOf q1.2 x1 x4).bind (fun q2 =>
              if q2.1 = x2 then
                f_X8_usesPier_41 (f_X8_usesPier_3 n) q2.2 x1 x2 x3 x4 (1 : Int32)
              else
                f_X8_usesPier_40 (f_X8_usesPier_3 n) q2.2 x1 x2 x3 x4)
          else
            f_X8_usesPier_40 (f_X8_usesPier_3 n) q1.2 x1 x2 x3 x4)
    else none := rfl
def f_X8_usesPier (h : Hp) (a1 : Int32) (a2 : Int32) (a3 : Int32) : Option (Int32 × Hp) :=
    f_X8_usesPier_3 FU h a1 a2 a3 (0 : Int32)
def f_X8_usesSet_31 (K5 : Hp → Int32 → Int32 → Int32 → Int32 → Option (Int32 × Hp)) (h : Hp) (x1 : Int32) (x2 : Int32) (x4 : Int32) (t0 : Int32) (t1 : Int32) : Option (Int32 × Hp) :=
    K5 h x1 x2 (t0 ||| t1) (x4 + 1)
def f_X8_usesSet_5 : Nat → Hp → Int32 → Int32 → Int32 → Int32 → Option (Int32 × Hp)
  | 0 => fun _ _ _ _ _ => none
  | n + 1 => fun h x1 x2 x3 x4 =>
    if (3 : Int32) ≤ x4 then
      some (x3, h)
    else
      (f_X8_usesPier h x4 x1 x2).bind (fun q1 =>
        if q1.1 = 0 then
          f_X8_usesSet_31 (f_X8_usesSet_5 n) q1.2 x1 x2 x4 x3 (0 : Int32)
        else
          f_X8_usesSet_31 (f_X8_usesSet_5 n) q1.2 x1 x2 x4 x3 ((1 : Int32) <<< (x4 &&& 31)))
theorem f_X8_usesSet_5_s (n : Nat) (h : Hp) (x1 : Int32) (x2 : Int32) (x3 : Int32) (x4 : Int32) : f_X8_usesSet_5 (n + 1) h x1 x2 x3 x4 =
    if (3 : Int32) ≤ x4 then
      some (x3, h)
    else
      (f_X8_usesPier h x4 x1 x2).bind (fun q1 =>
        if q1.1 = 0 then
          f_X8_usesSet_31 (f_X8_usesSet_5 n) q1.2 x1 x2 x4 x3 (0 : Int32)
        else
          f_X8_usesSet_31 (f_X8_usesSet_5 n) q1.2 x1 x2 x4 x3 ((1 : Int32) <<< (x4 &&& 31))) := rfl
def f_X8_usesSet (h : Hp) (a1 : Int32) (a2 : Int32) : Option (Int32 × Hp) :=
    f_X8_usesSet_5 FU h a1 a2 (0 : Int32) (0 : Int32)
def f_X8_uses (h : Hp) (a1 : Int32) (a2 : Int32) : Option (Int32 × Hp) :=
    (f_X8_in h a1 (0 : Int32) (1 : Int32)).bind (fun q1 =>
      if q1.1 = 0 then
        some ((-1 : Int32), q1.2)
      else
        (f_X8_in q1.2 a2 (0 : Int32) (23 : Int32)).bind (fun q2 =>
          if q2.1 = 0 then
            some ((-1 : Int32), q2.2)
          else
            (f_X8_printAll q2.2).bind (fun q3 =>
              (f_X8_usesSet q3 a1 a2).bind (fun q4 =>
                some (q4.1, q4.2)))))
def f_X8_clash_49 (K9 : Hp → Int32 → Int32 → Int32 → Option (Int32 × Hp)) (h : Hp) (x2 : Int32) (x4 : Int32) (x5 : Int32) (t0 : Int32) (t1 : Int32) : Option (Int32 × Hp) :=
    if 0 ≤ (t0 - t1) then
      K9 h x2 (t0 - t1) (x4 + 1)
    else
      if x2 = 0 then
        some ((x4 / (2 : Int32)), h)
      else
        if x2 = (1 : Int32) then
          some ((x4 - x4 / (2 : Int32) * (2 : Int32)), h)
        else
          if x2 = (2 : Int32) then
            some (x5, h)
          else
            some ((-2 : Int32), h)
def f_X8_clash_9 : Nat → Hp → Int32 → Int32 → Int32 → Option (Int32 × Hp)
  | 0 => fun _ _ _ _ => none
  | n + 1 => fun h x2 x3 x4 =>
    if (48 : Int32) ≤ x4 then
      some ((-1 : Int32), h)
    else
      if x3 < 0 then
        some ((-1 : Int32), h)
      else
        (f_X8_usesSet h (x4 - x4 / (2 : Int32) * (2 : Int32)) (x4 / (2 : Int32))).bind (fun q1 =>
          (f_X8_bits q1.2 q1.1).bind (fun q2 =>
            if q2.1 ≤ (1 : Int32) then
              f_X8_clash_49 (f_X8_clash_9 n) q2.2 x2 x4 q1.1 x3 (0 : Int32)
            else
              f_X8_clash_49 (f_X8_clash_9 n) q2.2 x2 x4 q1.1 x3 (1 : Int32)))
theorem f_X8_clash_9_s (n : Nat) (h : Hp) (x2 : Int32) (x3 : Int32) (x4 : Int32) : f_X8_clash_9 (n + 1) h x2 x3 x4 =
    if (48 : Int32) ≤ x4 then
      some ((-1 : Int32), h)
    else
      if x3 < 0 then
        some ((-1 : Int32), h)
      else
        (f_X8_usesSet h (x4 - x4 / (2 : Int32) * (2 : Int32)) (x4 / (2 : Int32))).bind (fun q1 =>
          (f_X8_bits q1.2 q1.1).bind (fun q2 =>
            if q2.1 ≤ (1 : Int32) then
              f_X8_clash_49 (f_X8_clash_9 n) q2.2 x2 x4 q1.1 x3 (0 : Int32)
            else
              f_X8_clash_49 (f_X8_clash_9 n) q2.2 x2 x4 q1.1 x3 (1 : Int32))) := rfl
def f_X8_clash (h : Hp) (a1 : Int32) (a2 : Int32) : Option (Int32 × Hp) :=
    (f_X8_printAll h).bind (fun q1 =>
      f_X8_clash_9 FU q1 a2 a1 (0 : Int32))
def f_X8_hours_89 (K29 : Hp → Int32 → Int32 → Int32 → Int32 → Int32 → Option (Int32 × Hp)) (h : Hp) (x1 : Int32) (x2 : Int32) (x3 : Int32) (x5 : Int32) (t0 : Int32) (t1 : Int32) : Option (Int32 × Hp) :=
    K29 h x1 x2 x3 (t0 ||| t1) (x5 + 1)
def f_X8_hours_61 (K29 : Hp → Int32 → Int32 → Int32 → Int32 → Int32 → Option (Int32 × Hp)) (h : Hp) (x1 : Int32) (x2 : Int32) (x4 : Int32) (x5 : Int32) (t0 : Int32) (t1 : Int32) : Option (Int32 × Hp) :=
    if inb (1 : Int32) 36 = true then
      (f_X8_isEnough h x1 (h 1 (1 : Int32).toNatClampNeg) x5).bind (fun q1 =>
        if q1.1 = 0 then
          f_X8_hours_89 K29 q1.2 x1 x2 (t0 ||| t1) x5 x4 (0 : Int32)
        else
          f_X8_hours_89 K29 q1.2 x1 x2 (t0 ||| t1) x5 x4 ((1 : Int32) <<< (x5 &&& 31)))
    else none
def f_X8_hours_29 : Nat → Hp → Int32 → Int32 → Int32 → Int32 → Int32 → Option (Int32 × Hp)
  | 0 => fun _ _ _ _ _ _ => none
  | n + 1 => fun h x1 x2 x3 x4 x5 =>
    if (24 : Int32) ≤ x5 then
      if x2 = 0 then
        some (x3, h)
      else
        if x2 = (1 : Int32) then
          some (x4, h)
        else
          some ((x3 ^^^ x4), h)
    else
      (f_X8_of h x1 (0 : Int32)).bind (fun q1 =>
        (f_X8_isEnough q1.2 x1 q1.1 x5).bind (fun q2 =>
          if q2.1 = 0 then
            f_X8_hours_61 (f_X8_hours_29 n) q2.2 x1 x2 x4 x5 x3 (0 : Int32)
          else
            f_X8_hours_61 (f_X8_hours_29 n) q2.2 x1 x2 x4 x5 x3 ((1 : Int32) <<< (x5 &&& 31))))
theorem f_X8_hours_29_s (n : Nat) (h : Hp) (x1 : Int32) (x2 : Int32) (x3 : Int32) (x4 : Int32) (x5 : Int32) : f_X8_hours_29 (n + 1) h x1 x2 x3 x4 x5 =
    if (24 : Int32) ≤ x5 then
      if x2 = 0 then
        some (x3, h)
      else
        if x2 = (1 : Int32) then
          some (x4, h)
        else
          some ((x3 ^^^ x4), h)
    else
      (f_X8_of h x1 (0 : Int32)).bind (fun q1 =>
        (f_X8_isEnough q1.2 x1 q1.1 x5).bind (fun q2 =>
          if q2.1 = 0 then
            f_X8_hours_61 (f_X8_hours_29 n) q2.2 x1 x2 x4 x5 x3 (0 : Int32)
          else
            f_X8_hours_61 (f_X8_hours_29 n) q2.2 x1 x2 x4 x5 x3 ((1 : Int32) <<< (x5 &&& 31)))) := rfl
def f_X8_hours (h : Hp) (a1 : Int32) (a2 : Int32) : Option (Int32 × Hp) :=
    (f_X8_isCaptain h a1).bind (fun q1 =>
      if q1.1 = 0 then
        some ((-1 : Int32), q1.2)
      else
        (f_X8_in q1.2 a2 (0 : Int32) (2 : Int32)).bind (fun q2 =>
          if q2.1 = 0 then
            some ((-2 : Int32), q2.2)
          else
            f_X8_hours_29 FU q2.2 a1 a2 (0 : Int32) (0 : Int32) (0 : Int32)))
def f_X8_clashes_33 (K4 : Hp → Int32 → Int32 → Option (Int32 × Hp)) (h : Hp) (x2 : Int32) (t0 : Int32) (t1 : Int32) : Option (Int32 × Hp) :=
    K4 h (t0 + t1) (x2 + 1)
def f_X8_clashes_4 : Nat → Hp → Int32 → Int32 → Option (Int32 × Hp)
  | 0 => fun _ _ _ => none
  | n + 1 => fun h x1 x2 =>
    if (48 : Int32) ≤ x2 then
      some (x1, h)
    else
      (f_X8_usesSet h (x2 - x2 / (2 : Int32) * (2 : Int32)) (x2 / (2 : Int32))).bind (fun q1 =>
        (f_X8_bits q1.2 q1.1).bind (fun q2 =>
          if q2.1 ≤ (1 : Int32) then
            f_X8_clashes_33 (f_X8_clashes_4 n) q2.2 x2 x1 (0 : Int32)
          else
            f_X8_clashes_33 (f_X8_clashes_4 n) q2.2 x2 x1 (1 : Int32)))
theorem f_X8_clashes_4_s (n : Nat) (h : Hp) (x1 : Int32) (x2 : Int32) : f_X8_clashes_4 (n + 1) h x1 x2 =
    if (48 : Int32) ≤ x2 then
      some (x1, h)
    else
      (f_X8_usesSet h (x2 - x2 / (2 : Int32) * (2 : Int32)) (x2 / (2 : Int32))).bind (fun q1 =>
        (f_X8_bits q1.2 q1.1).bind (fun q2 =>
          if q2.1 ≤ (1 : Int32) then
            f_X8_clashes_33 (f_X8_clashes_4 n) q2.2 x2 x1 (0 : Int32)
          else
            f_X8_clashes_33 (f_X8_clashes_4 n) q2.2 x2 x1 (1 : Int32))) := rfl
def f_X8_clashes (h : Hp) : Option (Int32 × Hp) :=
    f_X8_clashes_4 FU h (0 : Int32) (0 : Int32)
def f_X8_count_166 (h : Hp) (x1 : Int32) : Option (Int32 × Hp) :=
    if inb (((3 : Int32) + x1) - (12 : Int32)) 36 = true then
      some ((h 1 (((3 : Int32) + x1) - (12 : Int32)).toNatClampNeg), h)
    else none
def f_X8_count (h : Hp) (a1 : Int32) : Option (Int32 × Hp) :=
    (f_X8_printAll h).bind (fun q1 =>
      if a1 = 0 then
        if inb (0 : Int32) 36 = true then
          some ((q1 1 (0 : Int32).toNatClampNeg), q1)
        else none
      else
      if a1 = 1 then
        if inb (1 : Int32) 36 = true then
          some ((q1 1 (1 : Int32).toNatClampNeg), q1)
        else none
      else
      if a1 = 2 then
        if inb (2 : Int32) 36 = true then
          some ((q1 1 (2 : Int32).toNatClampNeg), q1)
        else none
      else
      if a1 = 3 then
        (f_X8_clashes q1).bind (fun q2 =>
          some (q2.1, q2.2))
      else
      if a1 = 4 then
        if inb (0 : Int32) 3 = true then
          if inb (1 : Int32) 3 = true then
            if inb (2 : Int32) 3 = true then
              some ((((q1 7 (0 : Int32).toNatClampNeg) + (q1 7 (1 : Int32).toNatClampNeg)) + (q1 7 (2 : Int32).toNatClampNeg)), q1)
            else none
          else none
        else none
      else
      if a1 = 5 then
        (f_X8_sumOf q1 (4 : Int32)).bind (fun q3 =>
          some (q3.1, q3.2))
      else
      if a1 = 6 then
        (f_X8_sumOf q1 (8 : Int32)).bind (fun q4 =>
          some (q4.1, q4.2))
      else
      if a1 = 7 then
        if inb (5 : Int32) 36 = true then
          some ((q1 1 (5 : Int32).toNatClampNeg), q1)
        else none
      else
      if a1 = 8 then
        (f_X8_sumOf q1 (5 : Int32)).bind (fun q5 =>
          some (q5.1, q5.2))
      else
      if a1 = 9 then
        (f_X8_sumOf q1 (6 : Int32)).bind (fun q6 =>
          some (q6.1, q6.2))
      else
      if a1 = 10 then
        some ((q1 0 12), q1)
      else
      if a1 = 11 then
        some ((q1 0 13), q1)
      else
      if a1 = 12 then
        f_X8_count_166 q1 a1
      else
      if a1 = 13 then
        f_X8_count_166 q1 a1
      else
      some ((-2 : Int32), q1))
def f_X8_lay_2 : Nat → Hp → Int32 → Option (Hp)
  | 0 => fun _ _ => none
  | n + 1 => fun h x1 =>
    if (36 : Int32) ≤ x1 then
      some h
    else
      if inb x1 36 = true then
        if inb x1 36 = true then
          f_X8_lay_2 n (hs h 3 x1.toNatClampNeg (h 1 x1.toNatClampNeg)) (x1 + 1)
        else none
      else none
theorem f_X8_lay_2_s (n : Nat) (h : Hp) (x1 : Int32) : f_X8_lay_2 (n + 1) h x1 =
    if (36 : Int32) ≤ x1 then
      some h
    else
      if inb x1 36 = true then
        if inb x1 36 = true then
          f_X8_lay_2 n (hs h 3 x1.toNatClampNeg (h 1 x1.toNatClampNeg)) (x1 + 1)
        else none
      else none := rfl
def f_X8_lay (h : Hp) : Option (Hp) :=
    f_X8_lay_2 FU h (0 : Int32)
def f_X8_told (h : Hp) (a1 : Int32) : Option (Int32 × Hp) :=
    if a1 = 0 then
      (f_X8_sumOf h (4 : Int32)).bind (fun q4 =>
        some (q4.1, q4.2))
    else
      if a1 = (1 : Int32) then
        (f_X8_sumOf h (8 : Int32)).bind (fun q3 =>
          some (q3.1, q3.2))
      else
        if a1 = (2 : Int32) then
          (f_X8_sumOf h (5 : Int32)).bind (fun q2 =>
            some (q2.1, q2.2))
        else
          if a1 = (3 : Int32) then
            (f_X8_sumOf h (6 : Int32)).bind (fun q1 =>
              some (q1.1, q1.2))
          else
            if inb (5 : Int32) 36 = true then
              some ((h 1 (5 : Int32).toNatClampNeg), h)
            else none
def f_X8_takeBack_2 : Nat → Hp → Int32 → Option (Hp)
  | 0 => fun _ _ => none
  | n + 1 => fun h x1 =>
    if (36 : Int32) ≤ x1 then
      some h
    else
      if inb x1 36 = true then
        if inb x1 36 = true then
          f_X8_takeBack_2 n (hs h 1 x1.toNatClampNeg (h 3 x1.toNatClampNeg)) (x1 + 1)
        else none
      else none
theorem f_X8_takeBack_2_s (n : Nat) (h : Hp) (x1 : Int32) : f_X8_takeBack_2 (n + 1) h x1 =
    if (36 : Int32) ≤ x1 then
      some h
    else
      if inb x1 36 = true then
        if inb x1 36 = true then
          f_X8_takeBack_2 n (hs h 1 x1.toNatClampNeg (h 3 x1.toNatClampNeg)) (x1 + 1)
        else none
      else none := rfl
def f_X8_takeBack (h : Hp) : Option (Hp) :=
    f_X8_takeBack_2 FU h (0 : Int32)
def f_X8_ifSailed_45 (h : Hp) (t0 : Int32) : Option (Int32 × Hp) :=
    (f_X8_takeBack h).bind (fun q1 =>
      some (t0, q1))
def f_X8_ifSailed (h : Hp) (a1 : Int32) : Option (Int32 × Hp) :=
    (f_X8_in h a1 (0 : Int32) (5 : Int32)).bind (fun q1 =>
      if q1.1 = 0 then
        some ((-2 : Int32), q1.2)
      else
        (f_X8_lay q1.2).bind (fun q2 =>
          (f_X8_told q2 a1).bind (fun q3 =>
            (f_X8_sailDay q3.2).bind (fun q4 =>
              if a1 = (5 : Int32) then
                f_X8_ifSailed_45 q4 (q4 0 15)
              else
                (f_X8_told q4 a1).bind (fun q5 =>
                  f_X8_ifSailed_45 q5.2 (q5.1 - q3.1))))))
def f_X8_bestHour_104 (K32 : Hp → Int32 → Int32 → Int32 → Int32 → Int32 → Int32 → Option (Int32 × Hp)) (h : Hp) (x1 : Int32) (x2 : Int32) (x3 : Int32) (x4 : Int32) (x5 : Int32) (x6 : Int32) : Option (Int32 × Hp) :=
    K32 h x1 x2 x3 x4 x5 (x6 + 1)
def f_X8_bestHour_89 (K32 : Hp → Int32 → Int32 → Int32 → Int32 → Int32 → Int32 → Option (Int32 × Hp)) (h : Hp) (x1 : Int32) (x2 : Int32) (x6 : Int32) (x7 : Int32) : Option (Int32 × Hp) :=
    if inb x1 3 = true then
      f_X8_bestHour_104 K32 h x1 x2 x6 x7 (h 7 x1.toNatClampNeg) x6
    else none
def f_X8_bestHour_32 : Nat → Hp → Int32 → Int32 → Int32 → Int32 → Int32 → Int32 → Option (Int32 × Hp)
  | 0 => fun _ _ _ _ _ _ _ => none
  | n + 1 => fun h x1 x2 x3 x4 x5 x6 =>
    if (24 : Int32) ≤ x6 then
      (f_X8_put h x1 (2 : Int32) x2).bind (fun q1 =>
        some (x3, q1))
    else
      (f_X8_put h x1 (2 : Int32) x6).bind (fun q2 =>
        (f_X8_print q2 x1).bind (fun q3 =>
          (f_X8_clashes q3).bind (fun q4 =>
            if x3 = (-5 : Int32) then
              f_X8_bestHour_89 (f_X8_bestHour_32 n) q4.2 x1 x2 x6 q4.1
            else
              if q4.1 < x4 then
                f_X8_bestHour_89 (f_X8_bestHour_32 n) q4.2 x1 x2 x6 q4.1
              else
                if q4.1 = x4 then
                  if inb x1 3 = true then
                    if (q4.2 7 x1.toNatClampNeg) ≤ x5 then
                      f_X8_bestHour_104 (f_X8_bestHour_32 n) q4.2 x1 x2 x3 x4 x5 x6
                    else
                      f_X8_bestHour_89 (f_X8_bestHour_32 n) q4.2 x1 x2 x6 q4.1
                  else none
                else
                  f_X8_bestHour_104 (f_X8_bestHour_32 n) q4.2 x1 x2 x3 x4 x5 x6)))
theorem f_X8_bestHour_32_s (n : Nat) (h : Hp) (x1 : Int32) (x2 : Int32) (x3 : Int32) (x4 : Int32) (x5 : Int32) (x6 : Int32) : f_X8_bestHour_32 (n + 1) h x1 x2 x3 x4 x5 x6 =
    if (24 : Int32) ≤ x6 then
      (f_X8_put h x1 (2 : Int32) x2).bind (fun q1 =>
        some (x3, q1))
    else
      (f_X8_put h x1 (2 : Int32) x6).bind (fun q2 =>
        (f_X8_print q2 x1).bind (fun q3 =>
          (f_X8_clashes q3).bind (fun q4 =>
            if x3 = (-5 : Int32) then
              f_X8_bestHour_89 (f_X8_bestHour_32 n) q4.2 x1 x2 x6 q4.1
            else
              if q4.1 < x4 then
                f_X8_bestHour_89 (f_X8_bestHour_32 n) q4.2 x1 x2 x6 q4.1
              else
                if q4.1 = x4 then
                  if inb x1 3 = true then
                    if (q4.2 7 x1.toNatClampNeg) ≤ x5 then
                      f_X8_bestHour_104 (f_X8_bestHour_32 n) q4.2 x1 x2 x3 x4 x5 x6
                    else
                      f_X8_bestHour_89 (f_X8_bestHour_32 n) q4.2 x1 x2 x6 q4.1
                  else none
                else
                  f_X8_bestHour_104 (f_X8_bestHour_32 n) q4.2 x1 x2 x3 x4 x5 x6))) := rfl
def f_X8_bestHour (h : Hp) (a1 : Int32) : Option (Int32 × Hp) :=
    (f_X8_isCaptain h a1).bind (fun q1 =>
      if q1.1 = 0 then
        some ((-1 : Int32), q1.2)
      else
        (f_X8_of q1.2 a1 (2 : Int32)).bind (fun q2 =>
          (f_X8_printAll q2.2).bind (fun q3 =>
            f_X8_bestHour_32 FU q3 a1 q2.1 (-5 : Int32) (0 : Int32) (0 : Int32) (0 : Int32))))
def f_X8_bestPhase_75 (K21 : Hp → Int32 → Int32 → Int32 → Int32 → Option (Int32 × Hp)) (h : Hp) (x1 : Int32) (x2 : Int32) (x3 : Int32) (x4 : Int32) : Option (Int32 × Hp) :=
    (f_X8_takeBack h).bind (fun q1 =>
      K21 q1 x1 x2 x3 (x4 + 1))
def f_X8_bestPhase_69 (K21 : Hp → Int32 → Int32 → Int32 → Int32 → Option (Int32 × Hp)) (h : Hp) (x1 : Int32) (x4 : Int32) (x6 : Int32) : Option (Int32 × Hp) :=
    f_X8_bestPhase_75 K21 h x1 x4 x6 x4
def f_X8_bestPhase_21 : Nat → Hp → Int32 → Int32 → Int32 → Int32 → Option (Int32 × Hp)
  | 0 => fun _ _ _ _ _ => none
  | n + 1 => fun h x1 x2 x3 x4 =>
    if (12 : Int32) ≤ x4 then
      some (x2, h)
    else
      (f_X8_put h x1 (0 : Int32) x4).bind (fun q1 =>
        (f_X8_sumOf q1 (4 : Int32)).bind (fun q2 =>
          (f_X8_sailDay q2.2).bind (fun q3 =>
            (f_X8_sumOf q3 (4 : Int32)).bind (fun q4 =>
              if x2 = (-5 : Int32) then
                f_X8_bestPhase_69 (f_X8_bestPhase_21 n) q4.2 x1 x4 (q4.1 - q2.1)
              else
                if (q4.1 - q2.1) ≤ x3 then
                  f_X8_bestPhase_75 (f_X8_bestPhase_21 n) q4.2 x1 x2 x3 x4
                else
                  f_X8_bestPhase_69 (f_X8_bestPhase_21 n) q4.2 x1 x4 (q4.1 - q2.1)))))
theorem f_X8_bestPhase_21_s (n : Nat) (h : Hp) (x1 : Int32) (x2 : Int32) (x3 : Int32) (x4 : Int32) : f_X8_bestPhase_21 (n + 1) h x1 x2 x3 x4 =
    if (12 : Int32) ≤ x4 then
      some (x2, h)
    else
      (f_X8_put h x1 (0 : Int32) x4).bind (fun q1 =>
        (f_X8_sumOf q1 (4 : Int32)).bind (fun q2 =>
          (f_X8_sailDay q2.2).bind (fun q3 =>
            (f_X8_sumOf q3 (4 : Int32)).bind (fun q4 =>
              if x2 = (-5 : Int32) then
                f_X8_bestPhase_69 (f_X8_bestPhase_21 n) q4.2 x1 x4 (q4.1 - q2.1)
              else
                if (q4.1 - q2.1) ≤ x3 then
                  f_X8_bestPhase_75 (f_X8_bestPhase_21 n) q4.2 x1 x2 x3 x4
                else
                  f_X8_bestPhase_69 (f_X8_bestPhase_21 n) q4.2 x1 x4 (q4.1 - q2.1))))) := rfl
def f_X8_bestPhase (h : Hp) (a1 : Int32) : Option (Int32 × Hp) :=
    (f_X8_isCaptain h a1).bind (fun q1 =>
      if q1.1 = 0 then
        some ((-1 : Int32), q1.2)
      else
        (f_X8_lay q1.2).bind (fun q2 =>
          f_X8_bestPhase_21 FU q2 a1 (-5 : Int32) (0 : Int32) (0 : Int32)))
end
section
theorem q_2 : Cond.initialized RX7 ∈ W0 := w0_mk 45 (by decide +kernel) rfl
theorem q_5 : Cond.initialized RX8 ∈ W0 := w0_mk 53 (by decide +kernel) rfl
theorem q_14 : Cond.initialized RX5 ∈ W0 := w0_mk 46 (by decide +kernel) rfl
theorem q_15 : Cond.fieldLink RX7 12 "CaptainTides" "now" "LCaptainTides$State;" ∈ W0 := w0_mk 284 (by decide +kernel) rfl
theorem q_16 : Cond.fieldLink RX7 16 "CaptainTides" "snapshot" "LCaptainTides$State;" ∈ W0 := w0_mk 285 (by decide +kernel) rfl
theorem q_17 : Cond.fieldLink RX7 19 "CaptainTides" "hasSnapshot" "Z" ∈ W0 := w0_mk 286 (by decide +kernel) rfl
theorem q_18 : Cond.fieldLink RX7 23 "CaptainTides" "history" "[LCaptainTides$State;" ∈ W0 := w0_mk 287 (by decide +kernel) rfl
theorem q_19 : Cond.fieldLink RX7 27 "CaptainTides" "recorded" "I" ∈ W0 := w0_mk 288 (by decide +kernel) rfl
theorem q_22 : Cond.initialized RX0 ∈ W0 := w0_mk 48 (by decide +kernel) rfl
theorem q_23 : Cond.fieldLink RX7 34 "CaptainTides" "text" "LCaptainTides$BeliefText;" ∈ W0 := w0_mk 289 (by decide +kernel) rfl
theorem q_24 : Cond.fieldLink RX7 38 "CaptainTides" "trial" "LCaptainTides$State;" ∈ W0 := w0_mk 290 (by decide +kernel) rfl
theorem q_27 : Cond.initialized RX1 ∈ W0 := w0_mk 49 (by decide +kernel) rfl
theorem q_28 : Cond.fieldLink RX7 44 "CaptainTides" "board" "LCaptainTides$Board;" ∈ W0 := w0_mk 291 (by decide +kernel) rfl
theorem q_31 : Cond.initialized RX4 ∈ W0 := w0_mk 51 (by decide +kernel) rfl
theorem q_32 : Cond.fieldLink RX7 51 "CaptainTides" "sailed" "LCaptainTides$SailedDay;" ∈ W0 := w0_mk 292 (by decide +kernel) rfl
theorem q_38 : Cond.initialized RX2 ∈ W0 := w0_mk 47 (by decide +kernel) rfl
theorem q_39 : Cond.fieldLink RX5 14 "CaptainTides$State" "captains" "[LCaptainTides$Captain;" ∈ W0 := w0_mk 117 (by decide +kernel) rfl
theorem q_40 : Cond.fieldLink RX5 20 "CaptainTides$State" "drift" "I" ∈ W0 := w0_mk 122 (by decide +kernel) rfl
theorem q_41 : Cond.fieldLink RX5 24 "CaptainTides$State" "hoursToLearn" "I" ∈ W0 := w0_mk 123 (by decide +kernel) rfl
theorem q_42 : Cond.fieldLink RX5 27 "CaptainTides$State" "phase" "I" ∈ W0 := w0_mk 125 (by decide +kernel) rfl
theorem q_43 : Cond.fieldLink RX5 30 "CaptainTides$State" "lot" "I" ∈ W0 := w0_mk 128 (by decide +kernel) rfl
theorem q_44 : Cond.fieldLink RX5 33 "CaptainTides$State" "lotsDrawn" "I" ∈ W0 := w0_mk 131 (by decide +kernel) rfl
theorem q_45 : Cond.fieldLink RX5 36 "CaptainTides$State" "day" "I" ∈ W0 := w0_mk 133 (by decide +kernel) rfl
theorem q_50 : Cond.fieldLink RX2 9 "CaptainTides$Captain" "draft" "I" ∈ W0 := w0_mk 80 (by decide +kernel) rfl
theorem q_51 : Cond.fieldLink RX2 15 "CaptainTides$Captain" "firstHour" "I" ∈ W0 := w0_mk 84 (by decide +kernel) rfl
theorem q_52 : Cond.fieldLink RX2 18 "CaptainTides$Captain" "crossingsMade" "I" ∈ W0 := w0_mk 90 (by decide +kernel) rfl
theorem q_53 : Cond.fieldLink RX2 21 "CaptainTides$Captain" "hoursAground" "I" ∈ W0 := w0_mk 91 (by decide +kernel) rfl
theorem q_54 : Cond.fieldLink RX2 24 "CaptainTides$Captain" "hoursLate" "I" ∈ W0 := w0_mk 92 (by decide +kernel) rfl
theorem q_55 : Cond.fieldLink RX2 27 "CaptainTides$Captain" "pardons" "I" ∈ W0 := w0_mk 93 (by decide +kernel) rfl
theorem q_56 : Cond.fieldLink RX2 30 "CaptainTides$Captain" "crossingsCancelled" "I" ∈ W0 := w0_mk 94 (by decide +kernel) rfl
theorem q_57 : Cond.fieldLink RX2 33 "CaptainTides$Captain" "lessons" "I" ∈ W0 := w0_mk 95 (by decide +kernel) rfl
theorem q_58 : Cond.fieldLink RX2 36 "CaptainTides$Captain" "belief" "I" ∈ W0 := w0_mk 77 (by decide +kernel) rfl
theorem q_59 : Cond.fieldLink RX2 39 "CaptainTides$Captain" "home" "I" ∈ W0 := w0_mk 87 (by decide +kernel) rfl
theorem q_64 : Cond.fieldLink RX0 9 "CaptainTides$BeliefText" "signs" "[C" ∈ W0 := w0_mk 157 (by decide +kernel) rfl
theorem q_65 : Cond.fieldLink RX0 15 "CaptainTides$BeliefText" "length" "I" ∈ W0 := w0_mk 158 (by decide +kernel) rfl
theorem q_66 : Cond.fieldLink RX0 19 "CaptainTides$BeliefText" "parts" "I" ∈ W0 := w0_mk 160 (by decide +kernel) rfl
theorem q_67 : Cond.fieldLink RX0 22 "CaptainTides$BeliefText" "place" "I" ∈ W0 := w0_mk 162 (by decide +kernel) rfl
theorem q_68 : Cond.fieldLink RX0 25 "CaptainTides$BeliefText" "captain" "I" ∈ W0 := w0_mk 163 (by decide +kernel) rfl
theorem q_69 : Cond.fieldLink RX0 28 "CaptainTides$BeliefText" "what" "I" ∈ W0 := w0_mk 164 (by decide +kernel) rfl
theorem q_70 : Cond.fieldLink RX0 31 "CaptainTides$BeliefText" "number" "I" ∈ W0 := w0_mk 165 (by decide +kernel) rfl
theorem q_76 : Cond.initialized RX6 ∈ W0 := w0_mk 50 (by decide +kernel) rfl
theorem q_77 : Cond.fieldLink RX1 12 "CaptainTides$Board" "timetables" "[LCaptainTides$Timetable;" ∈ W0 := w0_mk 209 (by decide +kernel) rfl
theorem q_79 : Cond.fieldLink RX1 18 "CaptainTides$Board" "users" "[I" ∈ W0 := w0_mk 211 (by decide +kernel) rfl
theorem q_83 : Cond.fieldLink RX6 9 "CaptainTides$Timetable" "hours" "[I" ∈ W0 := w0_mk 195 (by decide +kernel) rfl
theorem q_84 : Cond.fieldLink RX6 15 "CaptainTides$Timetable" "crossings" "I" ∈ W0 := w0_mk 196 (by decide +kernel) rfl
theorem q_85 : Cond.fieldLink RX6 19 "CaptainTides$Timetable" "home" "I" ∈ W0 := w0_mk 200 (by decide +kernel) rfl
theorem q_91 : Cond.initialized RX3 ∈ W0 := w0_mk 52 (by decide +kernel) rfl
theorem q_92 : Cond.fieldLink RX4 12 "CaptainTides$SailedDay" "ferries" "[LCaptainTides$Ferry;" ∈ W0 := w0_mk 270 (by decide +kernel) rfl
theorem q_93 : Cond.fieldLink RX4 18 "CaptainTides$SailedDay" "lot" "I" ∈ W0 := w0_mk 272 (by decide +kernel) rfl
theorem q_94 : Cond.fieldLink RX4 22 "CaptainTides$SailedDay" "lotsDrawn" "I" ∈ W0 := w0_mk 274 (by decide +kernel) rfl
theorem q_99 : Cond.fieldLink RX3 12 "CaptainTides$Ferry" "timetable" "LCaptainTides$Timetable;" ∈ W0 := w0_mk 232 (by decide +kernel) rfl
theorem q_100 : Cond.fieldLink RX3 18 "CaptainTides$Ferry" "draft" "I" ∈ W0 := w0_mk 233 (by decide +kernel) rfl
theorem q_101 : Cond.fieldLink RX3 22 "CaptainTides$Ferry" "pier" "I" ∈ W0 := w0_mk 234 (by decide +kernel) rfl
theorem q_102 : Cond.fieldLink RX3 25 "CaptainTides$Ferry" "atSea" "Z" ∈ W0 := w0_mk 235 (by decide +kernel) rfl
theorem q_103 : Cond.fieldLink RX3 29 "CaptainTides$Ferry" "departure" "I" ∈ W0 := w0_mk 236 (by decide +kernel) rfl
theorem q_104 : Cond.fieldLink RX3 32 "CaptainTides$Ferry" "arrivedNow" "Z" ∈ W0 := w0_mk 237 (by decide +kernel) rfl
theorem q_105 : Cond.fieldLink RX3 35 "CaptainTides$Ferry" "wantsNow" "Z" ∈ W0 := w0_mk 238 (by decide +kernel) rfl
theorem q_106 : Cond.fieldLink RX3 38 "CaptainTides$Ferry" "crossingsMade" "I" ∈ W0 := w0_mk 239 (by decide +kernel) rfl
theorem q_107 : Cond.fieldLink RX3 41 "CaptainTides$Ferry" "hoursAground" "I" ∈ W0 := w0_mk 241 (by decide +kernel) rfl
theorem q_108 : Cond.fieldLink RX3 44 "CaptainTides$Ferry" "hoursLate" "I" ∈ W0 := w0_mk 243 (by decide +kernel) rfl
theorem q_109 : Cond.fieldLink RX3 47 "CaptainTides$Ferry" "pardons" "I" ∈ W0 := w0_mk 245 (by decide +kernel) rfl
theorem q_114 : Cond.fieldLink RX8 7 "CaptainTidesModel" "now" "[I" ∈ W0 := w0_mk 663 (by decide +kernel) rfl
theorem q_115 : Cond.fieldLink RX8 13 "CaptainTidesModel" "slot" "[I" ∈ W0 := w0_mk 664 (by decide +kernel) rfl
theorem q_116 : Cond.fieldLink RX8 16 "CaptainTidesModel" "beside" "[I" ∈ W0 := w0_mk 665 (by decide +kernel) rfl
theorem q_117 : Cond.fieldLink RX8 19 "CaptainTidesModel" "history" "[I" ∈ W0 := w0_mk 666 (by decide +kernel) rfl
theorem q_118 : Cond.fieldLink RX8 22 "CaptainTidesModel" "text" "[I" ∈ W0 := w0_mk 667 (by decide +kernel) rfl
theorem q_119 : Cond.fieldLink RX8 25 "CaptainTidesModel" "hour" "[I" ∈ W0 := w0_mk 668 (by decide +kernel) rfl
theorem q_120 : Cond.fieldLink RX8 28 "CaptainTidesModel" "many" "[I" ∈ W0 := w0_mk 669 (by decide +kernel) rfl
theorem q_121 : Cond.fieldLink RX8 31 "CaptainTidesModel" "pier" "[I" ∈ W0 := w0_mk 670 (by decide +kernel) rfl
theorem q_122 : Cond.fieldLink RX8 34 "CaptainTidesModel" "arrives" "[I" ∈ W0 := w0_mk 671 (by decide +kernel) rfl
theorem q_123 : Cond.fieldLink RX8 37 "CaptainTidesModel" "next" "[I" ∈ W0 := w0_mk 672 (by decide +kernel) rfl
theorem q_124 : Cond.fieldLink RX8 40 "CaptainTidesModel" "ground" "[I" ∈ W0 := w0_mk 673 (by decide +kernel) rfl
theorem q_125 : Cond.methodLink RX8 43 yX8_put ∈ W0 := w0_mk 659 (by decide +kernel) rfl
theorem q_126 : Cond.instanceMethod yX8_put ∈ W0 := w0_mk 661 (by decide +kernel) rfl
theorem q_127 : Cond.selects RX8 yX8_put yX8_put ∈ W0 := w0_mk 13 (by decide +kernel) rfl
theorem q_128 : Cond.code yX8_put cX8_put 4 none ∈ W0 := w0_mk 662 (by decide +kernel) rfl
theorem q_133 : Cond.fieldLink RX7 63 "CaptainTides$State" "captains" "[LCaptainTides$Captain;" ∈ W0 := w0_mk 118 (by decide +kernel) rfl
theorem q_134 : Cond.methodLink RX7 55 yX7_isCaptain ∈ W0 := w0_mk 316 (by decide +kernel) rfl
theorem q_135 : Cond.static yX7_isCaptain ∈ W0 := w0_mk 317 (by decide +kernel) rfl
theorem q_136 : Cond.code yX7_isCaptain cX7_isCaptain 1 (some .boolean) ∈ W0 := w0_mk 318 (by decide +kernel) rfl
theorem q_137 : Cond.methodLink RX7 59 yX7_isValueOfCaptain ∈ W0 := w0_mk 319 (by decide +kernel) rfl
theorem q_138 : Cond.static yX7_isValueOfCaptain ∈ W0 := w0_mk 320 (by decide +kernel) rfl
theorem q_139 : Cond.code yX7_isValueOfCaptain cX7_isValueOfCaptain 2 (some .boolean) ∈ W0 := w0_mk 321 (by decide +kernel) rfl
theorem q_140 : Cond.fieldLink RX7 197 "CaptainTides" "LEAST_OF_CAPTAIN" "[I" ∈ W0 := w0_mk 322 (by decide +kernel) rfl
theorem q_141 : Cond.fieldLink RX7 201 "CaptainTides" "GREATEST_OF_CAPTAIN" "[I" ∈ W0 := w0_mk 324 (by decide +kernel) rfl
theorem q_142 : Cond.methodLink RX7 204 yX7_isWithin ∈ W0 := w0_mk 326 (by decide +kernel) rfl
theorem q_143 : Cond.static yX7_isWithin ∈ W0 := w0_mk 327 (by decide +kernel) rfl
theorem q_144 : Cond.code yX7_isWithin cX7_isWithin 4 (some .boolean) ∈ W0 := w0_mk 328 (by decide +kernel) rfl
theorem q_145 : Cond.methodLink RX7 67 yX2_tell ∈ W0 := w0_mk 329 (by decide +kernel) rfl
theorem q_146 : Cond.instanceMethod yX2_tell ∈ W0 := w0_mk 330 (by decide +kernel) rfl
theorem q_147 : Cond.selects RX2 yX2_tell yX2_tell ∈ W0 := w0_mk 331 (by decide +kernel) rfl
theorem q_148 : Cond.code yX2_tell cX2_tell 2 (some .int) ∈ W0 := w0_mk 332 (by decide +kernel) rfl
theorem q_149 : Cond.methodLink RX7 73 yX7_record ∈ W0 := w0_mk 333 (by decide +kernel) rfl
theorem q_150 : Cond.instanceMethod yX7_record ∈ W0 := w0_mk 335 (by decide +kernel) rfl
theorem q_151 : Cond.selects RX7 yX7_record yX7_record ∈ W0 := w0_mk 0 (by decide +kernel) rfl
theorem q_152 : Cond.code yX7_record cX7_record 3 none ∈ W0 := w0_mk 336 (by decide +kernel) rfl
theorem q_153 : Cond.methodLink RX7 80 yX5_copyFrom ∈ W0 := w0_mk 337 (by decide +kernel) rfl
theorem q_154 : Cond.instanceMethod yX5_copyFrom ∈ W0 := w0_mk 338 (by decide +kernel) rfl
theorem q_155 : Cond.selects RX5 yX5_copyFrom yX5_copyFrom ∈ W0 := w0_mk 339 (by decide +kernel) rfl
theorem q_156 : Cond.code yX5_copyFrom cX5_copyFrom 3 none ∈ W0 := w0_mk 340 (by decide +kernel) rfl
theorem q_157 : Cond.methodLink RX5 64 yX2_copyFrom ∈ W0 := w0_mk 341 (by decide +kernel) rfl
theorem q_158 : Cond.instanceMethod yX2_copyFrom ∈ W0 := w0_mk 342 (by decide +kernel) rfl
theorem q_159 : Cond.selects RX2 yX2_copyFrom yX2_copyFrom ∈ W0 := w0_mk 343 (by decide +kernel) rfl
theorem q_160 : Cond.code yX2_copyFrom cX2_copyFrom 2 none ∈ W0 := w0_mk 344 (by decide +kernel) rfl
theorem q_161 : Cond.methodLink RX7 76 yX2_change ∈ W0 := w0_mk 345 (by decide +kernel) rfl
theorem q_162 : Cond.instanceMethod yX2_change ∈ W0 := w0_mk 346 (by decide +kernel) rfl
theorem q_163 : Cond.selects RX2 yX2_change yX2_change ∈ W0 := w0_mk 347 (by decide +kernel) rfl
theorem q_164 : Cond.code yX2_change cX2_change 3 none ∈ W0 := w0_mk 348 (by decide +kernel) rfl
theorem q_169 : Cond.methodLink RX8 119 yX8_isCaptain ∈ W0 := w0_mk 716 (by decide +kernel) rfl
theorem q_170 : Cond.static yX8_isCaptain ∈ W0 := w0_mk 717 (by decide +kernel) rfl
theorem q_171 : Cond.code yX8_isCaptain cX8_isCaptain 1 (some .boolean) ∈ W0 := w0_mk 718 (by decide +kernel) rfl
theorem q_172 : Cond.methodLink RX8 51 yX8_in ∈ W0 := w0_mk 719 (by decide +kernel) rfl
theorem q_173 : Cond.static yX8_in ∈ W0 := w0_mk 720 (by decide +kernel) rfl
theorem q_174 : Cond.code yX8_in cX8_in 3 (some .boolean) ∈ W0 := w0_mk 721 (by decide +kernel) rfl
theorem q_175 : Cond.methodLink RX8 123 yX8_least ∈ W0 := w0_mk 722 (by decide +kernel) rfl
theorem q_176 : Cond.static yX8_least ∈ W0 := w0_mk 723 (by decide +kernel) rfl
theorem q_177 : Cond.code yX8_least cX8_least 1 (some .int) ∈ W0 := w0_mk 724 (by decide +kernel) rfl
theorem q_178 : Cond.methodLink RX8 126 yX8_most ∈ W0 := w0_mk 725 (by decide +kernel) rfl
theorem q_179 : Cond.static yX8_most ∈ W0 := w0_mk 726 (by decide +kernel) rfl
theorem q_180 : Cond.code yX8_most cX8_most 1 (some .int) ∈ W0 := w0_mk 727 (by decide +kernel) rfl
theorem q_181 : Cond.methodLink RX8 55 yX8_of ∈ W0 := w0_mk 728 (by decide +kernel) rfl
theorem q_182 : Cond.instanceMethod yX8_of ∈ W0 := w0_mk 730 (by decide +kernel) rfl
theorem q_183 : Cond.selects RX8 yX8_of yX8_of ∈ W0 := w0_mk 14 (by decide +kernel) rfl
theorem q_184 : Cond.code yX8_of cX8_of 3 (some .int) ∈ W0 := w0_mk 731 (by decide +kernel) rfl
theorem q_185 : Cond.methodLink RX8 129 yX8_record ∈ W0 := w0_mk 732 (by decide +kernel) rfl
theorem q_186 : Cond.instanceMethod yX8_record ∈ W0 := w0_mk 734 (by decide +kernel) rfl
theorem q_187 : Cond.selects RX8 yX8_record yX8_record ∈ W0 := w0_mk 15 (by decide +kernel) rfl
theorem q_188 : Cond.code yX8_record cX8_record 2 none ∈ W0 := w0_mk 735 (by decide +kernel) rfl
theorem q_189 : Cond.fieldLink RX8 47 "CaptainTidesModel" "kept" "I" ∈ W0 := w0_mk 675 (by decide +kernel) rfl
theorem q_194 : Cond.fieldLink RX7 88 "CaptainTides$BeliefText" "parts" "I" ∈ W0 := w0_mk 161 (by decide +kernel) rfl
theorem q_195 : Cond.methodLink RX7 84 yX0_readInto ∈ W0 := w0_mk 353 (by decide +kernel) rfl
theorem q_196 : Cond.instanceMethod yX0_readInto ∈ W0 := w0_mk 354 (by decide +kernel) rfl
theorem q_197 : Cond.selects RX0 yX0_readInto yX0_readInto ∈ W0 := w0_mk 355 (by decide +kernel) rfl
theorem q_198 : Cond.code yX0_readInto cX0_readInto 3 (some .int) ∈ W0 := w0_mk 356 (by decide +kernel) rfl
theorem q_199 : Cond.methodLink RX0 34 yX0_takes ∈ W0 := w0_mk 357 (by decide +kernel) rfl
theorem q_200 : Cond.instanceMethod yX0_takes ∈ W0 := w0_mk 359 (by decide +kernel) rfl
theorem q_201 : Cond.selects RX0 yX0_takes yX0_takes ∈ W0 := w0_mk 1 (by decide +kernel) rfl
theorem q_202 : Cond.code yX0_takes cX0_takes 3 (some .boolean) ∈ W0 := w0_mk 360 (by decide +kernel) rfl
theorem q_203 : Cond.methodLink RX0 38 yX0_takesCaptain ∈ W0 := w0_mk 361 (by decide +kernel) rfl
theorem q_204 : Cond.instanceMethod yX0_takesCaptain ∈ W0 := w0_mk 363 (by decide +kernel) rfl
theorem q_205 : Cond.selects RX0 yX0_takesCaptain yX0_takesCaptain ∈ W0 := w0_mk 2 (by decide +kernel) rfl
theorem q_206 : Cond.code yX0_takesCaptain cX0_takesCaptain 2 (some .boolean) ∈ W0 := w0_mk 364 (by decide +kernel) rfl
theorem q_207 : Cond.methodLink RX0 51 yX0_digitOf ∈ W0 := w0_mk 365 (by decide +kernel) rfl
theorem q_208 : Cond.static yX0_digitOf ∈ W0 := w0_mk 366 (by decide +kernel) rfl
theorem q_209 : Cond.code yX0_digitOf cX0_digitOf 1 (some .int) ∈ W0 := w0_mk 367 (by decide +kernel) rfl
theorem q_210 : Cond.methodLink RX0 42 yX0_takesLetter ∈ W0 := w0_mk 369 (by decide +kernel) rfl
theorem q_211 : Cond.instanceMethod yX0_takesLetter ∈ W0 := w0_mk 371 (by decide +kernel) rfl
theorem q_212 : Cond.selects RX0 yX0_takesLetter yX0_takesLetter ∈ W0 := w0_mk 3 (by decide +kernel) rfl
theorem q_213 : Cond.code yX0_takesLetter cX0_takesLetter 2 (some .boolean) ∈ W0 := w0_mk 372 (by decide +kernel) rfl
theorem q_214 : Cond.methodLink RX0 59 yX0_whatOf ∈ W0 := w0_mk 373 (by decide +kernel) rfl
theorem q_215 : Cond.static yX0_whatOf ∈ W0 := w0_mk 374 (by decide +kernel) rfl
theorem q_216 : Cond.code yX0_whatOf cX0_whatOf 1 (some .int) ∈ W0 := w0_mk 375 (by decide +kernel) rfl
theorem q_217 : Cond.methodLink RX0 45 yX0_takesFirstDigit ∈ W0 := w0_mk 376 (by decide +kernel) rfl
theorem q_218 : Cond.instanceMethod yX0_takesFirstDigit ∈ W0 := w0_mk 378 (by decide +kernel) rfl
theorem q_219 : Cond.selects RX0 yX0_takesFirstDigit yX0_takesFirstDigit ∈ W0 := w0_mk 4 (by decide +kernel) rfl
theorem q_220 : Cond.code yX0_takesFirstDigit cX0_takesFirstDigit 3 (some .boolean) ∈ W0 := w0_mk 379 (by decide +kernel) rfl
theorem q_221 : Cond.methodLink RX0 62 yX0_tellsNumber ∈ W0 := w0_mk 380 (by decide +kernel) rfl
theorem q_222 : Cond.instanceMethod yX0_tellsNumber ∈ W0 := w0_mk 382 (by decide +kernel) rfl
theorem q_223 : Cond.selects RX0 yX0_tellsNumber yX0_tellsNumber ∈ W0 := w0_mk 5 (by decide +kernel) rfl
theorem q_224 : Cond.code yX0_tellsNumber cX0_tellsNumber 2 (some .boolean) ∈ W0 := w0_mk 383 (by decide +kernel) rfl
theorem q_225 : Cond.fieldLink RX0 70 "CaptainTides$State" "captains" "[LCaptainTides$Captain;" ∈ W0 := w0_mk 121 (by decide +kernel) rfl
theorem q_226 : Cond.methodLink RX0 76 yX2_change ∈ W0 := w0_mk 385 (by decide +kernel) rfl
theorem q_227 : Cond.methodLink RX0 48 yX0_takesBehindDigit ∈ W0 := w0_mk 386 (by decide +kernel) rfl
theorem q_228 : Cond.instanceMethod yX0_takesBehindDigit ∈ W0 := w0_mk 388 (by decide +kernel) rfl
theorem q_229 : Cond.selects RX0 yX0_takesBehindDigit yX0_takesBehindDigit ∈ W0 := w0_mk 6 (by decide +kernel) rfl
theorem q_230 : Cond.code yX0_takesBehindDigit cX0_takesBehindDigit 4 (some .boolean) ∈ W0 := w0_mk 389 (by decide +kernel) rfl
theorem q_235 : Cond.fieldLink RX8 145 "CaptainTidesModel" "at" "I" ∈ W0 := w0_mk 674 (by decide +kernel) rfl
theorem q_236 : Cond.methodLink RX8 165 yX8_readAll ∈ W0 := w0_mk 832 (by decide +kernel) rfl
theorem q_237 : Cond.instanceMethod yX8_readAll ∈ W0 := w0_mk 834 (by decide +kernel) rfl
theorem q_238 : Cond.selects RX8 yX8_readAll yX8_readAll ∈ W0 := w0_mk 31 (by decide +kernel) rfl
theorem q_239 : Cond.code yX8_readAll cX8_readAll 3 (some .int) ∈ W0 := w0_mk 835 (by decide +kernel) rfl
theorem q_240 : Cond.fieldLink RX8 142 "CaptainTidesModel" "length" "I" ∈ W0 := w0_mk 676 (by decide +kernel) rfl
theorem q_241 : Cond.methodLink RX8 161 yX8_readPart ∈ W0 := w0_mk 836 (by decide +kernel) rfl
theorem q_242 : Cond.instanceMethod yX8_readPart ∈ W0 := w0_mk 838 (by decide +kernel) rfl
theorem q_243 : Cond.selects RX8 yX8_readPart yX8_readPart ∈ W0 := w0_mk 32 (by decide +kernel) rfl
theorem q_244 : Cond.code yX8_readPart cX8_readPart 5 (some .boolean) ∈ W0 := w0_mk 839 (by decide +kernel) rfl
theorem q_245 : Cond.methodLink RX8 154 yX8_number ∈ W0 := w0_mk 840 (by decide +kernel) rfl
theorem q_246 : Cond.instanceMethod yX8_number ∈ W0 := w0_mk 842 (by decide +kernel) rfl
theorem q_247 : Cond.selects RX8 yX8_number yX8_number ∈ W0 := w0_mk 33 (by decide +kernel) rfl
theorem q_248 : Cond.code yX8_number cX8_number 4 (some .int) ∈ W0 := w0_mk 843 (by decide +kernel) rfl
theorem q_249 : Cond.methodLink RX8 148 yX8_isNext ∈ W0 := w0_mk 844 (by decide +kernel) rfl
theorem q_250 : Cond.instanceMethod yX8_isNext ∈ W0 := w0_mk 846 (by decide +kernel) rfl
theorem q_251 : Cond.selects RX8 yX8_isNext yX8_isNext ∈ W0 := w0_mk 34 (by decide +kernel) rfl
theorem q_252 : Cond.code yX8_isNext cX8_isNext 3 (some .boolean) ∈ W0 := w0_mk 847 (by decide +kernel) rfl
theorem q_253 : Cond.methodLink RX8 151 yX8_sign ∈ W0 := w0_mk 848 (by decide +kernel) rfl
theorem q_254 : Cond.instanceMethod yX8_sign ∈ W0 := w0_mk 850 (by decide +kernel) rfl
theorem q_255 : Cond.selects RX8 yX8_sign yX8_sign ∈ W0 := w0_mk 35 (by decide +kernel) rfl
theorem q_256 : Cond.code yX8_sign cX8_sign 3 (some .boolean) ∈ W0 := w0_mk 851 (by decide +kernel) rfl
theorem q_257 : Cond.methodLink RX8 157 yX8_aboutOf ∈ W0 := w0_mk 852 (by decide +kernel) rfl
theorem q_258 : Cond.instanceMethod yX8_aboutOf ∈ W0 := w0_mk 854 (by decide +kernel) rfl
theorem q_259 : Cond.selects RX8 yX8_aboutOf yX8_aboutOf ∈ W0 := w0_mk 36 (by decide +kernel) rfl
theorem q_260 : Cond.code yX8_aboutOf cX8_aboutOf 1 (some .int) ∈ W0 := w0_mk 855 (by decide +kernel) rfl
theorem q_265 : Cond.fieldLink RX7 91 "CaptainTides$State" "phase" "I" ∈ W0 := w0_mk 127 (by decide +kernel) rfl
theorem q_270 : Cond.methodLink RX8 132 yX8_change ∈ W0 := w0_mk 740 (by decide +kernel) rfl
theorem q_271 : Cond.instanceMethod yX8_change ∈ W0 := w0_mk 742 (by decide +kernel) rfl
theorem q_272 : Cond.selects RX8 yX8_change yX8_change ∈ W0 := w0_mk 16 (by decide +kernel) rfl
theorem q_273 : Cond.code yX8_change cX8_change 4 (some .int) ∈ W0 := w0_mk 743 (by decide +kernel) rfl
theorem q_278 : Cond.methodLink RX7 94 yX7_isValueOfSetting ∈ W0 := w0_mk 398 (by decide +kernel) rfl
theorem q_279 : Cond.static yX7_isValueOfSetting ∈ W0 := w0_mk 399 (by decide +kernel) rfl
theorem q_280 : Cond.code yX7_isValueOfSetting cX7_isValueOfSetting 2 (some .boolean) ∈ W0 := w0_mk 400 (by decide +kernel) rfl
theorem q_281 : Cond.fieldLink RX7 208 "CaptainTides" "LEAST_OF_SETTING" "[I" ∈ W0 := w0_mk 401 (by decide +kernel) rfl
theorem q_282 : Cond.fieldLink RX7 211 "CaptainTides" "GREATEST_OF_SETTING" "[I" ∈ W0 := w0_mk 403 (by decide +kernel) rfl
theorem q_283 : Cond.methodLink RX7 97 yX5_tellSetting ∈ W0 := w0_mk 405 (by decide +kernel) rfl
theorem q_284 : Cond.instanceMethod yX5_tellSetting ∈ W0 := w0_mk 406 (by decide +kernel) rfl
theorem q_285 : Cond.selects RX5 yX5_tellSetting yX5_tellSetting ∈ W0 := w0_mk 407 (by decide +kernel) rfl
theorem q_286 : Cond.code yX5_tellSetting cX5_tellSetting 2 (some .int) ∈ W0 := w0_mk 408 (by decide +kernel) rfl
theorem q_287 : Cond.methodLink RX7 100 yX5_changeSetting ∈ W0 := w0_mk 409 (by decide +kernel) rfl
theorem q_288 : Cond.instanceMethod yX5_changeSetting ∈ W0 := w0_mk 410 (by decide +kernel) rfl
theorem q_289 : Cond.selects RX5 yX5_changeSetting yX5_changeSetting ∈ W0 := w0_mk 411 (by decide +kernel) rfl
theorem q_290 : Cond.code yX5_changeSetting cX5_changeSetting 3 none ∈ W0 := w0_mk 412 (by decide +kernel) rfl
theorem q_299 : Cond.constant RX7 103 (65537) ∈ W0 := w0_mk 417 (by decide +kernel) rfl
theorem q_300 : Cond.fieldLink RX7 104 "CaptainTides$State" "lot" "I" ∈ W0 := w0_mk 130 (by decide +kernel) rfl
theorem q_305 : Cond.constant RX8 135 (65536) ∈ W0 := w0_mk 752 (by decide +kernel) rfl
theorem q_310 : Cond.fieldLink RX7 107 "CaptainTides$State" "day" "I" ∈ W0 := w0_mk 134 (by decide +kernel) rfl
theorem q_311 : Cond.methodLink RX7 110 yX4_run ∈ W0 := w0_mk 422 (by decide +kernel) rfl
theorem q_312 : Cond.instanceMethod yX4_run ∈ W0 := w0_mk 423 (by decide +kernel) rfl
theorem q_313 : Cond.selects RX4 yX4_run yX4_run ∈ W0 := w0_mk 424 (by decide +kernel) rfl
theorem q_314 : Cond.code yX4_run cX4_run 8 none ∈ W0 := w0_mk 425 (by decide +kernel) rfl
theorem q_315 : Cond.fieldLink RX4 25 "CaptainTides$State" "lot" "I" ∈ W0 := w0_mk 129 (by decide +kernel) rfl
theorem q_316 : Cond.fieldLink RX4 28 "CaptainTides$State" "captains" "[LCaptainTides$Captain;" ∈ W0 := w0_mk 119 (by decide +kernel) rfl
theorem q_317 : Cond.fieldLink RX4 36 "CaptainTides$State" "phase" "I" ∈ W0 := w0_mk 126 (by decide +kernel) rfl
theorem q_318 : Cond.methodLink RX4 32 yX3_beginDay ∈ W0 := w0_mk 426 (by decide +kernel) rfl
theorem q_319 : Cond.instanceMethod yX3_beginDay ∈ W0 := w0_mk 427 (by decide +kernel) rfl
theorem q_320 : Cond.selects RX3 yX3_beginDay yX3_beginDay ∈ W0 := w0_mk 428 (by decide +kernel) rfl
theorem q_321 : Cond.code yX3_beginDay cX3_beginDay 2 none ∈ W0 := w0_mk 429 (by decide +kernel) rfl
theorem q_322 : Cond.fieldLink RX3 54 "CaptainTides$Captain" "draft" "I" ∈ W0 := w0_mk 81 (by decide +kernel) rfl
theorem q_323 : Cond.fieldLink RX3 57 "CaptainTides$Captain" "home" "I" ∈ W0 := w0_mk 89 (by decide +kernel) rfl
theorem q_324 : Cond.methodLink RX3 50 yX6_print ∈ W0 := w0_mk 430 (by decide +kernel) rfl
theorem q_325 : Cond.instanceMethod yX6_print ∈ W0 := w0_mk 431 (by decide +kernel) rfl
theorem q_326 : Cond.selects RX6 yX6_print yX6_print ∈ W0 := w0_mk 432 (by decide +kernel) rfl
theorem q_327 : Cond.code yX6_print cX6_print 5 none ∈ W0 := w0_mk 433 (by decide +kernel) rfl
theorem q_328 : Cond.fieldLink RX6 22 "CaptainTides$Captain" "home" "I" ∈ W0 := w0_mk 88 (by decide +kernel) rfl
theorem q_329 : Cond.fieldLink RX6 25 "CaptainTides$Captain" "firstHour" "I" ∈ W0 := w0_mk 85 (by decide +kernel) rfl
theorem q_330 : Cond.fieldLink RX6 28 "CaptainTides$Captain" "belief" "I" ∈ W0 := w0_mk 78 (by decide +kernel) rfl
theorem q_331 : Cond.fieldLink RX6 35 "CaptainTides$Captain" "draft" "I" ∈ W0 := w0_mk 82 (by decide +kernel) rfl
theorem q_332 : Cond.static yX7_levelAt ∈ W0 := w0_mk 435 (by decide +kernel) rfl
theorem q_333 : Cond.code yX7_levelAt cX7_levelAt 2 (some .int) ∈ W0 := w0_mk 436 (by decide +kernel) rfl
theorem q_334 : Cond.methodLink RX7 214 Lib.Math.abs.name ∈ W0 := w0_mk 437 (by decide +kernel) rfl
theorem q_335 : Cond.static Lib.Math.abs.name ∈ W0 := w0_mk 438 (by decide +kernel) rfl
theorem q_336 : Cond.initialized "java/lang/Math" ∈ W0 := w0_mk 54 (by decide +kernel) rfl
theorem q_337 : Cond.code Lib.Math.abs.name Lib.Math.abs.code 1 (some .int) ∈ W0 := w0_mk 439 (by decide +kernel) rfl
theorem q_338 : Cond.methodLink RX4 43 yX3_beginHour ∈ W0 := w0_mk 441 (by decide +kernel) rfl
theorem q_339 : Cond.instanceMethod yX3_beginHour ∈ W0 := w0_mk 442 (by decide +kernel) rfl
theorem q_340 : Cond.selects RX3 yX3_beginHour yX3_beginHour ∈ W0 := w0_mk 443 (by decide +kernel) rfl
theorem q_341 : Cond.code yX3_beginHour cX3_beginHour 3 none ∈ W0 := w0_mk 444 (by decide +kernel) rfl
theorem q_342 : Cond.methodLink RX3 60 yX6_has ∈ W0 := w0_mk 445 (by decide +kernel) rfl
theorem q_343 : Cond.instanceMethod yX6_has ∈ W0 := w0_mk 446 (by decide +kernel) rfl
theorem q_344 : Cond.selects RX6 yX6_has yX6_has ∈ W0 := w0_mk 447 (by decide +kernel) rfl
theorem q_345 : Cond.code yX6_has cX6_has 2 (some .boolean) ∈ W0 := w0_mk 448 (by decide +kernel) rfl
theorem q_346 : Cond.methodLink RX3 64 yX6_hourOf ∈ W0 := w0_mk 449 (by decide +kernel) rfl
theorem q_347 : Cond.instanceMethod yX6_hourOf ∈ W0 := w0_mk 450 (by decide +kernel) rfl
theorem q_348 : Cond.selects RX6 yX6_hourOf yX6_hourOf ∈ W0 := w0_mk 451 (by decide +kernel) rfl
theorem q_349 : Cond.code yX6_hourOf cX6_hourOf 2 (some .int) ∈ W0 := w0_mk 452 (by decide +kernel) rfl
theorem q_350 : Cond.methodLink RX6 38 yX6_has ∈ W0 := w0_mk 453 (by decide +kernel) rfl
theorem q_351 : Cond.methodLink RX4 47 yX4_givePier ∈ W0 := w0_mk 454 (by decide +kernel) rfl
theorem q_352 : Cond.instanceMethod yX4_givePier ∈ W0 := w0_mk 456 (by decide +kernel) rfl
theorem q_353 : Cond.selects RX4 yX4_givePier yX4_givePier ∈ W0 := w0_mk 7 (by decide +kernel) rfl
theorem q_354 : Cond.code yX4_givePier cX4_givePier 12 none ∈ W0 := w0_mk 457 (by decide +kernel) rfl
theorem q_355 : Cond.methodLink RX4 50 yX3_wantsFrom ∈ W0 := w0_mk 458 (by decide +kernel) rfl
theorem q_356 : Cond.instanceMethod yX3_wantsFrom ∈ W0 := w0_mk 459 (by decide +kernel) rfl
theorem q_357 : Cond.selects RX3 yX3_wantsFrom yX3_wantsFrom ∈ W0 := w0_mk 460 (by decide +kernel) rfl
theorem q_358 : Cond.code yX3_wantsFrom cX3_wantsFrom 2 (some .boolean) ∈ W0 := w0_mk 461 (by decide +kernel) rfl
theorem q_359 : Cond.methodLink RX4 54 yX3_arrivedAt ∈ W0 := w0_mk 462 (by decide +kernel) rfl
theorem q_360 : Cond.instanceMethod yX3_arrivedAt ∈ W0 := w0_mk 463 (by decide +kernel) rfl
theorem q_361 : Cond.selects RX3 yX3_arrivedAt yX3_arrivedAt ∈ W0 := w0_mk 464 (by decide +kernel) rfl
theorem q_362 : Cond.code yX3_arrivedAt cX3_arrivedAt 2 (some .boolean) ∈ W0 := w0_mk 465 (by decide +kernel) rfl
theorem q_363 : Cond.methodLink RX4 57 yX4_drawLot ∈ W0 := w0_mk 466 (by decide +kernel) rfl
theorem q_364 : Cond.instanceMethod yX4_drawLot ∈ W0 := w0_mk 468 (by decide +kernel) rfl
theorem q_365 : Cond.selects RX4 yX4_drawLot yX4_drawLot ∈ W0 := w0_mk 8 (by decide +kernel) rfl
theorem q_366 : Cond.code yX4_drawLot cX4_drawLot 2 (some .int) ∈ W0 := w0_mk 469 (by decide +kernel) rfl
theorem q_367 : Cond.constant RX4 69 (65537) ∈ W0 := w0_mk 470 (by decide +kernel) rfl
theorem q_368 : Cond.methodLink RX4 61 yX3_depart ∈ W0 := w0_mk 471 (by decide +kernel) rfl
theorem q_369 : Cond.instanceMethod yX3_depart ∈ W0 := w0_mk 472 (by decide +kernel) rfl
theorem q_370 : Cond.selects RX3 yX3_depart yX3_depart ∈ W0 := w0_mk 473 (by decide +kernel) rfl
theorem q_371 : Cond.code yX3_depart cX3_depart 2 none ∈ W0 := w0_mk 474 (by decide +kernel) rfl
theorem q_372 : Cond.methodLink RX4 65 yX3_stay ∈ W0 := w0_mk 475 (by decide +kernel) rfl
theorem q_373 : Cond.instanceMethod yX3_stay ∈ W0 := w0_mk 476 (by decide +kernel) rfl
theorem q_374 : Cond.selects RX3 yX3_stay yX3_stay ∈ W0 := w0_mk 477 (by decide +kernel) rfl
theorem q_375 : Cond.code yX3_stay cX3_stay 2 none ∈ W0 := w0_mk 478 (by decide +kernel) rfl
theorem q_376 : Cond.methodLink RX7 113 yX5_endDay ∈ W0 := w0_mk 479 (by decide +kernel) rfl
theorem q_377 : Cond.instanceMethod yX5_endDay ∈ W0 := w0_mk 480 (by decide +kernel) rfl
theorem q_378 : Cond.selects RX5 yX5_endDay yX5_endDay ∈ W0 := w0_mk 481 (by decide +kernel) rfl
theorem q_379 : Cond.code yX5_endDay cX5_endDay 4 none ∈ W0 := w0_mk 482 (by decide +kernel) rfl
theorem q_380 : Cond.fieldLink RX5 43 "CaptainTides$SailedDay" "lot" "I" ∈ W0 := w0_mk 273 (by decide +kernel) rfl
theorem q_381 : Cond.fieldLink RX5 46 "CaptainTides$SailedDay" "lotsDrawn" "I" ∈ W0 := w0_mk 275 (by decide +kernel) rfl
theorem q_382 : Cond.fieldLink RX5 47 "CaptainTides$SailedDay" "ferries" "[LCaptainTides$Ferry;" ∈ W0 := w0_mk 271 (by decide +kernel) rfl
theorem q_383 : Cond.methodLink RX5 51 yX2_endDay ∈ W0 := w0_mk 483 (by decide +kernel) rfl
theorem q_384 : Cond.instanceMethod yX2_endDay ∈ W0 := w0_mk 484 (by decide +kernel) rfl
theorem q_385 : Cond.selects RX2 yX2_endDay yX2_endDay ∈ W0 := w0_mk 485 (by decide +kernel) rfl
theorem q_386 : Cond.code yX2_endDay cX2_endDay 2 none ∈ W0 := w0_mk 486 (by decide +kernel) rfl
theorem q_387 : Cond.fieldLink RX2 42 "CaptainTides$Ferry" "crossingsMade" "I" ∈ W0 := w0_mk 240 (by decide +kernel) rfl
theorem q_388 : Cond.fieldLink RX2 45 "CaptainTides$Ferry" "hoursAground" "I" ∈ W0 := w0_mk 242 (by decide +kernel) rfl
theorem q_389 : Cond.fieldLink RX2 46 "CaptainTides$Ferry" "hoursLate" "I" ∈ W0 := w0_mk 244 (by decide +kernel) rfl
theorem q_390 : Cond.fieldLink RX2 47 "CaptainTides$Ferry" "pardons" "I" ∈ W0 := w0_mk 246 (by decide +kernel) rfl
theorem q_391 : Cond.methodLink RX2 48 yX3_crossingsLeft ∈ W0 := w0_mk 487 (by decide +kernel) rfl
theorem q_392 : Cond.instanceMethod yX3_crossingsLeft ∈ W0 := w0_mk 488 (by decide +kernel) rfl
theorem q_393 : Cond.selects RX3 yX3_crossingsLeft yX3_crossingsLeft ∈ W0 := w0_mk 489 (by decide +kernel) rfl
theorem q_394 : Cond.code yX3_crossingsLeft cX3_crossingsLeft 1 (some .int) ∈ W0 := w0_mk 490 (by decide +kernel) rfl
theorem q_395 : Cond.fieldLink RX3 68 "CaptainTides$Timetable" "crossings" "I" ∈ W0 := w0_mk 198 (by decide +kernel) rfl
theorem q_396 : Cond.methodLink RX5 55 yX3_isLesson ∈ W0 := w0_mk 491 (by decide +kernel) rfl
theorem q_397 : Cond.instanceMethod yX3_isLesson ∈ W0 := w0_mk 492 (by decide +kernel) rfl
theorem q_398 : Cond.selects RX3 yX3_isLesson yX3_isLesson ∈ W0 := w0_mk 493 (by decide +kernel) rfl
theorem q_399 : Cond.code yX3_isLesson cX3_isLesson 2 (some .boolean) ∈ W0 := w0_mk 494 (by decide +kernel) rfl
theorem q_400 : Cond.methodLink RX5 61 yX2_learn ∈ W0 := w0_mk 495 (by decide +kernel) rfl
theorem q_401 : Cond.instanceMethod yX2_learn ∈ W0 := w0_mk 496 (by decide +kernel) rfl
theorem q_402 : Cond.selects RX2 yX2_learn yX2_learn ∈ W0 := w0_mk 497 (by decide +kernel) rfl
theorem q_403 : Cond.code yX2_learn cX2_learn 2 none ∈ W0 := w0_mk 498 (by decide +kernel) rfl
theorem q_404 : Cond.methodLink RX7 117 yX4_sumOf ∈ W0 := w0_mk 499 (by decide +kernel) rfl
theorem q_405 : Cond.instanceMethod yX4_sumOf ∈ W0 := w0_mk 500 (by decide +kernel) rfl
theorem q_406 : Cond.selects RX4 yX4_sumOf yX4_sumOf ∈ W0 := w0_mk 501 (by decide +kernel) rfl
theorem q_407 : Cond.code yX4_sumOf cX4_sumOf 7 (some .int) ∈ W0 := w0_mk 502 (by decide +kernel) rfl
theorem q_408 : Cond.methodLink RX4 70 yX3_tell ∈ W0 := w0_mk 503 (by decide +kernel) rfl
theorem q_409 : Cond.instanceMethod yX3_tell ∈ W0 := w0_mk 504 (by decide +kernel) rfl
theorem q_410 : Cond.selects RX3 yX3_tell yX3_tell ∈ W0 := w0_mk 505 (by decide +kernel) rfl
theorem q_411 : Cond.code yX3_tell cX3_tell 2 (some .int) ∈ W0 := w0_mk 506 (by decide +kernel) rfl
theorem q_412 : Cond.methodLink RX3 71 yX3_crossingsLeft ∈ W0 := w0_mk 507 (by decide +kernel) rfl
theorem q_417 : Cond.methodLink RX8 136 yX8_sumOf ∈ W0 := w0_mk 757 (by decide +kernel) rfl
theorem q_418 : Cond.instanceMethod yX8_sumOf ∈ W0 := w0_mk 759 (by decide +kernel) rfl
theorem q_419 : Cond.selects RX8 yX8_sumOf yX8_sumOf ∈ W0 := w0_mk 17 (by decide +kernel) rfl
theorem q_420 : Cond.code yX8_sumOf cX8_sumOf 2 (some .int) ∈ W0 := w0_mk 760 (by decide +kernel) rfl
theorem q_421 : Cond.methodLink RX8 139 yX8_sailDay ∈ W0 := w0_mk 761 (by decide +kernel) rfl
theorem q_422 : Cond.instanceMethod yX8_sailDay ∈ W0 := w0_mk 763 (by decide +kernel) rfl
theorem q_423 : Cond.selects RX8 yX8_sailDay yX8_sailDay ∈ W0 := w0_mk 18 (by decide +kernel) rfl
theorem q_424 : Cond.code yX8_sailDay cX8_sailDay 2 none ∈ W0 := w0_mk 764 (by decide +kernel) rfl
theorem q_425 : Cond.methodLink RX8 110 yX8_printAll ∈ W0 := w0_mk 765 (by decide +kernel) rfl
theorem q_426 : Cond.instanceMethod yX8_printAll ∈ W0 := w0_mk 767 (by decide +kernel) rfl
theorem q_427 : Cond.selects RX8 yX8_printAll yX8_printAll ∈ W0 := w0_mk 19 (by decide +kernel) rfl
theorem q_428 : Cond.code yX8_printAll cX8_printAll 2 none ∈ W0 := w0_mk 768 (by decide +kernel) rfl
theorem q_429 : Cond.methodLink RX8 65 yX8_print ∈ W0 := w0_mk 769 (by decide +kernel) rfl
theorem q_430 : Cond.instanceMethod yX8_print ∈ W0 := w0_mk 771 (by decide +kernel) rfl
theorem q_431 : Cond.selects RX8 yX8_print yX8_print ∈ W0 := w0_mk 20 (by decide +kernel) rfl
theorem q_432 : Cond.code yX8_print cX8_print 3 none ∈ W0 := w0_mk 772 (by decide +kernel) rfl
theorem q_433 : Cond.methodLink RX8 62 yX8_isEnough ∈ W0 := w0_mk 773 (by decide +kernel) rfl
theorem q_434 : Cond.instanceMethod yX8_isEnough ∈ W0 := w0_mk 775 (by decide +kernel) rfl
theorem q_435 : Cond.selects RX8 yX8_isEnough yX8_isEnough ∈ W0 := w0_mk 21 (by decide +kernel) rfl
theorem q_436 : Cond.code yX8_isEnough cX8_isEnough 4 (some .boolean) ∈ W0 := w0_mk 776 (by decide +kernel) rfl
theorem q_437 : Cond.methodLink RX8 59 yX8_levelOf ∈ W0 := w0_mk 777 (by decide +kernel) rfl
theorem q_438 : Cond.static yX8_levelOf ∈ W0 := w0_mk 778 (by decide +kernel) rfl
theorem q_439 : Cond.code yX8_levelOf cX8_levelOf 3 (some .int) ∈ W0 := w0_mk 779 (by decide +kernel) rfl
theorem q_440 : Cond.methodLink RX8 113 yX8_goOn ∈ W0 := w0_mk 780 (by decide +kernel) rfl
theorem q_441 : Cond.instanceMethod yX8_goOn ∈ W0 := w0_mk 782 (by decide +kernel) rfl
theorem q_442 : Cond.selects RX8 yX8_goOn yX8_goOn ∈ W0 := w0_mk 22 (by decide +kernel) rfl
theorem q_443 : Cond.code yX8_goOn cX8_goOn 6 none ∈ W0 := w0_mk 783 (by decide +kernel) rfl
theorem q_444 : Cond.methodLink RX8 96 yX8_wants ∈ W0 := w0_mk 784 (by decide +kernel) rfl
theorem q_445 : Cond.instanceMethod yX8_wants ∈ W0 := w0_mk 786 (by decide +kernel) rfl
theorem q_446 : Cond.selects RX8 yX8_wants yX8_wants ∈ W0 := w0_mk 23 (by decide +kernel) rfl
theorem q_447 : Cond.code yX8_wants cX8_wants 3 (some .boolean) ∈ W0 := w0_mk 787 (by decide +kernel) rfl
theorem q_448 : Cond.methodLink RX8 69 yX8_hourOf ∈ W0 := w0_mk 788 (by decide +kernel) rfl
theorem q_449 : Cond.instanceMethod yX8_hourOf ∈ W0 := w0_mk 790 (by decide +kernel) rfl
theorem q_450 : Cond.selects RX8 yX8_hourOf yX8_hourOf ∈ W0 := w0_mk 24 (by decide +kernel) rfl
theorem q_451 : Cond.code yX8_hourOf cX8_hourOf 3 (some .int) ∈ W0 := w0_mk 791 (by decide +kernel) rfl
theorem q_452 : Cond.methodLink RX8 85 yX8_more ∈ W0 := w0_mk 792 (by decide +kernel) rfl
theorem q_453 : Cond.instanceMethod yX8_more ∈ W0 := w0_mk 794 (by decide +kernel) rfl
theorem q_454 : Cond.selects RX8 yX8_more yX8_more ∈ W0 := w0_mk 25 (by decide +kernel) rfl
theorem q_455 : Cond.code yX8_more cX8_more 4 none ∈ W0 := w0_mk 795 (by decide +kernel) rfl
theorem q_456 : Cond.methodLink RX8 100 yX8_isThere ∈ W0 := w0_mk 796 (by decide +kernel) rfl
theorem q_457 : Cond.instanceMethod yX8_isThere ∈ W0 := w0_mk 798 (by decide +kernel) rfl
theorem q_458 : Cond.selects RX8 yX8_isThere yX8_isThere ∈ W0 := w0_mk 26 (by decide +kernel) rfl
theorem q_459 : Cond.code yX8_isThere cX8_isThere 4 (some .boolean) ∈ W0 := w0_mk 799 (by decide +kernel) rfl
theorem q_460 : Cond.methodLink RX8 103 yX8_givePier ∈ W0 := w0_mk 800 (by decide +kernel) rfl
theorem q_461 : Cond.instanceMethod yX8_givePier ∈ W0 := w0_mk 802 (by decide +kernel) rfl
theorem q_462 : Cond.selects RX8 yX8_givePier yX8_givePier ∈ W0 := w0_mk 27 (by decide +kernel) rfl
theorem q_463 : Cond.code yX8_givePier cX8_givePier 7 none ∈ W0 := w0_mk 803 (by decide +kernel) rfl
theorem q_464 : Cond.methodLink RX8 81 yX8_bits ∈ W0 := w0_mk 804 (by decide +kernel) rfl
theorem q_465 : Cond.static yX8_bits ∈ W0 := w0_mk 805 (by decide +kernel) rfl
theorem q_466 : Cond.code yX8_bits cX8_bits 1 (some .int) ∈ W0 := w0_mk 806 (by decide +kernel) rfl
theorem q_467 : Cond.methodLink RX8 89 yX8_draw ∈ W0 := w0_mk 807 (by decide +kernel) rfl
theorem q_468 : Cond.instanceMethod yX8_draw ∈ W0 := w0_mk 809 (by decide +kernel) rfl
theorem q_469 : Cond.selects RX8 yX8_draw yX8_draw ∈ W0 := w0_mk 28 (by decide +kernel) rfl
theorem q_470 : Cond.code yX8_draw cX8_draw 4 (some .int) ∈ W0 := w0_mk 810 (by decide +kernel) rfl
theorem q_471 : Cond.constant RX8 88 (65537) ∈ W0 := w0_mk 811 (by decide +kernel) rfl
theorem q_472 : Cond.methodLink RX8 92 yX8_depart ∈ W0 := w0_mk 812 (by decide +kernel) rfl
theorem q_473 : Cond.instanceMethod yX8_depart ∈ W0 := w0_mk 814 (by decide +kernel) rfl
theorem q_474 : Cond.selects RX8 yX8_depart yX8_depart ∈ W0 := w0_mk 29 (by decide +kernel) rfl
theorem q_475 : Cond.code yX8_depart cX8_depart 3 none ∈ W0 := w0_mk 815 (by decide +kernel) rfl
theorem q_476 : Cond.methodLink RX8 116 yX8_learn ∈ W0 := w0_mk 816 (by decide +kernel) rfl
theorem q_477 : Cond.instanceMethod yX8_learn ∈ W0 := w0_mk 818 (by decide +kernel) rfl
theorem q_478 : Cond.selects RX8 yX8_learn yX8_learn ∈ W0 := w0_mk 30 (by decide +kernel) rfl
theorem q_479 : Cond.code yX8_learn cX8_learn 3 none ∈ W0 := w0_mk 819 (by decide +kernel) rfl
theorem q_480 : Cond.fieldLink RX8 107 "CaptainTidesModel" "learners" "I" ∈ W0 := w0_mk 678 (by decide +kernel) rfl
theorem q_485 : Cond.fieldLink RX7 124 "CaptainTides$BeliefText" "length" "I" ∈ W0 := w0_mk 159 (by decide +kernel) rfl
theorem q_486 : Cond.methodLink RX7 120 yX0_append ∈ W0 := w0_mk 512 (by decide +kernel) rfl
theorem q_487 : Cond.instanceMethod yX0_append ∈ W0 := w0_mk 513 (by decide +kernel) rfl
theorem q_488 : Cond.selects RX0 yX0_append yX0_append ∈ W0 := w0_mk 514 (by decide +kernel) rfl
theorem q_489 : Cond.code yX0_append cX0_append 2 (some .boolean) ∈ W0 := w0_mk 515 (by decide +kernel) rfl
theorem q_526 : Cond.fieldLink RX8 168 "CaptainTidesModel" "isFilled" "Z" ∈ W0 := w0_mk 677 (by decide +kernel) rfl
theorem q_539 : Cond.fieldLink RX7 131 "CaptainTides$Timetable" "crossings" "I" ∈ W0 := w0_mk 199 (by decide +kernel) rfl
theorem q_540 : Cond.methodLink RX7 127 yX7_timetableOf ∈ W0 := w0_mk 540 (by decide +kernel) rfl
theorem q_541 : Cond.instanceMethod yX7_timetableOf ∈ W0 := w0_mk 542 (by decide +kernel) rfl
theorem q_542 : Cond.selects RX7 yX7_timetableOf yX7_timetableOf ∈ W0 := w0_mk 9 (by decide +kernel) rfl
theorem q_543 : Cond.code yX7_timetableOf cX7_timetableOf 2 (some (.object "CaptainTides$Timetable")) ∈ W0 := w0_mk 543 (by decide +kernel) rfl
theorem q_544 : Cond.fieldLink RX7 193 "CaptainTides$Board" "timetables" "[LCaptainTides$Timetable;" ∈ W0 := w0_mk 210 (by decide +kernel) rfl
theorem q_545 : Cond.methodLink RX7 155 yX1_print ∈ W0 := w0_mk 544 (by decide +kernel) rfl
theorem q_546 : Cond.instanceMethod yX1_print ∈ W0 := w0_mk 545 (by decide +kernel) rfl
theorem q_547 : Cond.selects RX1 yX1_print yX1_print ∈ W0 := w0_mk 546 (by decide +kernel) rfl
theorem q_548 : Cond.code yX1_print cX1_print 3 none ∈ W0 := w0_mk 547 (by decide +kernel) rfl
theorem q_549 : Cond.fieldLink RX1 22 "CaptainTides$State" "captains" "[LCaptainTides$Captain;" ∈ W0 := w0_mk 120 (by decide +kernel) rfl
theorem q_550 : Cond.methodLink RX1 28 yX6_print ∈ W0 := w0_mk 548 (by decide +kernel) rfl
theorem q_551 : Cond.methodLink RX1 32 yX1_noteUses ∈ W0 := w0_mk 549 (by decide +kernel) rfl
theorem q_552 : Cond.instanceMethod yX1_noteUses ∈ W0 := w0_mk 551 (by decide +kernel) rfl
theorem q_553 : Cond.selects RX1 yX1_noteUses yX1_noteUses ∈ W0 := w0_mk 10 (by decide +kernel) rfl
theorem q_554 : Cond.code yX1_noteUses cX1_noteUses 5 none ∈ W0 := w0_mk 552 (by decide +kernel) rfl
theorem q_555 : Cond.fieldLink RX1 36 "CaptainTides$Timetable" "crossings" "I" ∈ W0 := w0_mk 197 (by decide +kernel) rfl
theorem q_556 : Cond.methodLink RX1 40 yX6_hourOf ∈ W0 := w0_mk 553 (by decide +kernel) rfl
theorem q_557 : Cond.methodLink RX1 44 yX6_pierOf ∈ W0 := w0_mk 554 (by decide +kernel) rfl
theorem q_558 : Cond.instanceMethod yX6_pierOf ∈ W0 := w0_mk 555 (by decide +kernel) rfl
theorem q_559 : Cond.selects RX6 yX6_pierOf yX6_pierOf ∈ W0 := w0_mk 556 (by decide +kernel) rfl
theorem q_560 : Cond.code yX6_pierOf cX6_pierOf 2 (some .int) ∈ W0 := w0_mk 557 (by decide +kernel) rfl
theorem q_561 : Cond.methodLink RX1 47 yX1_placeOf ∈ W0 := w0_mk 558 (by decide +kernel) rfl
theorem q_562 : Cond.static yX1_placeOf ∈ W0 := w0_mk 559 (by decide +kernel) rfl
theorem q_563 : Cond.code yX1_placeOf cX1_placeOf 2 (some .int) ∈ W0 := w0_mk 560 (by decide +kernel) rfl
theorem q_564 : Cond.methodLink RX1 51 yX1_noteUse ∈ W0 := w0_mk 561 (by decide +kernel) rfl
theorem q_565 : Cond.instanceMethod yX1_noteUse ∈ W0 := w0_mk 563 (by decide +kernel) rfl
theorem q_566 : Cond.selects RX1 yX1_noteUse yX1_noteUse ∈ W0 := w0_mk 11 (by decide +kernel) rfl
theorem q_567 : Cond.code yX1_noteUse cX1_noteUse 3 none ∈ W0 := w0_mk 564 (by decide +kernel) rfl
theorem q_576 : Cond.methodLink RX7 136 yX6_has ∈ W0 := w0_mk 569 (by decide +kernel) rfl
theorem q_577 : Cond.methodLink RX7 139 yX6_hourOf ∈ W0 := w0_mk 570 (by decide +kernel) rfl
theorem q_578 : Cond.methodLink RX7 142 yX6_pierOf ∈ W0 := w0_mk 571 (by decide +kernel) rfl
theorem q_583 : Cond.methodLink RX8 72 yX8_pierOf ∈ W0 := w0_mk 880 (by decide +kernel) rfl
theorem q_584 : Cond.instanceMethod yX8_pierOf ∈ W0 := w0_mk 882 (by decide +kernel) rfl
theorem q_585 : Cond.selects RX8 yX8_pierOf yX8_pierOf ∈ W0 := w0_mk 37 (by decide +kernel) rfl
theorem q_586 : Cond.code yX8_pierOf cX8_pierOf 3 (some .int) ∈ W0 := w0_mk 883 (by decide +kernel) rfl
theorem q_591 : Cond.fieldLink RX7 145 "CaptainTides$Captain" "belief" "I" ∈ W0 := w0_mk 79 (by decide +kernel) rfl
theorem q_592 : Cond.methodLink RX7 148 yX7_levelAt ∈ W0 := w0_mk 576 (by decide +kernel) rfl
theorem q_593 : Cond.methodLink RX7 152 yX7_levelReached ∈ W0 := w0_mk 577 (by decide +kernel) rfl
theorem q_594 : Cond.static yX7_levelReached ∈ W0 := w0_mk 578 (by decide +kernel) rfl
theorem q_595 : Cond.code yX7_levelReached cX7_levelReached 5 (some .int) ∈ W0 := w0_mk 579 (by decide +kernel) rfl
theorem q_604 : Cond.methodLink RX7 158 yX1_placeOf ∈ W0 := w0_mk 584 (by decide +kernel) rfl
theorem q_605 : Cond.methodLink RX7 161 yX1_usersAt ∈ W0 := w0_mk 585 (by decide +kernel) rfl
theorem q_606 : Cond.instanceMethod yX1_usersAt ∈ W0 := w0_mk 586 (by decide +kernel) rfl
theorem q_607 : Cond.selects RX1 yX1_usersAt yX1_usersAt ∈ W0 := w0_mk 587 (by decide +kernel) rfl
theorem q_608 : Cond.code yX1_usersAt cX1_usersAt 2 (some .int) ∈ W0 := w0_mk 588 (by decide +kernel) rfl
theorem q_613 : Cond.methodLink RX8 78 yX8_usesSet ∈ W0 := w0_mk 892 (by decide +kernel) rfl
theorem q_614 : Cond.instanceMethod yX8_usesSet ∈ W0 := w0_mk 894 (by decide +kernel) rfl
theorem q_615 : Cond.selects RX8 yX8_usesSet yX8_usesSet ∈ W0 := w0_mk 38 (by decide +kernel) rfl
theorem q_616 : Cond.code yX8_usesSet cX8_usesSet 5 (some .int) ∈ W0 := w0_mk 895 (by decide +kernel) rfl
theorem q_617 : Cond.methodLink RX8 75 yX8_usesPier ∈ W0 := w0_mk 896 (by decide +kernel) rfl
theorem q_618 : Cond.instanceMethod yX8_usesPier ∈ W0 := w0_mk 898 (by decide +kernel) rfl
theorem q_619 : Cond.selects RX8 yX8_usesPier yX8_usesPier ∈ W0 := w0_mk 39 (by decide +kernel) rfl
theorem q_620 : Cond.code yX8_usesPier cX8_usesPier 7 (some .boolean) ∈ W0 := w0_mk 899 (by decide +kernel) rfl
theorem q_625 : Cond.methodLink RX7 164 yX1_placeOfClash ∈ W0 := w0_mk 593 (by decide +kernel) rfl
theorem q_626 : Cond.instanceMethod yX1_placeOfClash ∈ W0 := w0_mk 594 (by decide +kernel) rfl
theorem q_627 : Cond.selects RX1 yX1_placeOfClash yX1_placeOfClash ∈ W0 := w0_mk 595 (by decide +kernel) rfl
theorem q_628 : Cond.code yX1_placeOfClash cX1_placeOfClash 4 (some .int) ∈ W0 := w0_mk 596 (by decide +kernel) rfl
theorem q_629 : Cond.methodLink RX1 63 yX1_isClash ∈ W0 := w0_mk 597 (by decide +kernel) rfl
theorem q_630 : Cond.instanceMethod yX1_isClash ∈ W0 := w0_mk 599 (by decide +kernel) rfl
theorem q_631 : Cond.selects RX1 yX1_isClash yX1_isClash ∈ W0 := w0_mk 12 (by decide +kernel) rfl
theorem q_632 : Cond.code yX1_isClash cX1_isClash 2 (some .boolean) ∈ W0 := w0_mk 600 (by decide +kernel) rfl
theorem q_633 : Cond.methodLink RX1 55 yX1_usersAt ∈ W0 := w0_mk 601 (by decide +kernel) rfl
theorem q_634 : Cond.methodLink RX1 58 yJ6_bitCount_0f7a4 ∈ W0 := w0_mk 602 (by decide +kernel) rfl
theorem q_635 : Cond.static yJ6_bitCount_0f7a4 ∈ W0 := w0_mk 603 (by decide +kernel) rfl
theorem q_636 : Cond.initialized RJ6 ∈ W0 := w0_mk 55 (by decide +kernel) rfl
theorem q_637 : Cond.code yJ6_bitCount_0f7a4 cJ6_bitCount_0f7a4 1 (some .int) ∈ W0 := w0_mk 604 (by decide +kernel) rfl
theorem q_638 : Cond.constant RJ6 265 (1431655765) ∈ W0 := w0_mk 605 (by decide +kernel) rfl
theorem q_639 : Cond.constant RJ6 266 (858993459) ∈ W0 := w0_mk 606 (by decide +kernel) rfl
theorem q_640 : Cond.constant RJ6 267 (252645135) ∈ W0 := w0_mk 607 (by decide +kernel) rfl
theorem q_649 : Cond.fieldLink RX7 167 "CaptainTides$Captain" "draft" "I" ∈ W0 := w0_mk 83 (by decide +kernel) rfl
theorem q_650 : Cond.methodLink RX7 170 yX7_hoursWithWater ∈ W0 := w0_mk 612 (by decide +kernel) rfl
theorem q_651 : Cond.static yX7_hoursWithWater ∈ W0 := w0_mk 613 (by decide +kernel) rfl
theorem q_652 : Cond.code yX7_hoursWithWater cX7_hoursWithWater 4 (some .int) ∈ W0 := w0_mk 614 (by decide +kernel) rfl
theorem q_661 : Cond.fieldLink RX7 180 "CaptainTides$State" "lotsDrawn" "I" ∈ W0 := w0_mk 132 (by decide +kernel) rfl
theorem q_662 : Cond.methodLink RX7 173 yX1_clashes ∈ W0 := w0_mk 619 (by decide +kernel) rfl
theorem q_663 : Cond.instanceMethod yX1_clashes ∈ W0 := w0_mk 620 (by decide +kernel) rfl
theorem q_664 : Cond.selects RX1 yX1_clashes yX1_clashes ∈ W0 := w0_mk 621 (by decide +kernel) rfl
theorem q_665 : Cond.code yX1_clashes cX1_clashes 3 (some .int) ∈ W0 := w0_mk 622 (by decide +kernel) rfl
theorem q_666 : Cond.methodLink RX7 177 yX1_crossings ∈ W0 := w0_mk 623 (by decide +kernel) rfl
theorem q_667 : Cond.instanceMethod yX1_crossings ∈ W0 := w0_mk 624 (by decide +kernel) rfl
theorem q_668 : Cond.selects RX1 yX1_crossings yX1_crossings ∈ W0 := w0_mk 625 (by decide +kernel) rfl
theorem q_669 : Cond.code yX1_crossings cX1_crossings 6 (some .int) ∈ W0 := w0_mk 626 (by decide +kernel) rfl
theorem q_670 : Cond.methodLink RX7 179 yX5_sumOf ∈ W0 := w0_mk 627 (by decide +kernel) rfl
theorem q_671 : Cond.instanceMethod yX5_sumOf ∈ W0 := w0_mk 628 (by decide +kernel) rfl
theorem q_672 : Cond.selects RX5 yX5_sumOf yX5_sumOf ∈ W0 := w0_mk 629 (by decide +kernel) rfl
theorem q_673 : Cond.code yX5_sumOf cX5_sumOf 7 (some .int) ∈ W0 := w0_mk 630 (by decide +kernel) rfl
theorem q_674 : Cond.methodLink RX5 39 yX2_tell ∈ W0 := w0_mk 631 (by decide +kernel) rfl
theorem q_679 : Cond.methodLink RX8 172 yX8_clashes ∈ W0 := w0_mk 912 (by decide +kernel) rfl
theorem q_680 : Cond.instanceMethod yX8_clashes ∈ W0 := w0_mk 914 (by decide +kernel) rfl
theorem q_681 : Cond.selects RX8 yX8_clashes yX8_clashes ∈ W0 := w0_mk 40 (by decide +kernel) rfl
theorem q_682 : Cond.code yX8_clashes cX8_clashes 3 (some .int) ∈ W0 := w0_mk 915 (by decide +kernel) rfl
theorem q_695 : Cond.fieldLink RX7 183 "CaptainTides$SailedDay" "lotsDrawn" "I" ∈ W0 := w0_mk 276 (by decide +kernel) rfl
theorem q_696 : Cond.fieldLink RX7 184 "CaptainTides$State" "hoursToLearn" "I" ∈ W0 := w0_mk 124 (by decide +kernel) rfl
theorem q_697 : Cond.methodLink RX7 187 yX4_learners ∈ W0 := w0_mk 640 (by decide +kernel) rfl
theorem q_698 : Cond.instanceMethod yX4_learners ∈ W0 := w0_mk 641 (by decide +kernel) rfl
theorem q_699 : Cond.selects RX4 yX4_learners yX4_learners ∈ W0 := w0_mk 642 (by decide +kernel) rfl
theorem q_700 : Cond.code yX4_learners cX4_learners 4 (some .int) ∈ W0 := w0_mk 643 (by decide +kernel) rfl
theorem q_701 : Cond.methodLink RX4 73 yX3_isLesson ∈ W0 := w0_mk 644 (by decide +kernel) rfl
theorem q_706 : Cond.methodLink RX8 175 yX8_lay ∈ W0 := w0_mk 924 (by decide +kernel) rfl
theorem q_707 : Cond.instanceMethod yX8_lay ∈ W0 := w0_mk 926 (by decide +kernel) rfl
theorem q_708 : Cond.selects RX8 yX8_lay yX8_lay ∈ W0 := w0_mk 41 (by decide +kernel) rfl
theorem q_709 : Cond.code yX8_lay cX8_lay 2 none ∈ W0 := w0_mk 927 (by decide +kernel) rfl
theorem q_710 : Cond.methodLink RX8 178 yX8_told ∈ W0 := w0_mk 928 (by decide +kernel) rfl
theorem q_711 : Cond.instanceMethod yX8_told ∈ W0 := w0_mk 930 (by decide +kernel) rfl
theorem q_712 : Cond.selects RX8 yX8_told yX8_told ∈ W0 := w0_mk 42 (by decide +kernel) rfl
theorem q_713 : Cond.code yX8_told cX8_told 2 (some .int) ∈ W0 := w0_mk 931 (by decide +kernel) rfl
theorem q_714 : Cond.methodLink RX8 181 yX8_takeBack ∈ W0 := w0_mk 932 (by decide +kernel) rfl
theorem q_715 : Cond.instanceMethod yX8_takeBack ∈ W0 := w0_mk 934 (by decide +kernel) rfl
theorem q_716 : Cond.selects RX8 yX8_takeBack yX8_takeBack ∈ W0 := w0_mk 43 (by decide +kernel) rfl
theorem q_717 : Cond.code yX8_takeBack cX8_takeBack 2 none ∈ W0 := w0_mk 935 (by decide +kernel) rfl
theorem q_722 : Cond.fieldLink RX7 190 "CaptainTides$Captain" "firstHour" "I" ∈ W0 := w0_mk 86 (by decide +kernel) rfl
theorem inX0 : ∀ w ∈ u_ws RX0 TX0 7, w ∈ W0 := w0_sub [166, 168, 170, 172, 174, 176, 178] (by decide +kernel) (by decide +kernel)
theorem inX1 : ∀ w ∈ u_ws RX1 TX1 2, w ∈ W0 := w0_sub [212, 214] (by decide +kernel) (by decide +kernel)
theorem inX2 : ∀ w ∈ u_ws RX2 TX2 10, w ∈ W0 := w0_sub [96, 98, 100, 102, 104, 106, 108, 110, 112, 114] (by decide +kernel) (by decide +kernel)
theorem inX3 : ∀ w ∈ u_ws RX3 TX3 11, w ∈ W0 := w0_sub [247, 249, 251, 253, 255, 257, 259, 261, 263, 265, 267] (by decide +kernel) (by decide +kernel)
theorem inX4 : ∀ w ∈ u_ws RX4 TX4 3, w ∈ W0 := w0_sub [277, 279, 281] (by decide +kernel) (by decide +kernel)
theorem inX5 : ∀ w ∈ u_ws RX5 TX5 7, w ∈ W0 := w0_sub [135, 137, 139, 141, 143, 145, 147] (by decide +kernel) (by decide +kernel)
theorem inX6 : ∀ w ∈ u_ws RX6 TX6 3, w ∈ W0 := w0_sub [201, 203, 205] (by decide +kernel) (by decide +kernel)
theorem inX7 : ∀ w ∈ u_ws RX7 TX7 9, w ∈ W0 := w0_sub [293, 295, 297, 299, 301, 303, 305, 307, 309] (by decide +kernel) (by decide +kernel)
theorem inX8 : ∀ w ∈ u_ws RX8 TX8 16, w ∈ W0 := w0_sub [679, 681, 683, 685, 687, 689, 691, 693, 695, 697, 699, 701, 703, 705, 707, 709] (by decide +kernel) (by decide +kernel)
end
