section
-- ===== PART A: goes FIRST, ahead of the names: the tables' words, and 'selects' of the private methods out of them =====
/-- a private method of a class that the tables say can be made, by its rows of tables_1 -/
def lw_okq (q : MethodName × Nat) : Prop := (q.1.cls ≠ "java/lang/invoke/MethodHandle" ∧ q.1.cls ≠ "java/lang/invoke/VarHandle") ∧ Cond.instantiable q.1.cls q.2 ∈ tables_1 ∧ Cond.privateMethod q.1 ∈ tables_1 ∧ Cond.instanceMethod q.1 ∈ tables_1
theorem lw_p0 : lw_okq (⟨"RefactoringReplay$Program", "hasClassesIn", "(LRefactoringReplay$Program;)Z"⟩, 6) := ⟨⟨by decide +kernel, by decide +kernel⟩, List.mem_of_getElem? (i := 29) (by decide +kernel), List.mem_of_getElem? (i := 279) (by decide +kernel), List.mem_of_getElem? (i := 280) (by decide +kernel)⟩
theorem lw_p1 : lw_okq (⟨"RefactoringReplay$Program", "hasMembersIn", "(LRefactoringReplay$Program;)Z"⟩, 6) := ⟨⟨by decide +kernel, by decide +kernel⟩, List.mem_of_getElem? (i := 29) (by decide +kernel), List.mem_of_getElem? (i := 291) (by decide +kernel), List.mem_of_getElem? (i := 292) (by decide +kernel)⟩
theorem lw_p2 : lw_okq (⟨"RefactoringReplay$Program", "twinOf", "(ILRefactoringReplay$Program;)I"⟩, 6) := ⟨⟨by decide +kernel, by decide +kernel⟩, List.mem_of_getElem? (i := 29) (by decide +kernel), List.mem_of_getElem? (i := 295) (by decide +kernel), List.mem_of_getElem? (i := 296) (by decide +kernel)⟩
theorem lw_p3 : lw_okq (⟨"RefactoringReplay$Program", "hasUsesIn", "(LRefactoringReplay$Program;)Z"⟩, 6) := ⟨⟨by decide +kernel, by decide +kernel⟩, List.mem_of_getElem? (i := 29) (by decide +kernel), List.mem_of_getElem? (i := 307) (by decide +kernel), List.mem_of_getElem? (i := 308) (by decide +kernel)⟩
theorem lw_p4 : lw_okq (⟨"RefactoringReplay", "change", "(IIIIII)I"⟩, 11) := ⟨⟨by decide +kernel, by decide +kernel⟩, List.mem_of_getElem? (i := 21) (by decide +kernel), List.mem_of_getElem? (i := 357) (by decide +kernel), List.mem_of_getElem? (i := 358) (by decide +kernel)⟩
theorem lw_p5 : lw_okq (⟨"RefactoringReplay", "programOf", "(I)LRefactoringReplay$Program;"⟩, 11) := ⟨⟨by decide +kernel, by decide +kernel⟩, List.mem_of_getElem? (i := 21) (by decide +kernel), List.mem_of_getElem? (i := 361) (by decide +kernel), List.mem_of_getElem? (i := 362) (by decide +kernel)⟩
theorem lw_p6 : lw_okq (⟨"java/lang/Throwable", "fillInStackTrace", "(I)Ljava/lang/Throwable;"⟩, 6) := ⟨⟨by decide +kernel, by decide +kernel⟩, List.mem_of_getElem? (i := 403) (by decide +kernel), List.mem_of_getElem? (i := 401) (by decide +kernel), List.mem_of_getElem? (i := 402) (by decide +kernel)⟩
theorem lw_p7 : lw_okq (⟨"RefactoringReplay$Program", "putClass", "(I)I"⟩, 6) := ⟨⟨by decide +kernel, by decide +kernel⟩, List.mem_of_getElem? (i := 29) (by decide +kernel), List.mem_of_getElem? (i := 487) (by decide +kernel), List.mem_of_getElem? (i := 488) (by decide +kernel)⟩
theorem lw_p8 : lw_okq (⟨"RefactoringReplay$Program", "dropClass", "(I)I"⟩, 6) := ⟨⟨by decide +kernel, by decide +kernel⟩, List.mem_of_getElem? (i := 29) (by decide +kernel), List.mem_of_getElem? (i := 494) (by decide +kernel), List.mem_of_getElem? (i := 495) (by decide +kernel)⟩
theorem lw_p9 : lw_okq (⟨"RefactoringReplay$Program", "below", "(I)I"⟩, 6) := ⟨⟨by decide +kernel, by decide +kernel⟩, List.mem_of_getElem? (i := 29) (by decide +kernel), List.mem_of_getElem? (i := 499) (by decide +kernel), List.mem_of_getElem? (i := 500) (by decide +kernel)⟩
theorem lw_p10 : lw_okq (⟨"RefactoringReplay$Program", "giveClassName", "(II)I"⟩, 6) := ⟨⟨by decide +kernel, by decide +kernel⟩, List.mem_of_getElem? (i := 29) (by decide +kernel), List.mem_of_getElem? (i := 503) (by decide +kernel), List.mem_of_getElem? (i := 504) (by decide +kernel)⟩
theorem lw_p11 : lw_okq (⟨"RefactoringReplay$Program", "giveSuper", "(II)I"⟩, 6) := ⟨⟨by decide +kernel, by decide +kernel⟩, List.mem_of_getElem? (i := 29) (by decide +kernel), List.mem_of_getElem? (i := 507) (by decide +kernel), List.mem_of_getElem? (i := 508) (by decide +kernel)⟩
theorem lw_p12 : lw_okq (⟨"RefactoringReplay$Program", "traceAncestors", "()V"⟩, 6) := ⟨⟨by decide +kernel, by decide +kernel⟩, List.mem_of_getElem? (i := 29) (by decide +kernel), List.mem_of_getElem? (i := 511) (by decide +kernel), List.mem_of_getElem? (i := 512) (by decide +kernel)⟩
theorem lw_p13 : lw_okq (⟨"RefactoringReplay$Program", "putMember", "(II)I"⟩, 6) := ⟨⟨by decide +kernel, by decide +kernel⟩, List.mem_of_getElem? (i := 29) (by decide +kernel), List.mem_of_getElem? (i := 515) (by decide +kernel), List.mem_of_getElem? (i := 516) (by decide +kernel)⟩
theorem lw_p14 : lw_okq (⟨"RefactoringReplay$Program", "holds", "(III)Z"⟩, 6) := ⟨⟨by decide +kernel, by decide +kernel⟩, List.mem_of_getElem? (i := 29) (by decide +kernel), List.mem_of_getElem? (i := 519) (by decide +kernel), List.mem_of_getElem? (i := 520) (by decide +kernel)⟩
theorem lw_p15 : lw_okq (⟨"RefactoringReplay$Program", "line", "(I)I"⟩, 6) := ⟨⟨by decide +kernel, by decide +kernel⟩, List.mem_of_getElem? (i := 29) (by decide +kernel), List.mem_of_getElem? (i := 523) (by decide +kernel), List.mem_of_getElem? (i := 524) (by decide +kernel)⟩
def lw_privs_1 : List (MethodName × Nat) := [(⟨"RefactoringReplay$Program", "hasClassesIn", "(LRefactoringReplay$Program;)Z"⟩, 6), (⟨"RefactoringReplay$Program", "hasMembersIn", "(LRefactoringReplay$Program;)Z"⟩, 6), (⟨"RefactoringReplay$Program", "twinOf", "(ILRefactoringReplay$Program;)I"⟩, 6), (⟨"RefactoringReplay$Program", "hasUsesIn", "(LRefactoringReplay$Program;)Z"⟩, 6), (⟨"RefactoringReplay", "change", "(IIIIII)I"⟩, 11), (⟨"RefactoringReplay", "programOf", "(I)LRefactoringReplay$Program;"⟩, 11), (⟨"java/lang/Throwable", "fillInStackTrace", "(I)Ljava/lang/Throwable;"⟩, 6), (⟨"RefactoringReplay$Program", "putClass", "(I)I"⟩, 6), (⟨"RefactoringReplay$Program", "dropClass", "(I)I"⟩, 6), (⟨"RefactoringReplay$Program", "below", "(I)I"⟩, 6), (⟨"RefactoringReplay$Program", "giveClassName", "(II)I"⟩, 6), (⟨"RefactoringReplay$Program", "giveSuper", "(II)I"⟩, 6), (⟨"RefactoringReplay$Program", "traceAncestors", "()V"⟩, 6), (⟨"RefactoringReplay$Program", "putMember", "(II)I"⟩, 6), (⟨"RefactoringReplay$Program", "holds", "(III)Z"⟩, 6), (⟨"RefactoringReplay$Program", "line", "(I)I"⟩, 6)]
theorem lw_r1 : ∀ q ∈ lw_privs_1, lw_okq q := List.forall_mem_cons.mpr ⟨lw_p0, List.forall_mem_cons.mpr ⟨lw_p1, List.forall_mem_cons.mpr ⟨lw_p2, List.forall_mem_cons.mpr ⟨lw_p3, List.forall_mem_cons.mpr ⟨lw_p4, List.forall_mem_cons.mpr ⟨lw_p5, List.forall_mem_cons.mpr ⟨lw_p6, List.forall_mem_cons.mpr ⟨lw_p7, List.forall_mem_cons.mpr ⟨lw_p8, List.forall_mem_cons.mpr ⟨lw_p9, List.forall_mem_cons.mpr ⟨lw_p10, List.forall_mem_cons.mpr ⟨lw_p11, List.forall_mem_cons.mpr ⟨lw_p12, List.forall_mem_cons.mpr ⟨lw_p13, List.forall_mem_cons.mpr ⟨lw_p14, List.forall_mem_cons.mpr ⟨lw_p15, fun _ h => absurd h List.not_mem_nil⟩⟩⟩⟩⟩⟩⟩⟩⟩⟩⟩⟩⟩⟩⟩⟩
theorem lw_p16 : lw_okq (⟨"RefactoringReplay$Program", "dropMember", "(II)I"⟩, 6) := ⟨⟨by decide +kernel, by decide +kernel⟩, List.mem_of_getElem? (i := 29) (by decide +kernel), List.mem_of_getElem? (i := 527) (by decide +kernel), List.mem_of_getElem? (i := 528) (by decide +kernel)⟩
theorem lw_p17 : lw_okq (⟨"RefactoringReplay$Program", "giveMemberName", "(III)I"⟩, 6) := ⟨⟨by decide +kernel, by decide +kernel⟩, List.mem_of_getElem? (i := 29) (by decide +kernel), List.mem_of_getElem? (i := 536) (by decide +kernel), List.mem_of_getElem? (i := 537) (by decide +kernel)⟩
theorem lw_p18 : lw_okq (⟨"RefactoringReplay$Program", "giveOwner", "(III)I"⟩, 6) := ⟨⟨by decide +kernel, by decide +kernel⟩, List.mem_of_getElem? (i := 29) (by decide +kernel), List.mem_of_getElem? (i := 540) (by decide +kernel), List.mem_of_getElem? (i := 541) (by decide +kernel)⟩
theorem lw_p19 : lw_okq (⟨"RefactoringReplay$Program", "putUse", "(II)I"⟩, 6) := ⟨⟨by decide +kernel, by decide +kernel⟩, List.mem_of_getElem? (i := 29) (by decide +kernel), List.mem_of_getElem? (i := 544) (by decide +kernel), List.mem_of_getElem? (i := 545) (by decide +kernel)⟩
theorem lw_p20 : lw_okq (⟨"RefactoringReplay$Program", "dropUse", "(II)I"⟩, 6) := ⟨⟨by decide +kernel, by decide +kernel⟩, List.mem_of_getElem? (i := 29) (by decide +kernel), List.mem_of_getElem? (i := 548) (by decide +kernel), List.mem_of_getElem? (i := 549) (by decide +kernel)⟩
theorem lw_p21 : lw_okq (⟨"RefactoringReplay", "requireChange", "(I)V"⟩, 11) := ⟨⟨by decide +kernel, by decide +kernel⟩, List.mem_of_getElem? (i := 21) (by decide +kernel), List.mem_of_getElem? (i := 692) (by decide +kernel), List.mem_of_getElem? (i := 693) (by decide +kernel)⟩
theorem lw_p22 : lw_okq (⟨"RefactoringReplay", "requireNeighbours", "(I)V"⟩, 11) := ⟨⟨by decide +kernel, by decide +kernel⟩, List.mem_of_getElem? (i := 21) (by decide +kernel), List.mem_of_getElem? (i := 736) (by decide +kernel), List.mem_of_getElem? (i := 737) (by decide +kernel)⟩
theorem lw_p23 : lw_okq (⟨"RefactoringReplay$Commuting", "test", "(LRefactoringReplay$ChangeList;I)Z"⟩, 7) := ⟨⟨by decide +kernel, by decide +kernel⟩, List.mem_of_getElem? (i := 122) (by decide +kernel), List.mem_of_getElem? (i := 747) (by decide +kernel), List.mem_of_getElem? (i := 748) (by decide +kernel)⟩
theorem lw_p24 : lw_okq (⟨"RefactoringReplay$Change", "replaceClass", "(II)V"⟩, 5) := ⟨⟨by decide +kernel, by decide +kernel⟩, List.mem_of_getElem? (i := 74) (by decide +kernel), List.mem_of_getElem? (i := 757) (by decide +kernel), List.mem_of_getElem? (i := 758) (by decide +kernel)⟩
theorem lw_p25 : lw_okq (⟨"RefactoringReplay$Change", "replaceMember", "(IIII)V"⟩, 5) := ⟨⟨by decide +kernel, by decide +kernel⟩, List.mem_of_getElem? (i := 74) (by decide +kernel), List.mem_of_getElem? (i := 761) (by decide +kernel), List.mem_of_getElem? (i := 762) (by decide +kernel)⟩
theorem lw_p26 : lw_okq (⟨"RefactoringReplay$Commuting", "movesBehind", "(LRefactoringReplay$Program;II)Z"⟩, 7) := ⟨⟨by decide +kernel, by decide +kernel⟩, List.mem_of_getElem? (i := 122) (by decide +kernel), List.mem_of_getElem? (i := 797) (by decide +kernel), List.mem_of_getElem? (i := 798) (by decide +kernel)⟩
theorem lw_p27 : lw_okq (⟨"RefactoringReplay$Matching", "joinClassesByName", "(LRefactoringReplay$Program;LRefactoringReplay$Program;)V"⟩, 4) := ⟨⟨by decide +kernel, by decide +kernel⟩, List.mem_of_getElem? (i := 156) (by decide +kernel), List.mem_of_getElem? (i := 814) (by decide +kernel), List.mem_of_getElem? (i := 815) (by decide +kernel)⟩
theorem lw_p28 : lw_okq (⟨"RefactoringReplay$Matching", "joinClassesByMembers", "(LRefactoringReplay$Program;LRefactoringReplay$Program;)V"⟩, 4) := ⟨⟨by decide +kernel, by decide +kernel⟩, List.mem_of_getElem? (i := 156) (by decide +kernel), List.mem_of_getElem? (i := 823) (by decide +kernel), List.mem_of_getElem? (i := 824) (by decide +kernel)⟩
theorem lw_p29 : lw_okq (⟨"RefactoringReplay$Matching", "closestTo", "(ILRefactoringReplay$Program;)I"⟩, 4) := ⟨⟨by decide +kernel, by decide +kernel⟩, List.mem_of_getElem? (i := 156) (by decide +kernel), List.mem_of_getElem? (i := 828) (by decide +kernel), List.mem_of_getElem? (i := 829) (by decide +kernel)⟩
theorem lw_p30 : lw_okq (⟨"RefactoringReplay$Matching", "joinMembersOfClasses", "(LRefactoringReplay$Program;LRefactoringReplay$Program;)V"⟩, 4) := ⟨⟨by decide +kernel, by decide +kernel⟩, List.mem_of_getElem? (i := 156) (by decide +kernel), List.mem_of_getElem? (i := 838) (by decide +kernel), List.mem_of_getElem? (i := 839) (by decide +kernel)⟩
theorem lw_p31 : lw_okq (⟨"RefactoringReplay$Matching", "joinLoneMembers", "(LRefactoringReplay$Program;LRefactoringReplay$Program;)V"⟩, 4) := ⟨⟨by decide +kernel, by decide +kernel⟩, List.mem_of_getElem? (i := 156) (by decide +kernel), List.mem_of_getElem? (i := 847) (by decide +kernel), List.mem_of_getElem? (i := 848) (by decide +kernel)⟩
def lw_privs_2 : List (MethodName × Nat) := [(⟨"RefactoringReplay$Program", "dropMember", "(II)I"⟩, 6), (⟨"RefactoringReplay$Program", "giveMemberName", "(III)I"⟩, 6), (⟨"RefactoringReplay$Program", "giveOwner", "(III)I"⟩, 6), (⟨"RefactoringReplay$Program", "putUse", "(II)I"⟩, 6), (⟨"RefactoringReplay$Program", "dropUse", "(II)I"⟩, 6), (⟨"RefactoringReplay", "requireChange", "(I)V"⟩, 11), (⟨"RefactoringReplay", "requireNeighbours", "(I)V"⟩, 11), (⟨"RefactoringReplay$Commuting", "test", "(LRefactoringReplay$ChangeList;I)Z"⟩, 7), (⟨"RefactoringReplay$Change", "replaceClass", "(II)V"⟩, 5), (⟨"RefactoringReplay$Change", "replaceMember", "(IIII)V"⟩, 5), (⟨"RefactoringReplay$Commuting", "movesBehind", "(LRefactoringReplay$Program;II)Z"⟩, 7), (⟨"RefactoringReplay$Matching", "joinClassesByName", "(LRefactoringReplay$Program;LRefactoringReplay$Program;)V"⟩, 4), (⟨"RefactoringReplay$Matching", "joinClassesByMembers", "(LRefactoringReplay$Program;LRefactoringReplay$Program;)V"⟩, 4), (⟨"RefactoringReplay$Matching", "closestTo", "(ILRefactoringReplay$Program;)I"⟩, 4), (⟨"RefactoringReplay$Matching", "joinMembersOfClasses", "(LRefactoringReplay$Program;LRefactoringReplay$Program;)V"⟩, 4), (⟨"RefactoringReplay$Matching", "joinLoneMembers", "(LRefactoringReplay$Program;LRefactoringReplay$Program;)V"⟩, 4)]
theorem lw_r2 : ∀ q ∈ lw_privs_2, lw_okq q := List.forall_mem_cons.mpr ⟨lw_p16, List.forall_mem_cons.mpr ⟨lw_p17, List.forall_mem_cons.mpr ⟨lw_p18, List.forall_mem_cons.mpr ⟨lw_p19, List.forall_mem_cons.mpr ⟨lw_p20, List.forall_mem_cons.mpr ⟨lw_p21, List.forall_mem_cons.mpr ⟨lw_p22, List.forall_mem_cons.mpr ⟨lw_p23, List.forall_mem_cons.mpr ⟨lw_p24, List.forall_mem_cons.mpr ⟨lw_p25, List.forall_mem_cons.mpr ⟨lw_p26, List.forall_mem_cons.mpr ⟨lw_p27, List.forall_mem_cons.mpr ⟨lw_p28, List.forall_mem_cons.mpr ⟨lw_p29, List.forall_mem_cons.mpr ⟨lw_p30, List.forall_mem_cons.mpr ⟨lw_p31, fun _ h => absurd h List.not_mem_nil⟩⟩⟩⟩⟩⟩⟩⟩⟩⟩⟩⟩⟩⟩⟩⟩
theorem lw_p32 : lw_okq (⟨"RefactoringReplay$Matching", "onlyFree", "(LRefactoringReplay$Program;I)I"⟩, 4) := ⟨⟨by decide +kernel, by decide +kernel⟩, List.mem_of_getElem? (i := 156) (by decide +kernel), List.mem_of_getElem? (i := 851) (by decide +kernel), List.mem_of_getElem? (i := 852) (by decide +kernel)⟩
theorem lw_p33 : lw_okq (⟨"RefactoringReplay", "requireSelection", "(I)V"⟩, 11) := ⟨⟨by decide +kernel, by decide +kernel⟩, List.mem_of_getElem? (i := 21) (by decide +kernel), List.mem_of_getElem? (i := 870) (by decide +kernel), List.mem_of_getElem? (i := 871) (by decide +kernel)⟩
theorem lw_p34 : lw_okq (⟨"RefactoringReplay$Replayer", "translate", "(LRefactoringReplay$Change;LRefactoringReplay$Program;)Z"⟩, 4) := ⟨⟨by decide +kernel, by decide +kernel⟩, List.mem_of_getElem? (i := 181) (by decide +kernel), List.mem_of_getElem? (i := 882) (by decide +kernel), List.mem_of_getElem? (i := 883) (by decide +kernel)⟩
theorem lw_p35 : lw_okq (⟨"RefactoringReplay$Replayer", "classNameOf", "(ILRefactoringReplay$Program;)I"⟩, 4) := ⟨⟨by decide +kernel, by decide +kernel⟩, List.mem_of_getElem? (i := 181) (by decide +kernel), List.mem_of_getElem? (i := 887) (by decide +kernel), List.mem_of_getElem? (i := 888) (by decide +kernel)⟩
theorem lw_p36 : lw_okq (⟨"RefactoringReplay$Replayer", "translateUser", "(LRefactoringReplay$Change;LRefactoringReplay$Program;)Z"⟩, 4) := ⟨⟨by decide +kernel, by decide +kernel⟩, List.mem_of_getElem? (i := 181) (by decide +kernel), List.mem_of_getElem? (i := 892) (by decide +kernel), List.mem_of_getElem? (i := 893) (by decide +kernel)⟩
theorem lw_p37 : lw_okq (⟨"RefactoringReplay$Replayer", "memberPartner", "(II)I"⟩, 4) := ⟨⟨by decide +kernel, by decide +kernel⟩, List.mem_of_getElem? (i := 181) (by decide +kernel), List.mem_of_getElem? (i := 896) (by decide +kernel), List.mem_of_getElem? (i := 897) (by decide +kernel)⟩
theorem lw_p38 : lw_okq (⟨"RefactoringReplay$Replayer", "translateUsed", "(LRefactoringReplay$Change;LRefactoringReplay$Program;)Z"⟩, 4) := ⟨⟨by decide +kernel, by decide +kernel⟩, List.mem_of_getElem? (i := 181) (by decide +kernel), List.mem_of_getElem? (i := 902) (by decide +kernel), List.mem_of_getElem? (i := 903) (by decide +kernel)⟩
theorem lw_p39 : lw_okq (⟨"RefactoringReplay$Replayer", "tryPlan", "(LRefactoringReplay$Program;Z)I"⟩, 4) := ⟨⟨by decide +kernel, by decide +kernel⟩, List.mem_of_getElem? (i := 181) (by decide +kernel), List.mem_of_getElem? (i := 906) (by decide +kernel), List.mem_of_getElem? (i := 907) (by decide +kernel)⟩
theorem lw_p40 : lw_okq (⟨"RefactoringReplay$Replayer", "countsAsMade", "(I)Z"⟩, 4) := ⟨⟨by decide +kernel, by decide +kernel⟩, List.mem_of_getElem? (i := 181) (by decide +kernel), List.mem_of_getElem? (i := 911) (by decide +kernel), List.mem_of_getElem? (i := 912) (by decide +kernel)⟩
theorem lw_p41 : lw_okq (⟨"RefactoringReplay$Replayer", "isTaken", "(LRefactoringReplay$Program;)Z"⟩, 4) := ⟨⟨by decide +kernel, by decide +kernel⟩, List.mem_of_getElem? (i := 181) (by decide +kernel), List.mem_of_getElem? (i := 915) (by decide +kernel), List.mem_of_getElem? (i := 916) (by decide +kernel)⟩
theorem lw_p42 : lw_okq (⟨"RefactoringReplay$Replayer", "isMendable", "(I)Z"⟩, 4) := ⟨⟨by decide +kernel, by decide +kernel⟩, List.mem_of_getElem? (i := 181) (by decide +kernel), List.mem_of_getElem? (i := 919) (by decide +kernel), List.mem_of_getElem? (i := 920) (by decide +kernel)⟩
theorem lw_p43 : lw_okq (⟨"RefactoringReplay$Replayer", "tryOtherNames", "(LRefactoringReplay$Program;I)I"⟩, 4) := ⟨⟨by decide +kernel, by decide +kernel⟩, List.mem_of_getElem? (i := 181) (by decide +kernel), List.mem_of_getElem? (i := 923) (by decide +kernel), List.mem_of_getElem? (i := 924) (by decide +kernel)⟩
theorem lw_p44 : lw_okq (⟨"RefactoringReplay$Replayer", "follow", "(LRefactoringReplay$Change;LRefactoringReplay$Program;Z)V"⟩, 4) := ⟨⟨by decide +kernel, by decide +kernel⟩, List.mem_of_getElem? (i := 181) (by decide +kernel), List.mem_of_getElem? (i := 931) (by decide +kernel), List.mem_of_getElem? (i := 932) (by decide +kernel)⟩
theorem lw_p45 : lw_okq (⟨"RefactoringReplayModel", "changes", "(IIIIIIZ)I"⟩, 25) := ⟨⟨by decide +kernel, by decide +kernel⟩, List.mem_of_getElem? (i := 961) (by decide +kernel), List.mem_of_getElem? (i := 1057) (by decide +kernel), List.mem_of_getElem? (i := 1058) (by decide +kernel)⟩
theorem lw_p46 : lw_okq (⟨"RefactoringReplayModel", "makes", "([IIIIII)I"⟩, 25) := ⟨⟨by decide +kernel, by decide +kernel⟩, List.mem_of_getElem? (i := 961) (by decide +kernel), List.mem_of_getElem? (i := 1061) (by decide +kernel), List.mem_of_getElem? (i := 1062) (by decide +kernel)⟩
theorem lw_p47 : lw_okq (⟨"RefactoringReplayModel", "addsClass", "([III)I"⟩, 25) := ⟨⟨by decide +kernel, by decide +kernel⟩, List.mem_of_getElem? (i := 961) (by decide +kernel), List.mem_of_getElem? (i := 1068) (by decide +kernel), List.mem_of_getElem? (i := 1069) (by decide +kernel)⟩
def lw_privs_3 : List (MethodName × Nat) := [(⟨"RefactoringReplay$Matching", "onlyFree", "(LRefactoringReplay$Program;I)I"⟩, 4), (⟨"RefactoringReplay", "requireSelection", "(I)V"⟩, 11), (⟨"RefactoringReplay$Replayer", "translate", "(LRefactoringReplay$Change;LRefactoringReplay$Program;)Z"⟩, 4), (⟨"RefactoringReplay$Replayer", "classNameOf", "(ILRefactoringReplay$Program;)I"⟩, 4), (⟨"RefactoringReplay$Replayer", "translateUser", "(LRefactoringReplay$Change;LRefactoringReplay$Program;)Z"⟩, 4), (⟨"RefactoringReplay$Replayer", "memberPartner", "(II)I"⟩, 4), (⟨"RefactoringReplay$Replayer", "translateUsed", "(LRefactoringReplay$Change;LRefactoringReplay$Program;)Z"⟩, 4), (⟨"RefactoringReplay$Replayer", "tryPlan", "(LRefactoringReplay$Program;Z)I"⟩, 4), (⟨"RefactoringReplay$Replayer", "countsAsMade", "(I)Z"⟩, 4), (⟨"RefactoringReplay$Replayer", "isTaken", "(LRefactoringReplay$Program;)Z"⟩, 4), (⟨"RefactoringReplay$Replayer", "isMendable", "(I)Z"⟩, 4), (⟨"RefactoringReplay$Replayer", "tryOtherNames", "(LRefactoringReplay$Program;I)I"⟩, 4), (⟨"RefactoringReplay$Replayer", "follow", "(LRefactoringReplay$Change;LRefactoringReplay$Program;Z)V"⟩, 4), (⟨"RefactoringReplayModel", "changes", "(IIIIIIZ)I"⟩, 25), (⟨"RefactoringReplayModel", "makes", "([IIIIII)I"⟩, 25), (⟨"RefactoringReplayModel", "addsClass", "([III)I"⟩, 25)]
theorem lw_r3 : ∀ q ∈ lw_privs_3, lw_okq q := List.forall_mem_cons.mpr ⟨lw_p32, List.forall_mem_cons.mpr ⟨lw_p33, List.forall_mem_cons.mpr ⟨lw_p34, List.forall_mem_cons.mpr ⟨lw_p35, List.forall_mem_cons.mpr ⟨lw_p36, List.forall_mem_cons.mpr ⟨lw_p37, List.forall_mem_cons.mpr ⟨lw_p38, List.forall_mem_cons.mpr ⟨lw_p39, List.forall_mem_cons.mpr ⟨lw_p40, List.forall_mem_cons.mpr ⟨lw_p41, List.forall_mem_cons.mpr ⟨lw_p42, List.forall_mem_cons.mpr ⟨lw_p43, List.forall_mem_cons.mpr ⟨lw_p44, List.forall_mem_cons.mpr ⟨lw_p45, List.forall_mem_cons.mpr ⟨lw_p46, List.forall_mem_cons.mpr ⟨lw_p47, fun _ h => absurd h List.not_mem_nil⟩⟩⟩⟩⟩⟩⟩⟩⟩⟩⟩⟩⟩⟩⟩⟩
theorem lw_p48 : lw_okq (⟨"RefactoringReplayModel", "removesClass", "([II)I"⟩, 25) := ⟨⟨by decide +kernel, by decide +kernel⟩, List.mem_of_getElem? (i := 961) (by decide +kernel), List.mem_of_getElem? (i := 1078) (by decide +kernel), List.mem_of_getElem? (i := 1079) (by decide +kernel)⟩
theorem lw_p49 : lw_okq (⟨"RefactoringReplayModel", "renamesClass", "([III)I"⟩, 25) := ⟨⟨by decide +kernel, by decide +kernel⟩, List.mem_of_getElem? (i := 961) (by decide +kernel), List.mem_of_getElem? (i := 1082) (by decide +kernel), List.mem_of_getElem? (i := 1083) (by decide +kernel)⟩
theorem lw_p50 : lw_okq (⟨"RefactoringReplayModel", "setsSuper", "([III)I"⟩, 25) := ⟨⟨by decide +kernel, by decide +kernel⟩, List.mem_of_getElem? (i := 961) (by decide +kernel), List.mem_of_getElem? (i := 1086) (by decide +kernel), List.mem_of_getElem? (i := 1087) (by decide +kernel)⟩
theorem lw_p51 : lw_okq (⟨"RefactoringReplayModel", "addsMember", "([III)I"⟩, 25) := ⟨⟨by decide +kernel, by decide +kernel⟩, List.mem_of_getElem? (i := 961) (by decide +kernel), List.mem_of_getElem? (i := 1093) (by decide +kernel), List.mem_of_getElem? (i := 1094) (by decide +kernel)⟩
theorem lw_p52 : lw_okq (⟨"RefactoringReplayModel", "removesMember", "([II)I"⟩, 25) := ⟨⟨by decide +kernel, by decide +kernel⟩, List.mem_of_getElem? (i := 961) (by decide +kernel), List.mem_of_getElem? (i := 1106) (by decide +kernel), List.mem_of_getElem? (i := 1107) (by decide +kernel)⟩
theorem lw_p53 : lw_okq (⟨"RefactoringReplayModel", "renamesMember", "([IIII)I"⟩, 25) := ⟨⟨by decide +kernel, by decide +kernel⟩, List.mem_of_getElem? (i := 961) (by decide +kernel), List.mem_of_getElem? (i := 1110) (by decide +kernel), List.mem_of_getElem? (i := 1111) (by decide +kernel)⟩
theorem lw_p54 : lw_okq (⟨"RefactoringReplayModel", "movesMember", "([IIII)I"⟩, 25) := ⟨⟨by decide +kernel, by decide +kernel⟩, List.mem_of_getElem? (i := 961) (by decide +kernel), List.mem_of_getElem? (i := 1114) (by decide +kernel), List.mem_of_getElem? (i := 1115) (by decide +kernel)⟩
theorem lw_p55 : lw_okq (⟨"RefactoringReplayModel", "addsUse", "([III)I"⟩, 25) := ⟨⟨by decide +kernel, by decide +kernel⟩, List.mem_of_getElem? (i := 961) (by decide +kernel), List.mem_of_getElem? (i := 1121) (by decide +kernel), List.mem_of_getElem? (i := 1122) (by decide +kernel)⟩
theorem lw_p56 : lw_okq (⟨"RefactoringReplayModel", "removesUse", "([III)I"⟩, 25) := ⟨⟨by decide +kernel, by decide +kernel⟩, List.mem_of_getElem? (i := 961) (by decide +kernel), List.mem_of_getElem? (i := 1125) (by decide +kernel), List.mem_of_getElem? (i := 1126) (by decide +kernel)⟩
theorem lw_p57 : lw_okq (⟨"RefactoringReplayModel", "lacksVersion", "(I)Z"⟩, 25) := ⟨⟨by decide +kernel, by decide +kernel⟩, List.mem_of_getElem? (i := 961) (by decide +kernel), List.mem_of_getElem? (i := 1175) (by decide +kernel), List.mem_of_getElem? (i := 1176) (by decide +kernel)⟩
theorem lw_p58 : lw_okq (⟨"RefactoringReplayModel", "looks", "(I)V"⟩, 25) := ⟨⟨by decide +kernel, by decide +kernel⟩, List.mem_of_getElem? (i := 961) (by decide +kernel), List.mem_of_getElem? (i := 1179) (by decide +kernel), List.mem_of_getElem? (i := 1180) (by decide +kernel)⟩
theorem lw_p59 : lw_okq (⟨"RefactoringReplayModel", "fails", "(I)I"⟩, 25) := ⟨⟨by decide +kernel, by decide +kernel⟩, List.mem_of_getElem? (i := 961) (by decide +kernel), List.mem_of_getElem? (i := 1193) (by decide +kernel), List.mem_of_getElem? (i := 1194) (by decide +kernel)⟩
theorem lw_p60 : lw_okq (⟨"RefactoringReplayModel", "isWrong", "(IZ)Z"⟩, 25) := ⟨⟨by decide +kernel, by decide +kernel⟩, List.mem_of_getElem? (i := 961) (by decide +kernel), List.mem_of_getElem? (i := 1201) (by decide +kernel), List.mem_of_getElem? (i := 1202) (by decide +kernel)⟩
theorem lw_p61 : lw_okq (⟨"RefactoringReplayModel", "goesTo", "([I[II)V"⟩, 25) := ⟨⟨by decide +kernel, by decide +kernel⟩, List.mem_of_getElem? (i := 961) (by decide +kernel), List.mem_of_getElem? (i := 1260) (by decide +kernel), List.mem_of_getElem? (i := 1261) (by decide +kernel)⟩
theorem lw_p62 : lw_okq (⟨"RefactoringReplayModel", "makesOf", "([I[II)I"⟩, 25) := ⟨⟨by decide +kernel, by decide +kernel⟩, List.mem_of_getElem? (i := 961) (by decide +kernel), List.mem_of_getElem? (i := 1264) (by decide +kernel), List.mem_of_getElem? (i := 1265) (by decide +kernel)⟩
theorem lw_p63 : lw_okq (⟨"RefactoringReplayModel", "commute", "([II)Z"⟩, 25) := ⟨⟨by decide +kernel, by decide +kernel⟩, List.mem_of_getElem? (i := 961) (by decide +kernel), List.mem_of_getElem? (i := 1272) (by decide +kernel), List.mem_of_getElem? (i := 1273) (by decide +kernel)⟩
def lw_privs_4 : List (MethodName × Nat) := [(⟨"RefactoringReplayModel", "removesClass", "([II)I"⟩, 25), (⟨"RefactoringReplayModel", "renamesClass", "([III)I"⟩, 25), (⟨"RefactoringReplayModel", "setsSuper", "([III)I"⟩, 25), (⟨"RefactoringReplayModel", "addsMember", "([III)I"⟩, 25), (⟨"RefactoringReplayModel", "removesMember", "([II)I"⟩, 25), (⟨"RefactoringReplayModel", "renamesMember", "([IIII)I"⟩, 25), (⟨"RefactoringReplayModel", "movesMember", "([IIII)I"⟩, 25), (⟨"RefactoringReplayModel", "addsUse", "([III)I"⟩, 25), (⟨"RefactoringReplayModel", "removesUse", "([III)I"⟩, 25), (⟨"RefactoringReplayModel", "lacksVersion", "(I)Z"⟩, 25), (⟨"RefactoringReplayModel", "looks", "(I)V"⟩, 25), (⟨"RefactoringReplayModel", "fails", "(I)I"⟩, 25), (⟨"RefactoringReplayModel", "isWrong", "(IZ)Z"⟩, 25), (⟨"RefactoringReplayModel", "goesTo", "([I[II)V"⟩, 25), (⟨"RefactoringReplayModel", "makesOf", "([I[II)I"⟩, 25), (⟨"RefactoringReplayModel", "commute", "([II)Z"⟩, 25)]
theorem lw_r4 : ∀ q ∈ lw_privs_4, lw_okq q := List.forall_mem_cons.mpr ⟨lw_p48, List.forall_mem_cons.mpr ⟨lw_p49, List.forall_mem_cons.mpr ⟨lw_p50, List.forall_mem_cons.mpr ⟨lw_p51, List.forall_mem_cons.mpr ⟨lw_p52, List.forall_mem_cons.mpr ⟨lw_p53, List.forall_mem_cons.mpr ⟨lw_p54, List.forall_mem_cons.mpr ⟨lw_p55, List.forall_mem_cons.mpr ⟨lw_p56, List.forall_mem_cons.mpr ⟨lw_p57, List.forall_mem_cons.mpr ⟨lw_p58, List.forall_mem_cons.mpr ⟨lw_p59, List.forall_mem_cons.mpr ⟨lw_p60, List.forall_mem_cons.mpr ⟨lw_p61, List.forall_mem_cons.mpr ⟨lw_p62, List.forall_mem_cons.mpr ⟨lw_p63, fun _ h => absurd h List.not_mem_nil⟩⟩⟩⟩⟩⟩⟩⟩⟩⟩⟩⟩⟩⟩⟩⟩
theorem lw_p64 : lw_okq (⟨"RefactoringReplayModel", "exchanges", "([II)V"⟩, 25) := ⟨⟨by decide +kernel, by decide +kernel⟩, List.mem_of_getElem? (i := 961) (by decide +kernel), List.mem_of_getElem? (i := 1292) (by decide +kernel), List.mem_of_getElem? (i := 1293) (by decide +kernel)⟩
theorem lw_p65 : lw_okq (⟨"RefactoringReplayModel", "needsOf", "(I)I"⟩, 25) := ⟨⟨by decide +kernel, by decide +kernel⟩, List.mem_of_getElem? (i := 961) (by decide +kernel), List.mem_of_getElem? (i := 1300) (by decide +kernel), List.mem_of_getElem? (i := 1301) (by decide +kernel)⟩
theorem lw_p66 : lw_okq (⟨"RefactoringReplayModel", "matches", "([I)V"⟩, 25) := ⟨⟨by decide +kernel, by decide +kernel⟩, List.mem_of_getElem? (i := 961) (by decide +kernel), List.mem_of_getElem? (i := 1311) (by decide +kernel), List.mem_of_getElem? (i := 1312) (by decide +kernel)⟩
theorem lw_p67 : lw_okq (⟨"RefactoringReplayModel", "likest", "(I[I)I"⟩, 25) := ⟨⟨by decide +kernel, by decide +kernel⟩, List.mem_of_getElem? (i := 961) (by decide +kernel), List.mem_of_getElem? (i := 1315) (by decide +kernel), List.mem_of_getElem? (i := 1316) (by decide +kernel)⟩
theorem lw_p68 : lw_okq (⟨"RefactoringReplayModel", "isMatched", "([III)Z"⟩, 25) := ⟨⟨by decide +kernel, by decide +kernel⟩, List.mem_of_getElem? (i := 961) (by decide +kernel), List.mem_of_getElem? (i := 1319) (by decide +kernel), List.mem_of_getElem? (i := 1320) (by decide +kernel)⟩
theorem lw_p69 : lw_okq (⟨"RefactoringReplayModel", "lonely", "([II)I"⟩, 25) := ⟨⟨by decide +kernel, by decide +kernel⟩, List.mem_of_getElem? (i := 961) (by decide +kernel), List.mem_of_getElem? (i := 1326) (by decide +kernel), List.mem_of_getElem? (i := 1327) (by decide +kernel)⟩
theorem lw_p70 : lw_okq (⟨"RefactoringReplayModel", "isSelection", "(I)Z"⟩, 25) := ⟨⟨by decide +kernel, by decide +kernel⟩, List.mem_of_getElem? (i := 961) (by decide +kernel), List.mem_of_getElem? (i := 1338) (by decide +kernel), List.mem_of_getElem? (i := 1339) (by decide +kernel)⟩
theorem lw_p71 : lw_okq (⟨"RefactoringReplayModel", "replays", "(IZ)I"⟩, 25) := ⟨⟨by decide +kernel, by decide +kernel⟩, List.mem_of_getElem? (i := 961) (by decide +kernel), List.mem_of_getElem? (i := 1342) (by decide +kernel), List.mem_of_getElem? (i := 1343) (by decide +kernel)⟩
theorem lw_p72 : lw_okq (⟨"RefactoringReplayModel", "tries", "(IZ)I"⟩, 25) := ⟨⟨by decide +kernel, by decide +kernel⟩, List.mem_of_getElem? (i := 961) (by decide +kernel), List.mem_of_getElem? (i := 1346) (by decide +kernel), List.mem_of_getElem? (i := 1347) (by decide +kernel)⟩
theorem lw_p73 : lw_okq (⟨"RefactoringReplayModel", "means", "(I)Z"⟩, 25) := ⟨⟨by decide +kernel, by decide +kernel⟩, List.mem_of_getElem? (i := 961) (by decide +kernel), List.mem_of_getElem? (i := 1350) (by decide +kernel), List.mem_of_getElem? (i := 1351) (by decide +kernel)⟩
theorem lw_p74 : lw_okq (⟨"RefactoringReplayModel", "nameFor", "(I)I"⟩, 25) := ⟨⟨by decide +kernel, by decide +kernel⟩, List.mem_of_getElem? (i := 961) (by decide +kernel), List.mem_of_getElem? (i := 1354) (by decide +kernel), List.mem_of_getElem? (i := 1355) (by decide +kernel)⟩
theorem lw_p75 : lw_okq (⟨"RefactoringReplayModel", "memberFor", "(II)I"⟩, 25) := ⟨⟨by decide +kernel, by decide +kernel⟩, List.mem_of_getElem? (i := 961) (by decide +kernel), List.mem_of_getElem? (i := 1358) (by decide +kernel), List.mem_of_getElem? (i := 1359) (by decide +kernel)⟩
theorem lw_p76 : lw_okq (⟨"RefactoringReplayModel", "counts", "(II)Z"⟩, 25) := ⟨⟨by decide +kernel, by decide +kernel⟩, List.mem_of_getElem? (i := 961) (by decide +kernel), List.mem_of_getElem? (i := 1362) (by decide +kernel), List.mem_of_getElem? (i := 1363) (by decide +kernel)⟩
theorem lw_p77 : lw_okq (⟨"RefactoringReplayModel", "mends", "(II)I"⟩, 25) := ⟨⟨by decide +kernel, by decide +kernel⟩, List.mem_of_getElem? (i := 961) (by decide +kernel), List.mem_of_getElem? (i := 1366) (by decide +kernel), List.mem_of_getElem? (i := 1367) (by decide +kernel)⟩
theorem lw_p78 : lw_okq (⟨"RefactoringReplayModel", "goesOn", "(II)V"⟩, 25) := ⟨⟨by decide +kernel, by decide +kernel⟩, List.mem_of_getElem? (i := 961) (by decide +kernel), List.mem_of_getElem? (i := 1373) (by decide +kernel), List.mem_of_getElem? (i := 1374) (by decide +kernel)⟩
def lw_privs_5 : List (MethodName × Nat) := [(⟨"RefactoringReplayModel", "exchanges", "([II)V"⟩, 25), (⟨"RefactoringReplayModel", "needsOf", "(I)I"⟩, 25), (⟨"RefactoringReplayModel", "matches", "([I)V"⟩, 25), (⟨"RefactoringReplayModel", "likest", "(I[I)I"⟩, 25), (⟨"RefactoringReplayModel", "isMatched", "([III)Z"⟩, 25), (⟨"RefactoringReplayModel", "lonely", "([II)I"⟩, 25), (⟨"RefactoringReplayModel", "isSelection", "(I)Z"⟩, 25), (⟨"RefactoringReplayModel", "replays", "(IZ)I"⟩, 25), (⟨"RefactoringReplayModel", "tries", "(IZ)I"⟩, 25), (⟨"RefactoringReplayModel", "means", "(I)Z"⟩, 25), (⟨"RefactoringReplayModel", "nameFor", "(I)I"⟩, 25), (⟨"RefactoringReplayModel", "memberFor", "(II)I"⟩, 25), (⟨"RefactoringReplayModel", "counts", "(II)Z"⟩, 25), (⟨"RefactoringReplayModel", "mends", "(II)I"⟩, 25), (⟨"RefactoringReplayModel", "goesOn", "(II)V"⟩, 25)]
theorem lw_r5 : ∀ q ∈ lw_privs_5, lw_okq q := List.forall_mem_cons.mpr ⟨lw_p64, List.forall_mem_cons.mpr ⟨lw_p65, List.forall_mem_cons.mpr ⟨lw_p66, List.forall_mem_cons.mpr ⟨lw_p67, List.forall_mem_cons.mpr ⟨lw_p68, List.forall_mem_cons.mpr ⟨lw_p69, List.forall_mem_cons.mpr ⟨lw_p70, List.forall_mem_cons.mpr ⟨lw_p71, List.forall_mem_cons.mpr ⟨lw_p72, List.forall_mem_cons.mpr ⟨lw_p73, List.forall_mem_cons.mpr ⟨lw_p74, List.forall_mem_cons.mpr ⟨lw_p75, List.forall_mem_cons.mpr ⟨lw_p76, List.forall_mem_cons.mpr ⟨lw_p77, List.forall_mem_cons.mpr ⟨lw_p78, fun _ h => absurd h List.not_mem_nil⟩⟩⟩⟩⟩⟩⟩⟩⟩⟩⟩⟩⟩⟩⟩
def lw_privs : List (MethodName × Nat) := lw_privs_1 ++ (lw_privs_2 ++ (lw_privs_3 ++ (lw_privs_4 ++ (lw_privs_5))))
def lw_tbl : List Cond := k2_sels lw_privs ++ tables_1
theorem lw_privs_ok : ∀ q ∈ lw_privs, lw_okq q := by
  show ∀ q ∈ lw_privs_1 ++ (lw_privs_2 ++ (lw_privs_3 ++ (lw_privs_4 ++ (lw_privs_5)))), lw_okq q
  exact List.forall_mem_append.mpr ⟨lw_r1, List.forall_mem_append.mpr ⟨lw_r2, List.forall_mem_append.mpr ⟨lw_r3, List.forall_mem_append.mpr ⟨lw_r4, lw_r5⟩⟩⟩⟩
end
section
def RX0 : String := "RefactoringReplay$Change"
def TX0 : u_T := fun k => match k with
  | 0 => ("RefactoringReplay$Change", "kind", "I", false)
  | 1 => ("RefactoringReplay$Change", "a", "I", false)
  | 2 => ("RefactoringReplay$Change", "m", "I", false)
  | 3 => ("RefactoringReplay$Change", "b", "I", false)
  | _ => ("RefactoringReplay$Change", "n", "I", false)
def tyX0 : Nat → FieldType := fun k => match k with
  | 0 => .int
  | 1 => .int
  | 2 => .int
  | 3 => .int
  | _ => .int
def RX1 : String := "RefactoringReplay$ChangeList"
def TX1 : u_T := fun k => match k with
  | 0 => ("RefactoringReplay$ChangeList", "rows", "[LRefactoringReplay$Change;", true)
  | _ => ("RefactoringReplay$ChangeList", "count", "I", false)
def tyX1 : Nat → FieldType := fun k => match k with
  | 0 => .array (.object "RefactoringReplay$Change")
  | _ => .int
def RX2 : String := "RefactoringReplay$Commuting"
def TX2 : u_T := fun k => match k with
  | 0 => ("RefactoringReplay$Commuting", "walk", "LRefactoringReplay$Program;", true)
  | 1 => ("RefactoringReplay$Commuting", "straight", "LRefactoringReplay$Program;", true)
  | 2 => ("RefactoringReplay$Commuting", "crossed", "LRefactoringReplay$Program;", true)
  | 3 => ("RefactoringReplay$Commuting", "early", "LRefactoringReplay$Change;", true)
  | 4 => ("RefactoringReplay$Commuting", "late", "LRefactoringReplay$Change;", true)
  | 5 => ("RefactoringReplay$Commuting", "settled", "LRefactoringReplay$ChangeList;", true)
  | _ => ("RefactoringReplay$Commuting", "tried", "LRefactoringReplay$ChangeList;", true)
def tyX2 : Nat → FieldType := fun k => match k with
  | 0 => .object "RefactoringReplay$Program"
  | 1 => .object "RefactoringReplay$Program"
  | 2 => .object "RefactoringReplay$Program"
  | 3 => .object "RefactoringReplay$Change"
  | 4 => .object "RefactoringReplay$Change"
  | 5 => .object "RefactoringReplay$ChangeList"
  | _ => .object "RefactoringReplay$ChangeList"
def RX3 : String := "RefactoringReplay$Matching"
def TX3 : u_T := fun k => match k with
  | 0 => ("RefactoringReplay$Matching", "classTo", "[I", true)
  | 1 => ("RefactoringReplay$Matching", "classFrom", "[I", true)
  | 2 => ("RefactoringReplay$Matching", "memberTo", "[I", true)
  | _ => ("RefactoringReplay$Matching", "memberFrom", "[I", true)
def tyX3 : Nat → FieldType := fun k => match k with
  | 0 => .array .int
  | 1 => .array .int
  | 2 => .array .int
  | _ => .array .int
def RX4 : String := "RefactoringReplay$Program"
def TX4 : u_T := fun k => match k with
  | 0 => ("RefactoringReplay$Program", "classNames", "[I", true)
  | 1 => ("RefactoringReplay$Program", "supers", "[I", true)
  | 2 => ("RefactoringReplay$Program", "above", "[I", true)
  | 3 => ("RefactoringReplay$Program", "memberNames", "[I", true)
  | 4 => ("RefactoringReplay$Program", "owners", "[I", true)
  | _ => ("RefactoringReplay$Program", "used", "[J", true)
def tyX4 : Nat → FieldType := fun k => match k with
  | 0 => .array .int
  | 1 => .array .int
  | 2 => .array .int
  | 3 => .array .int
  | 4 => .array .int
  | _ => .array .long
def RX5 : String := "RefactoringReplay$Replayer"
def TX5 : u_T := fun k => match k with
  | 0 => ("RefactoringReplay$Replayer", "shadow", "LRefactoringReplay$Program;", true)
  | 1 => ("RefactoringReplay$Replayer", "pairs", "LRefactoringReplay$Matching;", true)
  | 2 => ("RefactoringReplay$Replayer", "plan", "LRefactoringReplay$Change;", true)
  | _ => ("RefactoringReplay$Replayer", "outcomes", "[I", true)
def tyX5 : Nat → FieldType := fun k => match k with
  | 0 => .object "RefactoringReplay$Program"
  | 1 => .object "RefactoringReplay$Matching"
  | 2 => .object "RefactoringReplay$Change"
  | _ => .array .int
def RX6 : String := "RefactoringReplay"
def TX6 : u_T := fun k => match k with
  | 0 => ("RefactoringReplay", "base", "LRefactoringReplay$Program;", true)
  | 1 => ("RefactoringReplay", "zero", "LRefactoringReplay$Program;", true)
  | 2 => ("RefactoringReplay", "one", "LRefactoringReplay$Program;", true)
  | 3 => ("RefactoringReplay", "trial", "LRefactoringReplay$Program;", true)
  | 4 => ("RefactoringReplay", "changes", "LRefactoringReplay$ChangeList;", true)
  | 5 => ("RefactoringReplay", "wanted", "LRefactoringReplay$Change;", true)
  | 6 => ("RefactoringReplay", "commuting", "LRefactoringReplay$Commuting;", true)
  | 7 => ("RefactoringReplay", "matching", "LRefactoringReplay$Matching;", true)
  | 8 => ("RefactoringReplay", "replayer", "LRefactoringReplay$Replayer;", true)
  | 9 => ("RefactoringReplay", "outcomes", "[I", true)
  | _ => ("RefactoringReplay", "outcomeCount", "I", false)
def tyX6 : Nat → FieldType := fun k => match k with
  | 0 => .object "RefactoringReplay$Program"
  | 1 => .object "RefactoringReplay$Program"
  | 2 => .object "RefactoringReplay$Program"
  | 3 => .object "RefactoringReplay$Program"
  | 4 => .object "RefactoringReplay$ChangeList"
  | 5 => .object "RefactoringReplay$Change"
  | 6 => .object "RefactoringReplay$Commuting"
  | 7 => .object "RefactoringReplay$Matching"
  | 8 => .object "RefactoringReplay$Replayer"
  | 9 => .array .int
  | _ => .int
def RX7 : String := "RefactoringReplayModel"
def TX7 : u_T := fun k => match k with
  | 0 => ("RefactoringReplayModel", "first", "[I", true)
  | 1 => ("RefactoringReplayModel", "second", "[I", true)
  | 2 => ("RefactoringReplayModel", "base", "[I", true)
  | 3 => ("RefactoringReplayModel", "at", "[I", true)
  | 4 => ("RefactoringReplayModel", "here", "[I", true)
  | 5 => ("RefactoringReplayModel", "there", "[I", true)
  | 6 => ("RefactoringReplayModel", "log", "[I", true)
  | 7 => ("RefactoringReplayModel", "taken", "[I", true)
  | 8 => ("RefactoringReplayModel", "logged", "I", false)
  | 9 => ("RefactoringReplayModel", "thrown", "I", false)
  | 10 => ("RefactoringReplayModel", "added", "I", false)
  | 11 => ("RefactoringReplayModel", "back", "[I", true)
  | 12 => ("RefactoringReplayModel", "forth", "[I", true)
  | 13 => ("RefactoringReplayModel", "tried", "[I", true)
  | 14 => ("RefactoringReplayModel", "classMatch", "[I", true)
  | 15 => ("RefactoringReplayModel", "memberMatch", "[I", true)
  | 16 => ("RefactoringReplayModel", "moving", "[I", true)
  | 17 => ("RefactoringReplayModel", "target", "[I", true)
  | 18 => ("RefactoringReplayModel", "outcomes", "[I", true)
  | 19 => ("RefactoringReplayModel", "latest", "[I", true)
  | 20 => ("RefactoringReplayModel", "latestMany", "I", false)
  | 21 => ("RefactoringReplayModel", "toA", "I", false)
  | 22 => ("RefactoringReplayModel", "toM", "I", false)
  | 23 => ("RefactoringReplayModel", "toB", "I", false)
  | _ => ("RefactoringReplayModel", "toN", "I", false)
def tyX7 : Nat → FieldType := fun k => match k with
  | 0 => .array .int
  | 1 => .array .int
  | 2 => .array .int
  | 3 => .array .int
  | 4 => .array .int
  | 5 => .array .int
  | 6 => .array .int
  | 7 => .array .int
  | 8 => .int
  | 9 => .int
  | 10 => .int
  | 11 => .array .int
  | 12 => .array .int
  | 13 => .array .int
  | 14 => .array .int
  | 15 => .array .int
  | 16 => .array .int
  | 17 => .array .int
  | 18 => .array .int
  | 19 => .array .int
  | 20 => .int
  | 21 => .int
  | 22 => .int
  | 23 => .int
  | _ => .int
abbrev zm_cl : List vw_C := [(RX0, TX0, 5), (RX1, TX1, 2), (RX2, TX2, 7), (RX3, TX3, 4), (RX4, TX4, 6), (RX5, TX5, 4), (RX6, TX6, 11), (RX7, TX7, 25)]
/-- class names by their numbers -/
def zm_cn : Nat → String := fun k => match k with
  | 0 => RX0
  | 1 => RX1
  | 2 => RX2
  | 3 => RX3
  | 4 => RX4
  | 5 => RX5
  | 6 => RX6
  | 7 => RX7
  | 8 => "RefactoringReplayLaw"
  | 9 => "java/util/Arrays"
  | 10 => "java/lang/Long"
  | 11 => "java/lang/Integer"
  | _ => "java/lang/Math"
def zm_T : Nat → u_T := fun k => match k with
  | 0 => TX0
  | 1 => TX1
  | 2 => TX2
  | 3 => TX3
  | 4 => TX4
  | 5 => TX5
  | 6 => TX6
  | _ => TX7
def zm_N : Nat → Nat := fun k => match k with
  | 0 => 5
  | 1 => 2
  | 2 => 7
  | 3 => 4
  | 4 => 6
  | 5 => 4
  | 6 => 11
  | _ => 25
def zm_ty : Nat → Nat → FieldType := fun k => match k with
  | 0 => tyX0
  | 1 => tyX1
  | 2 => tyX2
  | 3 => tyX3
  | 4 => tyX4
  | 5 => tyX5
  | 6 => tyX6
  | _ => tyX7
/-- methods by their numbers -/
abbrev y_Arrays_fill : Nat := 0
abbrev y_Prog_init : Nat := 1
abbrev y_Change_init : Nat := 2
abbrev y_List_init : Nat := 3
abbrev y_Comm_init : Nat := 4
abbrev y_Match_init : Nat := 5
abbrev y_Repl_init : Nat := 6
abbrev y_RR_init : Nat := 7
abbrev y_Mod_init : Nat := 8
abbrev y_RR_programOf : Nat := 9
abbrev y_Change_set : Nat := 10
abbrev y_RR_isClassName : Nat := 11
abbrev y_RR_isMemberName : Nat := 12
abbrev y_Change_hasTwoMembers : Nat := 13
abbrev y_Change_hasLegalNames : Nat := 14
abbrev y_Prog_classAt : Nat := 15
abbrev y_Prog_freeSlot : Nat := 16
abbrev y_Prog_putClass : Nat := 17
abbrev y_Prog_namesIn : Nat := 18
abbrev y_Prog_below : Nat := 19
abbrev y_Prog_dropClass : Nat := 20
abbrev y_Prog_giveClassName : Nat := 21
abbrev y_Prog_traceAncestors : Nat := 22
abbrev y_Prog_giveSuper : Nat := 23
abbrev y_Prog_holds : Nat := 24
abbrev y_Prog_line : Nat := 25
abbrev y_Prog_putMember : Nat := 26
abbrev y_Prog_memberIn : Nat := 27
abbrev y_Prog_memberAt : Nat := 28
abbrev y_Prog_isUse : Nat := 29
abbrev y_Prog_usersOf : Nat := 30
abbrev y_Prog_dropMember : Nat := 31
abbrev y_Prog_giveMemberName : Nat := 32
abbrev y_Prog_giveOwner : Nat := 33
abbrev y_Long_bitCount : Nat := 34
abbrev y_Prog_useCount : Nat := 35
abbrev y_Prog_putUse : Nat := 36
abbrev y_Prog_dropUse : Nat := 37
abbrev y_Prog_attempt : Nat := 38
abbrev y_Change_copyFrom : Nat := 39
abbrev y_List_append : Nat := 40
abbrev y_RR_change : Nat := 41
abbrev y_RR_addClass : Nat := 42
abbrev y_Law_addClass : Nat := 43
abbrev y_Mod_in : Nat := 44
abbrev y_Mod_isClassName : Nat := 45
abbrev y_Mod_classAt : Nat := 46
abbrev y_Mod_countOf : Nat := 47
abbrev y_Mod_freeAt : Nat := 48
abbrev y_Mod_addsClass : Nat := 49
abbrev y_Mod_removesClass : Nat := 50
abbrev y_Mod_renamesClass : Nat := 51
abbrev y_Mod_isUnder : Nat := 52
abbrev y_Mod_setsSuper : Nat := 53
abbrev y_Mod_memberAt : Nat := 54
abbrev y_Mod_areKin : Nat := 55
abbrev y_Mod_isTaken : Nat := 56
abbrev y_Mod_addsMember : Nat := 57
abbrev y_Mod_removesMember : Nat := 58
abbrev y_Mod_renamesMember : Nat := 59
abbrev y_Mod_movesMember : Nat := 60
abbrev y_Mod_memberOf : Nat := 61
abbrev y_Mod_addsUse : Nat := 62
abbrev y_Mod_removesUse : Nat := 63
abbrev y_Mod_makes : Nat := 64
abbrev y_Mod_changes : Nat := 65
abbrev y_Mod_addClass : Nat := 66
abbrev y_Mod_thrown : Nat := 67
abbrev y_RR_removeClass : Nat := 68
abbrev y_Law_removeClass : Nat := 69
abbrev y_Mod_removeClass : Nat := 70
abbrev y_RR_renameClass : Nat := 71
abbrev y_Law_renameClass : Nat := 72
abbrev y_Mod_renameClass : Nat := 73
abbrev y_RR_setSuper : Nat := 74
abbrev y_Law_setSuper : Nat := 75
abbrev y_Mod_setSuper : Nat := 76
abbrev y_RR_addMember : Nat := 77
abbrev y_Law_addMember : Nat := 78
abbrev y_Mod_isMemberName : Nat := 79
abbrev y_Mod_addMember : Nat := 80
abbrev y_RR_removeMember : Nat := 81
abbrev y_Law_removeMember : Nat := 82
abbrev y_Mod_removeMember : Nat := 83
abbrev y_RR_renameMember : Nat := 84
abbrev y_Law_renameMember : Nat := 85
abbrev y_Mod_renameMember : Nat := 86
abbrev y_RR_moveMember : Nat := 87
abbrev y_Law_moveMember : Nat := 88
abbrev y_Mod_moveMember : Nat := 89
abbrev y_RR_addUse : Nat := 90
abbrev y_Law_addUse : Nat := 91
abbrev y_Mod_areFour : Nat := 92
abbrev y_Mod_addUse : Nat := 93
abbrev y_RR_removeUse : Nat := 94
abbrev y_Law_removeUse : Nat := 95
abbrev y_Mod_removeUse : Nat := 96
abbrev y_Prog_classCount : Nat := 97
abbrev y_RR_classes : Nat := 98
abbrev y_Law_classes : Nat := 99
abbrev y_Mod_lacksVersion : Nat := 100
abbrev y_Mod_copies : Nat := 101
abbrev y_Mod_looks : Nat := 102
abbrev y_Mod_classes : Nat := 103
abbrev y_Prog_nameByOrder : Nat := 104
abbrev y_RR_className : Nat := 105
abbrev y_Law_className : Nat := 106
abbrev y_Mod_ordered : Nat := 107
abbrev y_Mod_fails : Nat := 108
abbrev y_Mod_className : Nat := 109
abbrev y_RR_requireClassName : Nat := 110
abbrev y_Prog_superNameOf : Nat := 111
abbrev y_RR_superOf : Nat := 112
abbrev y_Law_superOf : Nat := 113
abbrev y_Mod_isWrong : Nat := 114
abbrev y_Mod_nameOfSuper : Nat := 115
abbrev y_Mod_superOf : Nat := 116
abbrev y_RR_members : Nat := 117
abbrev y_Law_members : Nat := 118
abbrev y_Mod_membersOf : Nat := 119
abbrev y_Mod_members : Nat := 120
abbrev y_RR_uses : Nat := 121
abbrev y_Law_uses : Nat := 122
abbrev y_Mod_uses : Nat := 123
abbrev y_RR_requireMemberName : Nat := 124
abbrev y_RR_hasUse : Nat := 125
abbrev y_Law_hasUse : Nat := 126
abbrev y_Mod_hasUse : Nat := 127
abbrev y_Prog_copyFrom : Nat := 128
abbrev y_RR_copyVersion : Nat := 129
abbrev y_Mod_copyVersion : Nat := 130
abbrev y_Prog_memberCount : Nat := 131
abbrev y_Prog_hasClassesIn : Nat := 132
abbrev y_Prog_ownerNameOf : Nat := 133
abbrev y_Prog_twinOf : Nat := 134
abbrev y_Prog_hasMembersIn : Nat := 135
abbrev y_Prog_hasUsesIn : Nat := 136
abbrev y_Prog_isSameAs : Nat := 137
abbrev y_RR_areSame : Nat := 138
abbrev y_Mod_twin : Nat := 139
abbrev y_Mod_isPart : Nat := 140
abbrev y_Mod_areOne : Nat := 141
abbrev y_Mod_areSame : Nat := 142
abbrev y_RR_log : Nat := 143
abbrev y_Mod_log : Nat := 144
abbrev y_RR_requireChange : Nat := 145
abbrev y_List_at : Nat := 146
abbrev y_RR_kindOf : Nat := 147
abbrev y_Law_kindOf : Nat := 148
abbrev y_Mod_kindOf : Nat := 149
abbrev y_RR_nameOf : Nat := 150
abbrev y_Law_nameOf : Nat := 151
abbrev y_Mod_nameOf : Nat := 152
abbrev y_RR_clearLog : Nat := 153
abbrev y_Mod_clearLog : Nat := 154
abbrev y_Prog_makeFirst : Nat := 155
abbrev y_RR_undo : Nat := 156
abbrev y_Law_undo : Nat := 157
abbrev y_Mod_makesOf : Nat := 158
abbrev y_Mod_goesTo : Nat := 159
abbrev y_Mod_undo : Nat := 160
abbrev y_RR_requireNeighbours : Nat := 161
abbrev y_Change_replaceClass : Nat := 162
abbrev y_Change_replaceMember : Nat := 163
abbrev y_Change_carryBack : Nat := 164
abbrev y_Change_carryForward : Nat := 165
abbrev y_Comm_test : Nat := 166
abbrev y_Comm_testAt : Nat := 167
abbrev y_RR_commutes : Nat := 168
abbrev y_Law_commutes : Nat := 169
abbrev y_Mod_renames : Nat := 170
abbrev y_Mod_hasMember : Nat := 171
abbrev y_Mod_renamesPair : Nat := 172
abbrev y_Mod_carries : Nat := 173
abbrev y_Mod_commute : Nat := 174
abbrev y_Mod_commutes : Nat := 175
abbrev y_Comm_storeAt : Nat := 176
abbrev y_RR_exchange : Nat := 177
abbrev y_Law_exchange : Nat := 178
abbrev y_Mod_exchanges : Nat := 179
abbrev y_Mod_exchange : Nat := 180
abbrev y_List_copyFrom : Nat := 181
abbrev y_Comm_movesBehind : Nat := 182
abbrev y_Comm_needsOf : Nat := 183
abbrev y_RR_needs : Nat := 184
abbrev y_Law_needs : Nat := 185
abbrev y_Mod_copiesLog : Nat := 186
abbrev y_Mod_needsOf : Nat := 187
abbrev y_Mod_needs : Nat := 188
abbrev y_Match_joinClasses : Nat := 189
abbrev y_Match_joinClassesByName : Nat := 190
abbrev y_Integer_bitCount : Nat := 191
abbrev y_Match_closestTo : Nat := 192
abbrev y_Match_joinClassesByMembers : Nat := 193
abbrev y_Match_joinMembers : Nat := 194
abbrev y_Match_joinMembersOfClasses : Nat := 195
abbrev y_Match_onlyFree : Nat := 196
abbrev y_Match_joinLoneMembers : Nat := 197
abbrev y_Match_find : Nat := 198
abbrev y_RR_matchOfClass : Nat := 199
abbrev y_Law_matchOfClass : Nat := 200
abbrev y_Mod_isMatched : Nat := 201
abbrev y_Mod_bits : Nat := 202
abbrev y_Mod_likest : Nat := 203
abbrev y_Mod_lonely : Nat := 204
abbrev y_Mod_matches : Nat := 205
abbrev y_Mod_matchOfClass : Nat := 206
abbrev y_RR_matchOfMember : Nat := 207
abbrev y_Law_matchOfMember : Nat := 208
abbrev y_Mod_matchOfMember : Nat := 209
abbrev y_RR_requireSelection : Nat := 210
abbrev y_Repl_classNameOf : Nat := 211
abbrev y_Repl_memberPartner : Nat := 212
abbrev y_Repl_translateUser : Nat := 213
abbrev y_Repl_translateUsed : Nat := 214
abbrev y_Repl_translate : Nat := 215
abbrev y_Repl_countsAsMade : Nat := 216
abbrev y_Repl_isTaken : Nat := 217
abbrev y_Repl_isMendable : Nat := 218
abbrev y_Change_advanceNewName : Nat := 219
abbrev y_Repl_tryOtherNames : Nat := 220
abbrev y_Repl_tryPlan : Nat := 221
abbrev y_Match_partClass : Nat := 222
abbrev y_Match_partMember : Nat := 223
abbrev y_Repl_follow : Nat := 224
abbrev y_Repl_run : Nat := 225
abbrev y_RR_replay : Nat := 226
abbrev y_Law_replay : Nat := 227
abbrev y_Mod_isSelection : Nat := 228
abbrev y_Mod_nameFor : Nat := 229
abbrev y_Mod_memberFor : Nat := 230
abbrev y_Mod_means : Nat := 231
abbrev y_Mod_counts : Nat := 232
abbrev y_Mod_nextLetter : Nat := 233
abbrev y_Mod_mends : Nat := 234
abbrev y_Mod_tries : Nat := 235
abbrev y_Mod_goesOn : Nat := 236
abbrev y_Mod_replays : Nat := 237
abbrev y_Mod_replay : Nat := 238
abbrev y_RR_forecast : Nat := 239
abbrev y_Law_forecast : Nat := 240
abbrev y_Mod_forecast : Nat := 241
abbrev y_RR_outcome : Nat := 242
abbrev y_Law_outcome : Nat := 243
abbrev y_Mod_outcome : Nat := 244
abbrev y_RR_blendMembers : Nat := 245
abbrev y_RR_blend : Nat := 246
abbrev y_RR_fingerprint : Nat := 247
abbrev y_Mod_mixes : Nat := 248
abbrev y_Mod_fingerprint : Nat := 249
abbrev y_Law_law : Nat := 250
/-- name, descriptor, class, level, kind (0 static, 1 instance, 2 constructor, 3 static with a table, 9 the law), number of parameters -/
abbrev zm_D : Type := String × String × Nat × Nat × Nat × Nat
def zm_md (y : Nat) : zm_D := cond (Nat.blt y 125) (cond (Nat.blt y 62) (cond (Nat.blt y 31) (cond (Nat.blt y 15) (cond (Nat.blt y 7) (cond (Nat.blt y 3) (cond (Nat.blt y 1) (("fill", "([II)V", 9, 1, 0, 2)) (cond (Nat.blt y 2) (("<init>", "()V", 4, 2, 2, 0)) (("<init>", "()V", 0, 1, 2, 0)))) (cond (Nat.blt y 5) (cond (Nat.blt y 4) (("<init>", "()V", 1, 2, 2, 0)) (("<init>", "()V", 2, 3, 2, 0))) (cond (Nat.blt y 6) (("<init>", "()V", 3, 1, 2, 0)) (("<init>", "()V", 5, 3, 2, 0))))) (cond (Nat.blt y 11) (cond (Nat.blt y 9) (cond (Nat.blt y 8) (("<init>", "()V", 6, 4, 2, 0)) (("<init>", "()V", 7, 1, 2, 0))) (cond (Nat.blt y 10) (("programOf", "(I)LRefactoringReplay$Program;", 6, 6, 1, 1)) (("set", "(IIIII)V", 0, 1, 1, 5)))) (cond (Nat.blt y 13) (cond (Nat.blt y 12) (("isClassName", "(I)Z", 6, 1, 0, 1)) (("isMemberName", "(I)Z", 6, 1, 0, 1))) (cond (Nat.blt y 14) (("hasTwoMembers", "()Z", 0, 1, 1, 0)) (("hasLegalNames", "()Z", 0, 2, 1, 0)))))) (cond (Nat.blt y 23) (cond (Nat.blt y 19) (cond (Nat.blt y 17) (cond (Nat.blt y 16) (("classAt", "(I)I", 4, 1, 1, 1)) (("freeSlot", "([I)I", 4, 1, 0, 1))) (cond (Nat.blt y 18) (("putClass", "(I)I", 4, 2, 1, 1)) (("namesIn", "(I)I", 4, 1, 1, 1)))) (cond (Nat.blt y 21) (cond (Nat.blt y 20) (("below", "(I)I", 4, 1, 1, 1)) (("dropClass", "(I)I", 4, 2, 1, 1))) (cond (Nat.blt y 22) (("giveClassName", "(II)I", 4, 2, 1, 2)) (("traceAncestors", "()V", 4, 1, 1, 0))))) (cond (Nat.blt y 27) (cond (Nat.blt y 25) (cond (Nat.blt y 24) (("giveSuper", "(II)I", 4, 2, 1, 2)) (("holds", "(III)Z", 4, 1, 1, 3))) (cond (Nat.blt y 26) (("line", "(I)I", 4, 2, 1, 1)) (("putMember", "(II)I", 4, 3, 1, 2)))) (cond (Nat.blt y 29) (cond (Nat.blt y 28) (("memberIn", "(II)I", 4, 1, 1, 2)) (("memberAt", "(II)I", 4, 2, 1, 2))) (cond (Nat.blt y 30) (("isUse", "(II)Z", 4, 1, 1, 2)) (("usersOf", "(I)I", 4, 1, 1, 1))))))) (cond (Nat.blt y 46) (cond (Nat.blt y 38) (cond (Nat.blt y 34) (cond (Nat.blt y 32) (("dropMember", "(II)I", 4, 3, 1, 2)) (cond (Nat.blt y 33) (("giveMemberName", "(III)I", 4, 3, 1, 3)) (("giveOwner", "(III)I", 4, 3, 1, 3)))) (cond (Nat.blt y 36) (cond (Nat.blt y 35) (("bitCount", "(J)I", 10, 1, 0, 1)) (("useCount", "()I", 4, 2, 1, 0))) (cond (Nat.blt y 37) (("putUse", "(II)I", 4, 3, 1, 2)) (("dropUse", "(II)I", 4, 2, 1, 2))))) (cond (Nat.blt y 42) (cond (Nat.blt y 40) (cond (Nat.blt y 39) (("attempt", "(LRefactoringReplay$Change;)I", 4, 4, 1, 1)) (("copyFrom", "(LRefactoringReplay$Change;)V", 0, 2, 1, 1))) (cond (Nat.blt y 41) (("append", "(LRefactoringReplay$Change;)V", 1, 3, 1, 1)) (("change", "(IIIIII)I", 6, 7, 1, 6)))) (cond (Nat.blt y 44) (cond (Nat.blt y 43) (("addClass", "(II)I", 6, 8, 1, 2)) (("addClass", "(LRefactoringReplay;II[J)I", 8, 9, 3, 4))) (cond (Nat.blt y 45) (("in", "(III)Z", 7, 1, 0, 3)) (("isClassName", "(I)Z", 7, 2, 0, 1)))))) (cond (Nat.blt y 54) (cond (Nat.blt y 50) (cond (Nat.blt y 48) (cond (Nat.blt y 47) (("classAt", "([II)I", 7, 1, 0, 2)) (("countOf", "([III)I", 7, 1, 0, 3))) (cond (Nat.blt y 49) (("freeAt", "([II)I", 7, 1, 0, 2)) (("addsClass", "([III)I", 7, 2, 1, 3)))) (cond (Nat.blt y 52) (cond (Nat.blt y 51) (("removesClass", "([II)I", 7, 1, 1, 2)) (("renamesClass", "([III)I", 7, 2, 1, 3))) (cond (Nat.blt y 53) (("isUnder", "([III)Z", 7, 1, 0, 3)) (("setsSuper", "([III)I", 7, 2, 1, 3))))) (cond (Nat.blt y 58) (cond (Nat.blt y 56) (cond (Nat.blt y 55) (("memberAt", "([III)I", 7, 1, 0, 3)) (("areKin", "([III)Z", 7, 2, 0, 3))) (cond (Nat.blt y 57) (("isTaken", "([IIII)Z", 7, 3, 0, 4)) (("addsMember", "([III)I", 7, 4, 1, 3)))) (cond (Nat.blt y 60) (cond (Nat.blt y 59) (("removesMember", "([II)I", 7, 1, 1, 2)) (("renamesMember", "([IIII)I", 7, 4, 1, 4))) (cond (Nat.blt y 61) (("movesMember", "([IIII)I", 7, 4, 1, 4)) (("memberOf", "([III)I", 7, 2, 0, 3)))))))) (cond (Nat.blt y 93) (cond (Nat.blt y 77) (cond (Nat.blt y 69) (cond (Nat.blt y 65) (cond (Nat.blt y 63) (("addsUse", "([III)I", 7, 2, 1, 3)) (cond (Nat.blt y 64) (("removesUse", "([III)I", 7, 1, 1, 3)) (("makes", "([IIIIII)I", 7, 5, 1, 6)))) (cond (Nat.blt y 67) (cond (Nat.blt y 66) (("changes", "(IIIIIIZ)I", 7, 6, 1, 7)) (("addClass", "(II)I", 7, 7, 1, 2))) (cond (Nat.blt y 68) (("thrown", "()I", 7, 1, 1, 0)) (("removeClass", "(II)I", 6, 8, 1, 2))))) (cond (Nat.blt y 73) (cond (Nat.blt y 71) (cond (Nat.blt y 70) (("removeClass", "(LRefactoringReplay;II[J)I", 8, 9, 3, 4)) (("removeClass", "(II)I", 7, 7, 1, 2))) (cond (Nat.blt y 72) (("renameClass", "(III)I", 6, 8, 1, 3)) (("renameClass", "(LRefactoringReplay;III[J)I", 8, 9, 3, 5)))) (cond (Nat.blt y 75) (cond (Nat.blt y 74) (("renameClass", "(III)I", 7, 7, 1, 3)) (("setSuper", "(III)I", 6, 8, 1, 3))) (cond (Nat.blt y 76) (("setSuper", "(LRefactoringReplay;III[J)I", 8, 9, 3, 5)) (("setSuper", "(III)I", 7, 7, 1, 3)))))) (cond (Nat.blt y 85) (cond (Nat.blt y 81) (cond (Nat.blt y 79) (cond (Nat.blt y 78) (("addMember", "(III)I", 6, 8, 1, 3)) (("addMember", "(LRefactoringReplay;III[J)I", 8, 9, 3, 5))) (cond (Nat.blt y 80) (("isMemberName", "(I)Z", 7, 2, 0, 1)) (("addMember", "(III)I", 7, 7, 1, 3)))) (cond (Nat.blt y 83) (cond (Nat.blt y 82) (("removeMember", "(III)I", 6, 8, 1, 3)) (("removeMember", "(LRefactoringReplay;III[J)I", 8, 9, 3, 5))) (cond (Nat.blt y 84) (("removeMember", "(III)I", 7, 7, 1, 3)) (("renameMember", "(IIII)I", 6, 8, 1, 4))))) (cond (Nat.blt y 89) (cond (Nat.blt y 87) (cond (Nat.blt y 86) (("renameMember", "(LRefactoringReplay;IIII[J)I", 8, 9, 3, 6)) (("renameMember", "(IIII)I", 7, 7, 1, 4))) (cond (Nat.blt y 88) (("moveMember", "(IIII)I", 6, 8, 1, 4)) (("moveMember", "(LRefactoringReplay;IIII[J)I", 8, 9, 3, 6)))) (cond (Nat.blt y 91) (cond (Nat.blt y 90) (("moveMember", "(IIII)I", 7, 7, 1, 4)) (("addUse", "(IIIII)I", 6, 8, 1, 5))) (cond (Nat.blt y 92) (("addUse", "(LRefactoringReplay;IIIII[J)I", 8, 9, 3, 7)) (("areFour", "(IIII)Z", 7, 3, 0, 4))))))) (cond (Nat.blt y 109) (cond (Nat.blt y 101) (cond (Nat.blt y 97) (cond (Nat.blt y 95) (cond (Nat.blt y 94) (("addUse", "(IIIII)I", 7, 7, 1, 5)) (("removeUse", "(IIIII)I", 6, 8, 1, 5))) (cond (Nat.blt y 96) (("removeUse", "(LRefactoringReplay;IIIII[J)I", 8, 9, 3, 7)) (("removeUse", "(IIIII)I", 7, 7, 1, 5)))) (cond (Nat.blt y 99) (cond (Nat.blt y 98) (("classCount", "()I", 4, 1, 1, 0)) (("classes", "(I)I", 6, 7, 1, 1))) (cond (Nat.blt y 100) (("classes", "(LRefactoringReplay;I[J)I", 8, 8, 3, 3)) (("lacksVersion", "(I)Z", 7, 2, 1, 1))))) (cond (Nat.blt y 105) (cond (Nat.blt y 103) (cond (Nat.blt y 102) (("copies", "([I[I)V", 7, 1, 0, 2)) (("looks", "(I)V", 7, 2, 1, 1))) (cond (Nat.blt y 104) (("classes", "(I)I", 7, 3, 1, 1)) (("nameByOrder", "(I)I", 4, 2, 1, 1)))) (cond (Nat.blt y 107) (cond (Nat.blt y 106) (("className", "(II)I", 6, 7, 1, 2)) (("className", "(LRefactoringReplay;II[J)I", 8, 8, 3, 4))) (cond (Nat.blt y 108) (("ordered", "([II)I", 7, 2, 0, 2)) (("fails", "(I)I", 7, 1, 1, 1)))))) (cond (Nat.blt y 117) (cond (Nat.blt y 113) (cond (Nat.blt y 111) (cond (Nat.blt y 110) (("className", "(II)I", 7, 3, 1, 2)) (("requireClassName", "(I)V", 6, 6, 0, 1))) (cond (Nat.blt y 112) (("superNameOf", "(I)I", 4, 1, 1, 1)) (("superOf", "(II)I", 6, 7, 1, 2)))) (cond (Nat.blt y 115) (cond (Nat.blt y 114) (("superOf", "(LRefactoringReplay;II[J)I", 8, 8, 3, 4)) (("isWrong", "(IZ)Z", 7, 2, 1, 2))) (cond (Nat.blt y 116) (("nameOfSuper", "([II)I", 7, 1, 0, 2)) (("superOf", "(II)I", 7, 3, 1, 2))))) (cond (Nat.blt y 121) (cond (Nat.blt y 119) (cond (Nat.blt y 118) (("members", "(II)I", 6, 7, 1, 2)) (("members", "(LRefactoringReplay;II[J)I", 8, 8, 3, 4))) (cond (Nat.blt y 120) (("membersOf", "([II)I", 7, 1, 0, 2)) (("members", "(II)I", 7, 3, 1, 2)))) (cond (Nat.blt y 123) (cond (Nat.blt y 122) (("uses", "(I)I", 6, 7, 1, 1)) (("uses", "(LRefactoringReplay;I[J)I", 8, 8, 3, 3))) (cond (Nat.blt y 124) (("uses", "(I)I", 7, 3, 1, 1)) (("requireMemberName", "(I)V", 6, 6, 0, 1))))))))) (cond (Nat.blt y 188) (cond (Nat.blt y 156) (cond (Nat.blt y 140) (cond (Nat.blt y 132) (cond (Nat.blt y 128) (cond (Nat.blt y 126) (("hasUse", "(IIIII)Z", 6, 7, 1, 5)) (cond (Nat.blt y 127) (("hasUse", "(LRefactoringReplay;IIIII[J)I", 8, 8, 3, 7)) (("hasUse", "(IIIII)Z", 7, 4, 1, 5)))) (cond (Nat.blt y 130) (cond (Nat.blt y 129) (("copyFrom", "(LRefactoringReplay$Program;)V", 4, 3, 1, 1)) (("copyVersion", "()I", 6, 4, 1, 0))) (cond (Nat.blt y 131) (("copyVersion", "()I", 7, 2, 1, 0)) (("memberCount", "()I", 4, 1, 1, 0))))) (cond (Nat.blt y 136) (cond (Nat.blt y 134) (cond (Nat.blt y 133) (("hasClassesIn", "(LRefactoringReplay$Program;)Z", 4, 2, 1, 1)) (("ownerNameOf", "(I)I", 4, 1, 1, 1))) (cond (Nat.blt y 135) (("twinOf", "(ILRefactoringReplay$Program;)I", 4, 2, 1, 2)) (("hasMembersIn", "(LRefactoringReplay$Program;)Z", 4, 3, 1, 1)))) (cond (Nat.blt y 138) (cond (Nat.blt y 137) (("hasUsesIn", "(LRefactoringReplay$Program;)Z", 4, 3, 1, 1)) (("isSameAs", "(LRefactoringReplay$Program;)Z", 4, 4, 1, 1))) (cond (Nat.blt y 139) (("areSame", "()Z", 6, 5, 1, 0)) (("twin", "([II[I)I", 7, 3, 0, 3)))))) (cond (Nat.blt y 148) (cond (Nat.blt y 144) (cond (Nat.blt y 142) (cond (Nat.blt y 141) (("isPart", "([I[I)Z", 7, 4, 0, 2)) (("areOne", "([I[I)Z", 7, 5, 0, 2))) (cond (Nat.blt y 143) (("areSame", "()Z", 7, 6, 1, 0)) (("log", "()I", 6, 1, 1, 0)))) (cond (Nat.blt y 146) (cond (Nat.blt y 145) (("log", "()I", 7, 1, 1, 0)) (("requireChange", "(I)V", 6, 6, 1, 1))) (cond (Nat.blt y 147) (("at", "(I)LRefactoringReplay$Change;", 1, 3, 1, 1)) (("kindOf", "(I)I", 6, 7, 1, 1))))) (cond (Nat.blt y 152) (cond (Nat.blt y 150) (cond (Nat.blt y 149) (("kindOf", "(LRefactoringReplay;I[J)I", 8, 8, 3, 3)) (("kindOf", "(I)I", 7, 2, 1, 1))) (cond (Nat.blt y 151) (("nameOf", "(II)I", 6, 7, 1, 2)) (("nameOf", "(LRefactoringReplay;II[J)I", 8, 8, 3, 4)))) (cond (Nat.blt y 154) (cond (Nat.blt y 153) (("nameOf", "(II)I", 7, 2, 1, 2)) (("clearLog", "()I", 6, 4, 1, 0))) (cond (Nat.blt y 155) (("clearLog", "()I", 7, 2, 1, 0)) (("makeFirst", "(LRefactoringReplay$ChangeList;I)V", 4, 5, 1, 2))))))) (cond (Nat.blt y 172) (cond (Nat.blt y 164) (cond (Nat.blt y 160) (cond (Nat.blt y 158) (cond (Nat.blt y 157) (("undo", "()I", 6, 6, 1, 0)) (("undo", "(LRefactoringReplay;[J)I", 8, 7, 3, 2))) (cond (Nat.blt y 159) (("makesOf", "([I[II)I", 7, 6, 1, 3)) (("goesTo", "([I[II)V", 7, 7, 1, 3)))) (cond (Nat.blt y 162) (cond (Nat.blt y 161) (("undo", "()I", 7, 8, 1, 0)) (("requireNeighbours", "(I)V", 6, 6, 1, 1))) (cond (Nat.blt y 163) (("replaceClass", "(II)V", 0, 1, 1, 2)) (("replaceMember", "(IIII)V", 0, 2, 1, 4))))) (cond (Nat.blt y 168) (cond (Nat.blt y 166) (cond (Nat.blt y 165) (("carryBack", "(LRefactoringReplay$Change;)V", 0, 3, 1, 1)) (("carryForward", "(LRefactoringReplay$Change;)V", 0, 3, 1, 1))) (cond (Nat.blt y 167) (("test", "(LRefactoringReplay$ChangeList;I)Z", 2, 5, 1, 2)) (("testAt", "(LRefactoringReplay$Program;LRefactoringReplay$ChangeList;I)Z", 2, 6, 1, 3)))) (cond (Nat.blt y 170) (cond (Nat.blt y 169) (("commutes", "(I)Z", 6, 7, 1, 1)) (("commutes", "(LRefactoringReplay;I[J)I", 8, 8, 3, 3))) (cond (Nat.blt y 171) (("renames", "([III)V", 7, 1, 0, 3)) (("hasMember", "(I)Z", 7, 1, 0, 1)))))) (cond (Nat.blt y 180) (cond (Nat.blt y 176) (cond (Nat.blt y 174) (cond (Nat.blt y 173) (("renamesPair", "([IIIII)V", 7, 2, 0, 5)) (("carries", "([IIIIIIZ)V", 7, 3, 0, 7))) (cond (Nat.blt y 175) (("commute", "([II)Z", 7, 8, 1, 2)) (("commutes", "(I)Z", 7, 9, 1, 1)))) (cond (Nat.blt y 178) (cond (Nat.blt y 177) (("storeAt", "(LRefactoringReplay$ChangeList;I)V", 2, 4, 1, 2)) (("exchange", "(I)Z", 6, 7, 1, 1))) (cond (Nat.blt y 179) (("exchange", "(LRefactoringReplay;I[J)I", 8, 8, 3, 3)) (("exchanges", "([II)V", 7, 1, 1, 2))))) (cond (Nat.blt y 184) (cond (Nat.blt y 182) (cond (Nat.blt y 181) (("exchange", "(I)Z", 7, 9, 1, 1)) (("copyFrom", "(LRefactoringReplay$ChangeList;)V", 1, 3, 1, 1))) (cond (Nat.blt y 183) (("movesBehind", "(LRefactoringReplay$Program;II)Z", 2, 6, 1, 3)) (("needsOf", "(LRefactoringReplay$Program;LRefactoringReplay$ChangeList;I)I", 2, 7, 1, 3)))) (cond (Nat.blt y 186) (cond (Nat.blt y 185) (("needs", "(I)I", 6, 8, 1, 1)) (("needs", "(LRefactoringReplay;I[J)I", 8, 9, 3, 3))) (cond (Nat.blt y 187) (("copiesLog", "([I[I)V", 7, 1, 0, 2)) (("needsOf", "(I)I", 7, 9, 1, 1)))))))) (cond (Nat.blt y 219) (cond (Nat.blt y 203) (cond (Nat.blt y 195) (cond (Nat.blt y 191) (cond (Nat.blt y 189) (("needs", "(I)I", 7, 10, 1, 1)) (cond (Nat.blt y 190) (("joinClasses", "(II)V", 3, 1, 1, 2)) (("joinClassesByName", "(LRefactoringReplay$Program;LRefactoringReplay$Program;)V", 3, 2, 1, 2)))) (cond (Nat.blt y 193) (cond (Nat.blt y 192) (("bitCount", "(I)I", 11, 1, 0, 1)) (("closestTo", "(ILRefactoringReplay$Program;)I", 3, 2, 1, 2))) (cond (Nat.blt y 194) (("joinClassesByMembers", "(LRefactoringReplay$Program;LRefactoringReplay$Program;)V", 3, 3, 1, 2)) (("joinMembers", "(II)V", 3, 1, 1, 2))))) (cond (Nat.blt y 199) (cond (Nat.blt y 197) (cond (Nat.blt y 196) (("joinMembersOfClasses", "(LRefactoringReplay$Program;LRefactoringReplay$Program;)V", 3, 2, 1, 2)) (("onlyFree", "(LRefactoringReplay$Program;I)I", 3, 1, 1, 2))) (cond (Nat.blt y 198) (("joinLoneMembers", "(LRefactoringReplay$Program;LRefactoringReplay$Program;)V", 3, 2, 1, 2)) (("find", "(LRefactoringReplay$Program;LRefactoringReplay$Program;)V", 3, 4, 1, 2)))) (cond (Nat.blt y 201) (cond (Nat.blt y 200) (("matchOfClass", "(I)I", 6, 7, 1, 1)) (("matchOfClass", "(LRefactoringReplay;I[J)I", 8, 8, 3, 3))) (cond (Nat.blt y 202) (("isMatched", "([III)Z", 7, 1, 1, 3)) (("bits", "(I)I", 7, 1, 0, 1)))))) (cond (Nat.blt y 211) (cond (Nat.blt y 207) (cond (Nat.blt y 205) (cond (Nat.blt y 204) (("likest", "(I[I)I", 7, 3, 1, 2)) (("lonely", "([II)I", 7, 2, 1, 2))) (cond (Nat.blt y 206) (("matches", "([I)V", 7, 4, 1, 1)) (("matchOfClass", "(I)I", 7, 5, 1, 1)))) (cond (Nat.blt y 209) (cond (Nat.blt y 208) (("matchOfMember", "(II)I", 6, 7, 1, 2)) (("matchOfMember", "(LRefactoringReplay;II[J)I", 8, 8, 3, 4))) (cond (Nat.blt y 210) (("matchOfMember", "(II)I", 7, 5, 1, 2)) (("requireSelection", "(I)V", 6, 6, 1, 1))))) (cond (Nat.blt y 215) (cond (Nat.blt y 213) (cond (Nat.blt y 212) (("classNameOf", "(ILRefactoringReplay$Program;)I", 5, 2, 1, 2)) (("memberPartner", "(II)I", 5, 3, 1, 2))) (cond (Nat.blt y 214) (("translateUser", "(LRefactoringReplay$Change;LRefactoringReplay$Program;)Z", 5, 4, 1, 2)) (("translateUsed", "(LRefactoringReplay$Change;LRefactoringReplay$Program;)Z", 5, 4, 1, 2)))) (cond (Nat.blt y 217) (cond (Nat.blt y 216) (("translate", "(LRefactoringReplay$Change;LRefactoringReplay$Program;)Z", 5, 5, 1, 2)) (("countsAsMade", "(I)Z", 5, 1, 1, 1))) (cond (Nat.blt y 218) (("isTaken", "(LRefactoringReplay$Program;)Z", 5, 3, 1, 1)) (("isMendable", "(I)Z", 5, 1, 1, 1))))))) (cond (Nat.blt y 235) (cond (Nat.blt y 227) (cond (Nat.blt y 223) (cond (Nat.blt y 221) (cond (Nat.blt y 220) (("advanceNewName", "()V", 0, 1, 1, 0)) (("tryOtherNames", "(LRefactoringReplay$Program;I)I", 5, 5, 1, 2))) (cond (Nat.blt y 222) (("tryPlan", "(LRefactoringReplay$Program;Z)I", 5, 6, 1, 2)) (("partClass", "(I)V", 3, 1, 1, 1)))) (cond (Nat.blt y 225) (cond (Nat.blt y 224) (("partMember", "(I)V", 3, 1, 1, 1)) (("follow", "(LRefactoringReplay$Change;LRefactoringReplay$Program;Z)V", 5, 5, 1, 3))) (cond (Nat.blt y 226) (("run", "(LRefactoringReplay$Program;LRefactoringReplay$Program;LRefactoringReplay$ChangeList;IZ)I", 5, 7, 1, 5)) (("replay", "(IZ)I", 6, 8, 1, 2))))) (cond (Nat.blt y 231) (cond (Nat.blt y 229) (cond (Nat.blt y 228) (("replay", "(LRefactoringReplay;IZ[J)I", 8, 9, 3, 4)) (("isSelection", "(I)Z", 7, 1, 1, 1))) (cond (Nat.blt y 230) (("nameFor", "(I)I", 7, 1, 1, 1)) (("memberFor", "(II)I", 7, 3, 1, 2)))) (cond (Nat.blt y 233) (cond (Nat.blt y 232) (("means", "(I)Z", 7, 4, 1, 1)) (("counts", "(II)Z", 7, 1, 1, 2))) (cond (Nat.blt y 234) (("nextLetter", "(I)I", 7, 1, 0, 1)) (("mends", "(II)I", 7, 6, 1, 2)))))) (cond (Nat.blt y 243) (cond (Nat.blt y 239) (cond (Nat.blt y 237) (cond (Nat.blt y 236) (("tries", "(IZ)I", 7, 7, 1, 2)) (("goesOn", "(II)V", 7, 7, 1, 2))) (cond (Nat.blt y 238) (("replays", "(IZ)I", 7, 8, 1, 2)) (("replay", "(IZ)I", 7, 9, 1, 2)))) (cond (Nat.blt y 241) (cond (Nat.blt y 240) (("forecast", "(IZ)I", 6, 8, 1, 2)) (("forecast", "(LRefactoringReplay;IZ[J)I", 8, 9, 3, 4))) (cond (Nat.blt y 242) (("forecast", "(IZ)I", 7, 9, 1, 2)) (("outcome", "(I)I", 6, 6, 1, 1))))) (cond (Nat.blt y 247) (cond (Nat.blt y 245) (cond (Nat.blt y 244) (("outcome", "(LRefactoringReplay;I[J)I", 8, 7, 3, 3)) (("outcome", "(I)I", 7, 2, 1, 1))) (cond (Nat.blt y 246) (("blendMembers", "(JLRefactoringReplay$Program;I)J", 6, 2, 0, 3)) (("blend", "(JLRefactoringReplay$Program;)J", 6, 3, 0, 2)))) (cond (Nat.blt y 249) (cond (Nat.blt y 248) (("fingerprint", "()J", 6, 4, 1, 0)) (("mixes", "(J[I)J", 7, 3, 0, 2))) (cond (Nat.blt y 250) (("fingerprint", "()J", 7, 4, 1, 0)) (("law", "([I)Z", 8, 12, 9, 1)))))))))
def zm_by (y : Nat) : ByteArray := cond (Nat.blt y 125) (cond (Nat.blt y 62) (cond (Nat.blt y 31) (cond (Nat.blt y 15) (cond (Nat.blt y 7) (cond (Nat.blt y 3) (cond (Nat.blt y 1) (prog_21_method_103_code) (cond (Nat.blt y 2) (prog_6_method_1_code) (prog_2_method_1_code))) (cond (Nat.blt y 5) (cond (Nat.blt y 4) (prog_3_method_1_code) (prog_4_method_1_code)) (cond (Nat.blt y 6) (prog_5_method_1_code) (prog_7_method_1_code)))) (cond (Nat.blt y 11) (cond (Nat.blt y 9) (cond (Nat.blt y 8) (prog_1_method_1_code) (prog_9_method_1_code)) (cond (Nat.blt y 10) (prog_1_method_35_code) (prog_2_method_2_code))) (cond (Nat.blt y 13) (cond (Nat.blt y 12) (prog_1_method_43_code) (prog_1_method_44_code)) (cond (Nat.blt y 14) (prog_2_method_4_code) (prog_2_method_5_code))))) (cond (Nat.blt y 23) (cond (Nat.blt y 19) (cond (Nat.blt y 17) (cond (Nat.blt y 16) (prog_6_method_15_code) (prog_6_method_31_code)) (cond (Nat.blt y 18) (prog_6_method_5_code) (prog_6_method_26_code))) (cond (Nat.blt y 21) (cond (Nat.blt y 20) (prog_6_method_29_code) (prog_6_method_6_code)) (cond (Nat.blt y 22) (prog_6_method_7_code) (prog_6_method_30_code)))) (cond (Nat.blt y 27) (cond (Nat.blt y 25) (cond (Nat.blt y 24) (prog_6_method_8_code) (prog_6_method_27_code)) (cond (Nat.blt y 26) (prog_6_method_28_code) (prog_6_method_9_code))) (cond (Nat.blt y 29) (cond (Nat.blt y 28) (prog_6_method_17_code) (prog_6_method_16_code)) (cond (Nat.blt y 30) (prog_6_method_18_code) (prog_6_method_19_code)))))) (cond (Nat.blt y 46) (cond (Nat.blt y 38) (cond (Nat.blt y 34) (cond (Nat.blt y 32) (prog_6_method_10_code) (cond (Nat.blt y 33) (prog_6_method_11_code) (prog_6_method_12_code))) (cond (Nat.blt y 36) (cond (Nat.blt y 35) (prog_15_method_50_code) (prog_6_method_20_code)) (cond (Nat.blt y 37) (prog_6_method_13_code) (prog_6_method_14_code)))) (cond (Nat.blt y 42) (cond (Nat.blt y 40) (cond (Nat.blt y 39) (prog_6_method_3_code) (prog_2_method_3_code)) (cond (Nat.blt y 41) (prog_3_method_3_code) (prog_1_method_34_code))) (cond (Nat.blt y 44) (cond (Nat.blt y 43) (prog_1_method_2_code) (method_3_code)) (cond (Nat.blt y 45) (prog_9_method_3_code) (prog_9_method_39_code))))) (cond (Nat.blt y 54) (cond (Nat.blt y 50) (cond (Nat.blt y 48) (cond (Nat.blt y 47) (prog_9_method_6_code) (prog_9_method_9_code)) (cond (Nat.blt y 49) (prog_9_method_13_code) (prog_9_method_15_code))) (cond (Nat.blt y 52) (cond (Nat.blt y 51) (prog_9_method_16_code) (prog_9_method_17_code)) (cond (Nat.blt y 53) (prog_9_method_10_code) (prog_9_method_18_code)))) (cond (Nat.blt y 58) (cond (Nat.blt y 56) (cond (Nat.blt y 55) (prog_9_method_7_code) (prog_9_method_11_code)) (cond (Nat.blt y 57) (prog_9_method_12_code) (prog_9_method_19_code))) (cond (Nat.blt y 60) (cond (Nat.blt y 59) (prog_9_method_20_code) (prog_9_method_21_code)) (cond (Nat.blt y 61) (prog_9_method_22_code) (prog_9_method_8_code))))))) (cond (Nat.blt y 93) (cond (Nat.blt y 77) (cond (Nat.blt y 69) (cond (Nat.blt y 65) (cond (Nat.blt y 63) (prog_9_method_23_code) (cond (Nat.blt y 64) (prog_9_method_24_code) (prog_9_method_14_code))) (cond (Nat.blt y 67) (cond (Nat.blt y 66) (prog_9_method_41_code) (prog_9_method_42_code)) (cond (Nat.blt y 68) (prog_9_method_2_code) (prog_1_method_3_code)))) (cond (Nat.blt y 73) (cond (Nat.blt y 71) (cond (Nat.blt y 70) (method_4_code) (prog_9_method_43_code)) (cond (Nat.blt y 72) (prog_1_method_4_code) (method_5_code))) (cond (Nat.blt y 75) (cond (Nat.blt y 74) (prog_9_method_44_code) (prog_1_method_5_code)) (cond (Nat.blt y 76) (method_6_code) (prog_9_method_45_code))))) (cond (Nat.blt y 85) (cond (Nat.blt y 81) (cond (Nat.blt y 79) (cond (Nat.blt y 78) (prog_1_method_6_code) (method_7_code)) (cond (Nat.blt y 80) (prog_9_method_40_code) (prog_9_method_46_code))) (cond (Nat.blt y 83) (cond (Nat.blt y 82) (prog_1_method_7_code) (method_8_code)) (cond (Nat.blt y 84) (prog_9_method_47_code) (prog_1_method_8_code)))) (cond (Nat.blt y 89) (cond (Nat.blt y 87) (cond (Nat.blt y 86) (method_9_code) (prog_9_method_48_code)) (cond (Nat.blt y 88) (prog_1_method_9_code) (method_10_code))) (cond (Nat.blt y 91) (cond (Nat.blt y 90) (prog_9_method_49_code) (prog_1_method_10_code)) (cond (Nat.blt y 92) (method_11_code) (prog_9_method_50_code)))))) (cond (Nat.blt y 109) (cond (Nat.blt y 101) (cond (Nat.blt y 97) (cond (Nat.blt y 95) (cond (Nat.blt y 94) (prog_9_method_51_code) (prog_1_method_11_code)) (cond (Nat.blt y 96) (method_12_code) (prog_9_method_52_code))) (cond (Nat.blt y 99) (cond (Nat.blt y 98) (prog_6_method_21_code) (prog_1_method_12_code)) (cond (Nat.blt y 100) (method_13_code) (prog_9_method_53_code)))) (cond (Nat.blt y 105) (cond (Nat.blt y 103) (cond (Nat.blt y 102) (prog_9_method_5_code) (prog_9_method_55_code)) (cond (Nat.blt y 104) (prog_9_method_56_code) (prog_6_method_23_code))) (cond (Nat.blt y 107) (cond (Nat.blt y 106) (prog_1_method_13_code) (method_14_code)) (cond (Nat.blt y 108) (prog_9_method_57_code) (prog_9_method_4_code))))) (cond (Nat.blt y 117) (cond (Nat.blt y 113) (cond (Nat.blt y 111) (cond (Nat.blt y 110) (prog_9_method_58_code) (prog_1_method_36_code)) (cond (Nat.blt y 112) (prog_6_method_24_code) (prog_1_method_14_code))) (cond (Nat.blt y 115) (cond (Nat.blt y 114) (method_15_code) (prog_9_method_54_code)) (cond (Nat.blt y 116) (prog_9_method_25_code) (prog_9_method_59_code)))) (cond (Nat.blt y 121) (cond (Nat.blt y 119) (cond (Nat.blt y 118) (prog_1_method_15_code) (method_16_code)) (cond (Nat.blt y 120) (prog_9_method_60_code) (prog_9_method_61_code))) (cond (Nat.blt y 123) (cond (Nat.blt y 122) (prog_1_method_16_code) (method_17_code)) (cond (Nat.blt y 124) (prog_9_method_62_code) (prog_1_method_37_code)))))))) (cond (Nat.blt y 188) (cond (Nat.blt y 156) (cond (Nat.blt y 140) (cond (Nat.blt y 132) (cond (Nat.blt y 128) (cond (Nat.blt y 126) (prog_1_method_17_code) (cond (Nat.blt y 127) (method_18_code) (prog_9_method_63_code))) (cond (Nat.blt y 130) (cond (Nat.blt y 129) (prog_6_method_2_code) (prog_1_method_18_code)) (cond (Nat.blt y 131) (prog_9_method_64_code) (prog_6_method_22_code)))) (cond (Nat.blt y 136) (cond (Nat.blt y 134) (cond (Nat.blt y 133) (prog_6_method_33_code) (prog_6_method_25_code)) (cond (Nat.blt y 135) (prog_6_method_36_code) (prog_6_method_34_code))) (cond (Nat.blt y 138) (cond (Nat.blt y 137) (prog_6_method_35_code) (prog_6_method_32_code)) (cond (Nat.blt y 139) (prog_1_method_19_code) (prog_9_method_27_code))))) (cond (Nat.blt y 148) (cond (Nat.blt y 144) (cond (Nat.blt y 142) (cond (Nat.blt y 141) (prog_9_method_26_code) (prog_9_method_28_code)) (cond (Nat.blt y 143) (prog_9_method_65_code) (prog_1_method_20_code))) (cond (Nat.blt y 146) (cond (Nat.blt y 145) (prog_9_method_66_code) (prog_1_method_38_code)) (cond (Nat.blt y 147) (prog_3_method_2_code) (prog_1_method_21_code)))) (cond (Nat.blt y 152) (cond (Nat.blt y 150) (cond (Nat.blt y 149) (method_19_code) (prog_9_method_67_code)) (cond (Nat.blt y 151) (prog_1_method_22_code) (method_20_code))) (cond (Nat.blt y 154) (cond (Nat.blt y 153) (prog_9_method_68_code) (prog_1_method_23_code)) (cond (Nat.blt y 155) (prog_9_method_69_code) (prog_6_method_4_code)))))) (cond (Nat.blt y 172) (cond (Nat.blt y 164) (cond (Nat.blt y 160) (cond (Nat.blt y 158) (cond (Nat.blt y 157) (prog_1_method_24_code) (method_21_code)) (cond (Nat.blt y 159) (prog_9_method_33_code) (prog_9_method_34_code))) (cond (Nat.blt y 162) (cond (Nat.blt y 161) (prog_9_method_70_code) (prog_1_method_39_code)) (cond (Nat.blt y 163) (prog_2_method_8_code) (prog_2_method_9_code)))) (cond (Nat.blt y 168) (cond (Nat.blt y 166) (cond (Nat.blt y 165) (prog_2_method_6_code) (prog_2_method_7_code)) (cond (Nat.blt y 167) (prog_4_method_3_code) (prog_4_method_2_code))) (cond (Nat.blt y 170) (cond (Nat.blt y 169) (prog_1_method_25_code) (method_22_code)) (cond (Nat.blt y 171) (prog_9_method_30_code) (prog_9_method_29_code))))) (cond (Nat.blt y 180) (cond (Nat.blt y 176) (cond (Nat.blt y 174) (cond (Nat.blt y 173) (prog_9_method_31_code) (prog_9_method_32_code)) (cond (Nat.blt y 175) (prog_9_method_35_code) (prog_9_method_71_code))) (cond (Nat.blt y 178) (cond (Nat.blt y 177) (prog_4_method_4_code) (prog_1_method_26_code)) (cond (Nat.blt y 179) (method_23_code) (prog_9_method_36_code)))) (cond (Nat.blt y 184) (cond (Nat.blt y 182) (cond (Nat.blt y 181) (prog_9_method_72_code) (prog_3_method_4_code)) (cond (Nat.blt y 183) (prog_4_method_6_code) (prog_4_method_5_code))) (cond (Nat.blt y 186) (cond (Nat.blt y 185) (prog_1_method_27_code) (method_24_code)) (cond (Nat.blt y 187) (prog_9_method_37_code) (prog_9_method_38_code))))))) (cond (Nat.blt y 219) (cond (Nat.blt y 203) (cond (Nat.blt y 195) (cond (Nat.blt y 191) (cond (Nat.blt y 189) (prog_9_method_73_code) (cond (Nat.blt y 190) (prog_5_method_9_code) (prog_5_method_3_code))) (cond (Nat.blt y 193) (cond (Nat.blt y 192) (prog_14_method_49_code) (prog_5_method_5_code)) (cond (Nat.blt y 194) (prog_5_method_4_code) (prog_5_method_10_code)))) (cond (Nat.blt y 199) (cond (Nat.blt y 197) (cond (Nat.blt y 196) (prog_5_method_6_code) (prog_5_method_8_code)) (cond (Nat.blt y 198) (prog_5_method_7_code) (prog_5_method_2_code))) (cond (Nat.blt y 201) (cond (Nat.blt y 200) (prog_1_method_28_code) (method_25_code)) (cond (Nat.blt y 202) (prog_9_method_74_code) (prog_9_method_75_code))))) (cond (Nat.blt y 211) (cond (Nat.blt y 207) (cond (Nat.blt y 205) (cond (Nat.blt y 204) (prog_9_method_76_code) (prog_9_method_78_code)) (cond (Nat.blt y 206) (prog_9_method_77_code) (prog_9_method_79_code))) (cond (Nat.blt y 209) (cond (Nat.blt y 208) (prog_1_method_29_code) (method_26_code)) (cond (Nat.blt y 210) (prog_9_method_80_code) (prog_1_method_40_code)))) (cond (Nat.blt y 215) (cond (Nat.blt y 213) (cond (Nat.blt y 212) (prog_7_method_6_code) (prog_7_method_7_code)) (cond (Nat.blt y 214) (prog_7_method_4_code) (prog_7_method_5_code))) (cond (Nat.blt y 217) (cond (Nat.blt y 216) (prog_7_method_3_code) (prog_7_method_9_code)) (cond (Nat.blt y 218) (prog_7_method_10_code) (prog_7_method_11_code)))))) (cond (Nat.blt y 235) (cond (Nat.blt y 227) (cond (Nat.blt y 223) (cond (Nat.blt y 221) (cond (Nat.blt y 220) (prog_2_method_10_code) (prog_7_method_12_code)) (cond (Nat.blt y 222) (prog_7_method_8_code) (prog_5_method_11_code))) (cond (Nat.blt y 225) (cond (Nat.blt y 224) (prog_5_method_12_code) (prog_7_method_13_code)) (cond (Nat.blt y 226) (prog_7_method_2_code) (prog_1_method_30_code)))) (cond (Nat.blt y 231) (cond (Nat.blt y 229) (cond (Nat.blt y 228) (method_27_code) (prog_9_method_90_code)) (cond (Nat.blt y 230) (prog_9_method_81_code) (prog_9_method_82_code))) (cond (Nat.blt y 233) (cond (Nat.blt y 232) (prog_9_method_83_code) (prog_9_method_84_code)) (cond (Nat.blt y 234) (prog_9_method_85_code) (prog_9_method_86_code))))) (cond (Nat.blt y 243) (cond (Nat.blt y 239) (cond (Nat.blt y 237) (cond (Nat.blt y 236) (prog_9_method_87_code) (prog_9_method_88_code)) (cond (Nat.blt y 238) (prog_9_method_89_code) (prog_9_method_91_code))) (cond (Nat.blt y 241) (cond (Nat.blt y 240) (prog_1_method_31_code) (method_28_code)) (cond (Nat.blt y 242) (prog_9_method_92_code) (prog_1_method_32_code)))) (cond (Nat.blt y 247) (cond (Nat.blt y 245) (cond (Nat.blt y 244) (method_29_code) (prog_9_method_93_code)) (cond (Nat.blt y 246) (prog_1_method_42_code) (prog_1_method_41_code))) (cond (Nat.blt y 249) (cond (Nat.blt y 248) (prog_1_method_33_code) (prog_9_method_94_code)) (cond (Nat.blt y 250) (prog_9_method_95_code) (code))))))))
def zm_mx (y : Nat) : Nat := cond (Nat.blt y 125) (cond (Nat.blt y 62) (cond (Nat.blt y 31) (cond (Nat.blt y 15) (cond (Nat.blt y 7) (cond (Nat.blt y 3) (cond (Nat.blt y 1) (4) (cond (Nat.blt y 2) (1) (1))) (cond (Nat.blt y 5) (cond (Nat.blt y 4) (2) (1)) (cond (Nat.blt y 6) (1) (1)))) (cond (Nat.blt y 11) (cond (Nat.blt y 9) (cond (Nat.blt y 8) (1) (1)) (cond (Nat.blt y 10) (2) (6))) (cond (Nat.blt y 13) (cond (Nat.blt y 12) (1) (1)) (cond (Nat.blt y 14) (1) (3))))) (cond (Nat.blt y 23) (cond (Nat.blt y 19) (cond (Nat.blt y 17) (cond (Nat.blt y 16) (3) (2)) (cond (Nat.blt y 18) (3) (4))) (cond (Nat.blt y 21) (cond (Nat.blt y 20) (4) (3)) (cond (Nat.blt y 22) (4) (5)))) (cond (Nat.blt y 27) (cond (Nat.blt y 25) (cond (Nat.blt y 24) (7) (5)) (cond (Nat.blt y 26) (2) (5))) (cond (Nat.blt y 29) (cond (Nat.blt y 28) (4) (4)) (cond (Nat.blt y 30) (3) (4)))))) (cond (Nat.blt y 46) (cond (Nat.blt y 38) (cond (Nat.blt y 34) (cond (Nat.blt y 32) (5) (cond (Nat.blt y 33) (6) (6))) (cond (Nat.blt y 36) (cond (Nat.blt y 35) (2) (3)) (cond (Nat.blt y 37) (3) (3)))) (cond (Nat.blt y 42) (cond (Nat.blt y 40) (cond (Nat.blt y 39) (2) (2)) (cond (Nat.blt y 41) (2) (9))) (cond (Nat.blt y 44) (cond (Nat.blt y 43) (3) (5)) (cond (Nat.blt y 45) (3) (1))))) (cond (Nat.blt y 54) (cond (Nat.blt y 50) (cond (Nat.blt y 48) (cond (Nat.blt y 47) (3) (5)) (cond (Nat.blt y 49) (3) (4))) (cond (Nat.blt y 52) (cond (Nat.blt y 51) (4) (4)) (cond (Nat.blt y 53) (5) (7)))) (cond (Nat.blt y 58) (cond (Nat.blt y 56) (cond (Nat.blt y 55) (4) (3)) (cond (Nat.blt y 57) (6) (4))) (cond (Nat.blt y 60) (cond (Nat.blt y 59) (4) (5)) (cond (Nat.blt y 61) (5) (3))))))) (cond (Nat.blt y 93) (cond (Nat.blt y 77) (cond (Nat.blt y 69) (cond (Nat.blt y 65) (cond (Nat.blt y 63) (4) (cond (Nat.blt y 64) (4) (8))) (cond (Nat.blt y 67) (cond (Nat.blt y 66) (10) (3)) (cond (Nat.blt y 68) (1) (3)))) (cond (Nat.blt y 73) (cond (Nat.blt y 71) (cond (Nat.blt y 70) (5) (3)) (cond (Nat.blt y 72) (4) (6))) (cond (Nat.blt y 75) (cond (Nat.blt y 74) (4) (4)) (cond (Nat.blt y 76) (6) (4))))) (cond (Nat.blt y 85) (cond (Nat.blt y 81) (cond (Nat.blt y 79) (cond (Nat.blt y 78) (4) (6)) (cond (Nat.blt y 80) (1) (4))) (cond (Nat.blt y 83) (cond (Nat.blt y 82) (4) (6)) (cond (Nat.blt y 84) (4) (5)))) (cond (Nat.blt y 89) (cond (Nat.blt y 87) (cond (Nat.blt y 86) (7) (5)) (cond (Nat.blt y 88) (5) (7))) (cond (Nat.blt y 91) (cond (Nat.blt y 90) (5) (6)) (cond (Nat.blt y 92) (8) (4)))))) (cond (Nat.blt y 109) (cond (Nat.blt y 101) (cond (Nat.blt y 97) (cond (Nat.blt y 95) (cond (Nat.blt y 94) (6) (6)) (cond (Nat.blt y 96) (8) (6))) (cond (Nat.blt y 99) (cond (Nat.blt y 98) (3) (2)) (cond (Nat.blt y 100) (4) (2)))) (cond (Nat.blt y 105) (cond (Nat.blt y 103) (cond (Nat.blt y 102) (3) (2)) (cond (Nat.blt y 104) (2) (4))) (cond (Nat.blt y 107) (cond (Nat.blt y 106) (4) (5)) (cond (Nat.blt y 108) (5) (2))))) (cond (Nat.blt y 117) (cond (Nat.blt y 113) (cond (Nat.blt y 111) (cond (Nat.blt y 110) (4) (1)) (cond (Nat.blt y 112) (3) (5))) (cond (Nat.blt y 115) (cond (Nat.blt y 114) (5) (3)) (cond (Nat.blt y 116) (2) (4)))) (cond (Nat.blt y 121) (cond (Nat.blt y 119) (cond (Nat.blt y 118) (5) (5)) (cond (Nat.blt y 120) (4) (4))) (cond (Nat.blt y 123) (cond (Nat.blt y 122) (2) (4)) (cond (Nat.blt y 124) (2) (1)))))))) (cond (Nat.blt y 188) (cond (Nat.blt y 156) (cond (Nat.blt y 140) (cond (Nat.blt y 132) (cond (Nat.blt y 128) (cond (Nat.blt y 126) (7) (cond (Nat.blt y 127) (8) (8))) (cond (Nat.blt y 130) (cond (Nat.blt y 129) (2) (1)) (cond (Nat.blt y 131) (1) (3)))) (cond (Nat.blt y 136) (cond (Nat.blt y 134) (cond (Nat.blt y 133) (4) (3)) (cond (Nat.blt y 135) (4) (3))) (cond (Nat.blt y 138) (cond (Nat.blt y 137) (4) (2)) (cond (Nat.blt y 139) (1) (3))))) (cond (Nat.blt y 148) (cond (Nat.blt y 144) (cond (Nat.blt y 142) (cond (Nat.blt y 141) (4) (2)) (cond (Nat.blt y 143) (1) (1))) (cond (Nat.blt y 146) (cond (Nat.blt y 145) (1) (2)) (cond (Nat.blt y 147) (2) (2)))) (cond (Nat.blt y 152) (cond (Nat.blt y 150) (cond (Nat.blt y 149) (4) (2)) (cond (Nat.blt y 151) (4) (5))) (cond (Nat.blt y 154) (cond (Nat.blt y 153) (3) (2)) (cond (Nat.blt y 155) (2) (4)))))) (cond (Nat.blt y 172) (cond (Nat.blt y 164) (cond (Nat.blt y 160) (cond (Nat.blt y 158) (cond (Nat.blt y 157) (1) (3)) (cond (Nat.blt y 159) (5) (6))) (cond (Nat.blt y 162) (cond (Nat.blt y 161) (1) (2)) (cond (Nat.blt y 163) (3) (5)))) (cond (Nat.blt y 168) (cond (Nat.blt y 166) (cond (Nat.blt y 165) (2) (2)) (cond (Nat.blt y 167) (5) (4))) (cond (Nat.blt y 170) (cond (Nat.blt y 169) (2) (4)) (cond (Nat.blt y 171) (4) (1))))) (cond (Nat.blt y 180) (cond (Nat.blt y 176) (cond (Nat.blt y 174) (cond (Nat.blt y 173) (6) (7)) (cond (Nat.blt y 175) (5) (2))) (cond (Nat.blt y 178) (cond (Nat.blt y 177) (3) (2)) (cond (Nat.blt y 179) (4) (4)))) (cond (Nat.blt y 184) (cond (Nat.blt y 182) (cond (Nat.blt y 181) (3) (3)) (cond (Nat.blt y 183) (5) (7))) (cond (Nat.blt y 186) (cond (Nat.blt y 185) (2) (4)) (cond (Nat.blt y 187) (3) (7))))))) (cond (Nat.blt y 219) (cond (Nat.blt y 203) (cond (Nat.blt y 195) (cond (Nat.blt y 191) (cond (Nat.blt y 189) (2) (cond (Nat.blt y 190) (3) (4))) (cond (Nat.blt y 193) (cond (Nat.blt y 192) (1) (8)) (cond (Nat.blt y 194) (5) (3)))) (cond (Nat.blt y 199) (cond (Nat.blt y 197) (cond (Nat.blt y 196) (6) (6)) (cond (Nat.blt y 198) (7) (3))) (cond (Nat.blt y 201) (cond (Nat.blt y 200) (4) (4)) (cond (Nat.blt y 202) (6) (3))))) (cond (Nat.blt y 211) (cond (Nat.blt y 207) (cond (Nat.blt y 205) (cond (Nat.blt y 204) (9) (6)) (cond (Nat.blt y 206) (5) (3))) (cond (Nat.blt y 209) (cond (Nat.blt y 208) (5) (5)) (cond (Nat.blt y 210) (5) (3)))) (cond (Nat.blt y 215) (cond (Nat.blt y 213) (cond (Nat.blt y 212) (5) (4)) (cond (Nat.blt y 214) (4) (4))) (cond (Nat.blt y 217) (cond (Nat.blt y 216) (3) (2)) (cond (Nat.blt y 218) (3) (2)))))) (cond (Nat.blt y 235) (cond (Nat.blt y 227) (cond (Nat.blt y 223) (cond (Nat.blt y 221) (cond (Nat.blt y 220) (1) (5)) (cond (Nat.blt y 222) (4) (2))) (cond (Nat.blt y 225) (cond (Nat.blt y 224) (2) (4)) (cond (Nat.blt y 226) (11) (4)))) (cond (Nat.blt y 231) (cond (Nat.blt y 229) (cond (Nat.blt y 228) (5) (2)) (cond (Nat.blt y 230) (2) (4))) (cond (Nat.blt y 233) (cond (Nat.blt y 232) (6) (3)) (cond (Nat.blt y 234) (1) (5))))) (cond (Nat.blt y 243) (cond (Nat.blt y 239) (cond (Nat.blt y 237) (cond (Nat.blt y 236) (6) (7)) (cond (Nat.blt y 238) (7) (5))) (cond (Nat.blt y 241) (cond (Nat.blt y 240) (3) (5)) (cond (Nat.blt y 242) (3) (2)))) (cond (Nat.blt y 247) (cond (Nat.blt y 245) (cond (Nat.blt y 244) (4) (2)) (cond (Nat.blt y 246) (8) (7))) (cond (Nat.blt y 249) (cond (Nat.blt y 248) (3) (12)) (cond (Nat.blt y 250) (1) (7))))))))
def zm_rt (y : Nat) : Option FieldType := cond (Nat.blt y 125) (cond (Nat.blt y 62) (cond (Nat.blt y 31) (cond (Nat.blt y 15) (cond (Nat.blt y 7) (cond (Nat.blt y 3) (cond (Nat.blt y 1) ((none : Option FieldType)) (cond (Nat.blt y 2) ((none : Option FieldType)) ((none : Option FieldType)))) (cond (Nat.blt y 5) (cond (Nat.blt y 4) ((none : Option FieldType)) ((none : Option FieldType))) (cond (Nat.blt y 6) ((none : Option FieldType)) ((none : Option FieldType))))) (cond (Nat.blt y 11) (cond (Nat.blt y 9) (cond (Nat.blt y 8) ((none : Option FieldType)) ((none : Option FieldType))) (cond (Nat.blt y 10) ((some (FieldType.object "RefactoringReplay$Program"))) ((none : Option FieldType)))) (cond (Nat.blt y 13) (cond (Nat.blt y 12) ((some FieldType.boolean)) ((some FieldType.boolean))) (cond (Nat.blt y 14) ((some FieldType.boolean)) ((some FieldType.boolean)))))) (cond (Nat.blt y 23) (cond (Nat.blt y 19) (cond (Nat.blt y 17) (cond (Nat.blt y 16) ((some FieldType.int)) ((some FieldType.int))) (cond (Nat.blt y 18) ((some FieldType.int)) ((some FieldType.int)))) (cond (Nat.blt y 21) (cond (Nat.blt y 20) ((some FieldType.int)) ((some FieldType.int))) (cond (Nat.blt y 22) ((some FieldType.int)) ((none : Option FieldType))))) (cond (Nat.blt y 27) (cond (Nat.blt y 25) (cond (Nat.blt y 24) ((some FieldType.int)) ((some FieldType.boolean))) (cond (Nat.blt y 26) ((some FieldType.int)) ((some FieldType.int)))) (cond (Nat.blt y 29) (cond (Nat.blt y 28) ((some FieldType.int)) ((some FieldType.int))) (cond (Nat.blt y 30) ((some FieldType.boolean)) ((some FieldType.int))))))) (cond (Nat.blt y 46) (cond (Nat.blt y 38) (cond (Nat.blt y 34) (cond (Nat.blt y 32) ((some FieldType.int)) (cond (Nat.blt y 33) ((some FieldType.int)) ((some FieldType.int)))) (cond (Nat.blt y 36) (cond (Nat.blt y 35) ((some FieldType.int)) ((some FieldType.int))) (cond (Nat.blt y 37) ((some FieldType.int)) ((some FieldType.int))))) (cond (Nat.blt y 42) (cond (Nat.blt y 40) (cond (Nat.blt y 39) ((some FieldType.int)) ((none : Option FieldType))) (cond (Nat.blt y 41) ((none : Option FieldType)) ((some FieldType.int)))) (cond (Nat.blt y 44) (cond (Nat.blt y 43) ((some FieldType.int)) ((some FieldType.int))) (cond (Nat.blt y 45) ((some FieldType.boolean)) ((some FieldType.boolean)))))) (cond (Nat.blt y 54) (cond (Nat.blt y 50) (cond (Nat.blt y 48) (cond (Nat.blt y 47) ((some FieldType.int)) ((some FieldType.int))) (cond (Nat.blt y 49) ((some FieldType.int)) ((some FieldType.int)))) (cond (Nat.blt y 52) (cond (Nat.blt y 51) ((some FieldType.int)) ((some FieldType.int))) (cond (Nat.blt y 53) ((some FieldType.boolean)) ((some FieldType.int))))) (cond (Nat.blt y 58) (cond (Nat.blt y 56) (cond (Nat.blt y 55) ((some FieldType.int)) ((some FieldType.boolean))) (cond (Nat.blt y 57) ((some FieldType.boolean)) ((some FieldType.int)))) (cond (Nat.blt y 60) (cond (Nat.blt y 59) ((some FieldType.int)) ((some FieldType.int))) (cond (Nat.blt y 61) ((some FieldType.int)) ((some FieldType.int)))))))) (cond (Nat.blt y 93) (cond (Nat.blt y 77) (cond (Nat.blt y 69) (cond (Nat.blt y 65) (cond (Nat.blt y 63) ((some FieldType.int)) (cond (Nat.blt y 64) ((some FieldType.int)) ((some FieldType.int)))) (cond (Nat.blt y 67) (cond (Nat.blt y 66) ((some FieldType.int)) ((some FieldType.int))) (cond (Nat.blt y 68) ((some FieldType.int)) ((some FieldType.int))))) (cond (Nat.blt y 73) (cond (Nat.blt y 71) (cond (Nat.blt y 70) ((some FieldType.int)) ((some FieldType.int))) (cond (Nat.blt y 72) ((some FieldType.int)) ((some FieldType.int)))) (cond (Nat.blt y 75) (cond (Nat.blt y 74) ((some FieldType.int)) ((some FieldType.int))) (cond (Nat.blt y 76) ((some FieldType.int)) ((some FieldType.int)))))) (cond (Nat.blt y 85) (cond (Nat.blt y 81) (cond (Nat.blt y 79) (cond (Nat.blt y 78) ((some FieldType.int)) ((some FieldType.int))) (cond (Nat.blt y 80) ((some FieldType.boolean)) ((some FieldType.int)))) (cond (Nat.blt y 83) (cond (Nat.blt y 82) ((some FieldType.int)) ((some FieldType.int))) (cond (Nat.blt y 84) ((some FieldType.int)) ((some FieldType.int))))) (cond (Nat.blt y 89) (cond (Nat.blt y 87) (cond (Nat.blt y 86) ((some FieldType.int)) ((some FieldType.int))) (cond (Nat.blt y 88) ((some FieldType.int)) ((some FieldType.int)))) (cond (Nat.blt y 91) (cond (Nat.blt y 90) ((some FieldType.int)) ((some FieldType.int))) (cond (Nat.blt y 92) ((some FieldType.int)) ((some FieldType.boolean))))))) (cond (Nat.blt y 109) (cond (Nat.blt y 101) (cond (Nat.blt y 97) (cond (Nat.blt y 95) (cond (Nat.blt y 94) ((some FieldType.int)) ((some FieldType.int))) (cond (Nat.blt y 96) ((some FieldType.int)) ((some FieldType.int)))) (cond (Nat.blt y 99) (cond (Nat.blt y 98) ((some FieldType.int)) ((some FieldType.int))) (cond (Nat.blt y 100) ((some FieldType.int)) ((some FieldType.boolean))))) (cond (Nat.blt y 105) (cond (Nat.blt y 103) (cond (Nat.blt y 102) ((none : Option FieldType)) ((none : Option FieldType))) (cond (Nat.blt y 104) ((some FieldType.int)) ((some FieldType.int)))) (cond (Nat.blt y 107) (cond (Nat.blt y 106) ((some FieldType.int)) ((some FieldType.int))) (cond (Nat.blt y 108) ((some FieldType.int)) ((some FieldType.int)))))) (cond (Nat.blt y 117) (cond (Nat.blt y 113) (cond (Nat.blt y 111) (cond (Nat.blt y 110) ((some FieldType.int)) ((none : Option FieldType))) (cond (Nat.blt y 112) ((some FieldType.int)) ((some FieldType.int)))) (cond (Nat.blt y 115) (cond (Nat.blt y 114) ((some FieldType.int)) ((some FieldType.boolean))) (cond (Nat.blt y 116) ((some FieldType.int)) ((some FieldType.int))))) (cond (Nat.blt y 121) (cond (Nat.blt y 119) (cond (Nat.blt y 118) ((some FieldType.int)) ((some FieldType.int))) (cond (Nat.blt y 120) ((some FieldType.int)) ((some FieldType.int)))) (cond (Nat.blt y 123) (cond (Nat.blt y 122) ((some FieldType.int)) ((some FieldType.int))) (cond (Nat.blt y 124) ((some FieldType.int)) ((none : Option FieldType))))))))) (cond (Nat.blt y 188) (cond (Nat.blt y 156) (cond (Nat.blt y 140) (cond (Nat.blt y 132) (cond (Nat.blt y 128) (cond (Nat.blt y 126) ((some FieldType.boolean)) (cond (Nat.blt y 127) ((some FieldType.int)) ((some FieldType.boolean)))) (cond (Nat.blt y 130) (cond (Nat.blt y 129) ((none : Option FieldType)) ((some FieldType.int))) (cond (Nat.blt y 131) ((some FieldType.int)) ((some FieldType.int))))) (cond (Nat.blt y 136) (cond (Nat.blt y 134) (cond (Nat.blt y 133) ((some FieldType.boolean)) ((some FieldType.int))) (cond (Nat.blt y 135) ((some FieldType.int)) ((some FieldType.boolean)))) (cond (Nat.blt y 138) (cond (Nat.blt y 137) ((some FieldType.boolean)) ((some FieldType.boolean))) (cond (Nat.blt y 139) ((some FieldType.boolean)) ((some FieldType.int)))))) (cond (Nat.blt y 148) (cond (Nat.blt y 144) (cond (Nat.blt y 142) (cond (Nat.blt y 141) ((some FieldType.boolean)) ((some FieldType.boolean))) (cond (Nat.blt y 143) ((some FieldType.boolean)) ((some FieldType.int)))) (cond (Nat.blt y 146) (cond (Nat.blt y 145) ((some FieldType.int)) ((none : Option FieldType))) (cond (Nat.blt y 147) ((some (FieldType.object "RefactoringReplay$Change"))) ((some FieldType.int))))) (cond (Nat.blt y 152) (cond (Nat.blt y 150) (cond (Nat.blt y 149) ((some FieldType.int)) ((some FieldType.int))) (cond (Nat.blt y 151) ((some FieldType.int)) ((some FieldType.int)))) (cond (Nat.blt y 154) (cond (Nat.blt y 153) ((some FieldType.int)) ((some FieldType.int))) (cond (Nat.blt y 155) ((some FieldType.int)) ((none : Option FieldType))))))) (cond (Nat.blt y 172) (cond (Nat.blt y 164) (cond (Nat.blt y 160) (cond (Nat.blt y 158) (cond (Nat.blt y 157) ((some FieldType.int)) ((some FieldType.int))) (cond (Nat.blt y 159) ((some FieldType.int)) ((none : Option FieldType)))) (cond (Nat.blt y 162) (cond (Nat.blt y 161) ((some FieldType.int)) ((none : Option FieldType))) (cond (Nat.blt y 163) ((none : Option FieldType)) ((none : Option FieldType))))) (cond (Nat.blt y 168) (cond (Nat.blt y 166) (cond (Nat.blt y 165) ((none : Option FieldType)) ((none : Option FieldType))) (cond (Nat.blt y 167) ((some FieldType.boolean)) ((some FieldType.boolean)))) (cond (Nat.blt y 170) (cond (Nat.blt y 169) ((some FieldType.boolean)) ((some FieldType.int))) (cond (Nat.blt y 171) ((none : Option FieldType)) ((some FieldType.boolean)))))) (cond (Nat.blt y 180) (cond (Nat.blt y 176) (cond (Nat.blt y 174) (cond (Nat.blt y 173) ((none : Option FieldType)) ((none : Option FieldType))) (cond (Nat.blt y 175) ((some FieldType.boolean)) ((some FieldType.boolean)))) (cond (Nat.blt y 178) (cond (Nat.blt y 177) ((none : Option FieldType)) ((some FieldType.boolean))) (cond (Nat.blt y 179) ((some FieldType.int)) ((none : Option FieldType))))) (cond (Nat.blt y 184) (cond (Nat.blt y 182) (cond (Nat.blt y 181) ((some FieldType.boolean)) ((none : Option FieldType))) (cond (Nat.blt y 183) ((some FieldType.boolean)) ((some FieldType.int)))) (cond (Nat.blt y 186) (cond (Nat.blt y 185) ((some FieldType.int)) ((some FieldType.int))) (cond (Nat.blt y 187) ((none : Option FieldType)) ((some FieldType.int)))))))) (cond (Nat.blt y 219) (cond (Nat.blt y 203) (cond (Nat.blt y 195) (cond (Nat.blt y 191) (cond (Nat.blt y 189) ((some FieldType.int)) (cond (Nat.blt y 190) ((none : Option FieldType)) ((none : Option FieldType)))) (cond (Nat.blt y 193) (cond (Nat.blt y 192) ((some FieldType.int)) ((some FieldType.int))) (cond (Nat.blt y 194) ((none : Option FieldType)) ((none : Option FieldType))))) (cond (Nat.blt y 199) (cond (Nat.blt y 197) (cond (Nat.blt y 196) ((none : Option FieldType)) ((some FieldType.int))) (cond (Nat.blt y 198) ((none : Option FieldType)) ((none : Option FieldType)))) (cond (Nat.blt y 201) (cond (Nat.blt y 200) ((some FieldType.int)) ((some FieldType.int))) (cond (Nat.blt y 202) ((some FieldType.boolean)) ((some FieldType.int)))))) (cond (Nat.blt y 211) (cond (Nat.blt y 207) (cond (Nat.blt y 205) (cond (Nat.blt y 204) ((some FieldType.int)) ((some FieldType.int))) (cond (Nat.blt y 206) ((none : Option FieldType)) ((some FieldType.int)))) (cond (Nat.blt y 209) (cond (Nat.blt y 208) ((some FieldType.int)) ((some FieldType.int))) (cond (Nat.blt y 210) ((some FieldType.int)) ((none : Option FieldType))))) (cond (Nat.blt y 215) (cond (Nat.blt y 213) (cond (Nat.blt y 212) ((some FieldType.int)) ((some FieldType.int))) (cond (Nat.blt y 214) ((some FieldType.boolean)) ((some FieldType.boolean)))) (cond (Nat.blt y 217) (cond (Nat.blt y 216) ((some FieldType.boolean)) ((some FieldType.boolean))) (cond (Nat.blt y 218) ((some FieldType.boolean)) ((some FieldType.boolean))))))) (cond (Nat.blt y 235) (cond (Nat.blt y 227) (cond (Nat.blt y 223) (cond (Nat.blt y 221) (cond (Nat.blt y 220) ((none : Option FieldType)) ((some FieldType.int))) (cond (Nat.blt y 222) ((some FieldType.int)) ((none : Option FieldType)))) (cond (Nat.blt y 225) (cond (Nat.blt y 224) ((none : Option FieldType)) ((none : Option FieldType))) (cond (Nat.blt y 226) ((some FieldType.int)) ((some FieldType.int))))) (cond (Nat.blt y 231) (cond (Nat.blt y 229) (cond (Nat.blt y 228) ((some FieldType.int)) ((some FieldType.boolean))) (cond (Nat.blt y 230) ((some FieldType.int)) ((some FieldType.int)))) (cond (Nat.blt y 233) (cond (Nat.blt y 232) ((some FieldType.boolean)) ((some FieldType.boolean))) (cond (Nat.blt y 234) ((some FieldType.int)) ((some FieldType.int)))))) (cond (Nat.blt y 243) (cond (Nat.blt y 239) (cond (Nat.blt y 237) (cond (Nat.blt y 236) ((some FieldType.int)) ((none : Option FieldType))) (cond (Nat.blt y 238) ((some FieldType.int)) ((some FieldType.int)))) (cond (Nat.blt y 241) (cond (Nat.blt y 240) ((some FieldType.int)) ((some FieldType.int))) (cond (Nat.blt y 242) ((some FieldType.int)) ((some FieldType.int))))) (cond (Nat.blt y 247) (cond (Nat.blt y 245) (cond (Nat.blt y 244) ((some FieldType.int)) ((some FieldType.int))) (cond (Nat.blt y 246) ((some FieldType.long)) ((some FieldType.long)))) (cond (Nat.blt y 249) (cond (Nat.blt y 248) ((some FieldType.long)) ((some FieldType.long))) (cond (Nat.blt y 250) ((some FieldType.long)) (ret))))))))
def zm_own (y : Nat) : Nat := (zm_md y).2.2.1
def zm_lv (y : Nat) : Nat := (zm_md y).2.2.2.1
def zm_kd (y : Nat) : Nat := (zm_md y).2.2.2.2.1
def zm_ar (y : Nat) : Nat := (zm_md y).2.2.2.2.2
def zm_nm (y : Nat) : MethodName := ⟨zm_cn (zm_own y), (zm_md y).1, (zm_md y).2.1⟩
/-- handlers: from, to, exception, answer, target, slot, short form -/
abbrev zm_Hd : Type := Nat × Nat × Nat × Nat × Nat × Nat × Bool
def zm_hd (y : Nat) : List zm_Hd := cond (Nat.blt y 125) (cond (Nat.blt y 62) (cond (Nat.blt y 31) (cond (Nat.blt y 15) (cond (Nat.blt y 7) (cond (Nat.blt y 3) (cond (Nat.blt y 1) ([]) (cond (Nat.blt y 2) ([]) ([]))) (cond (Nat.blt y 5) (cond (Nat.blt y 4) ([]) ([])) (cond (Nat.blt y 6) ([]) ([])))) (cond (Nat.blt y 11) (cond (Nat.blt y 9) (cond (Nat.blt y 8) ([]) ([])) (cond (Nat.blt y 10) ([]) ([]))) (cond (Nat.blt y 13) (cond (Nat.blt y 12) ([]) ([])) (cond (Nat.blt y 14) ([]) ([]))))) (cond (Nat.blt y 23) (cond (Nat.blt y 19) (cond (Nat.blt y 17) (cond (Nat.blt y 16) ([]) ([])) (cond (Nat.blt y 18) ([]) ([]))) (cond (Nat.blt y 21) (cond (Nat.blt y 20) ([]) ([])) (cond (Nat.blt y 22) ([]) ([])))) (cond (Nat.blt y 27) (cond (Nat.blt y 25) (cond (Nat.blt y 24) ([]) ([])) (cond (Nat.blt y 26) ([]) ([]))) (cond (Nat.blt y 29) (cond (Nat.blt y 28) ([]) ([])) (cond (Nat.blt y 30) ([]) ([])))))) (cond (Nat.blt y 46) (cond (Nat.blt y 38) (cond (Nat.blt y 34) (cond (Nat.blt y 32) ([]) (cond (Nat.blt y 33) ([]) ([]))) (cond (Nat.blt y 36) (cond (Nat.blt y 35) ([]) ([])) (cond (Nat.blt y 37) ([]) ([])))) (cond (Nat.blt y 42) (cond (Nat.blt y 40) (cond (Nat.blt y 39) ([]) ([])) (cond (Nat.blt y 41) ([]) ([]))) (cond (Nat.blt y 44) (cond (Nat.blt y 43) ([]) ([(0, 10, 0, 1, 13, 4, false), (0, 10, 1, 2, 17, 4, false), (0, 10, 2, 3, 21, 4, false)])) (cond (Nat.blt y 45) ([]) ([]))))) (cond (Nat.blt y 54) (cond (Nat.blt y 50) (cond (Nat.blt y 48) (cond (Nat.blt y 47) ([]) ([])) (cond (Nat.blt y 49) ([]) ([]))) (cond (Nat.blt y 52) (cond (Nat.blt y 51) ([]) ([])) (cond (Nat.blt y 53) ([]) ([])))) (cond (Nat.blt y 58) (cond (Nat.blt y 56) (cond (Nat.blt y 55) ([]) ([])) (cond (Nat.blt y 57) ([]) ([]))) (cond (Nat.blt y 60) (cond (Nat.blt y 59) ([]) ([])) (cond (Nat.blt y 61) ([]) ([]))))))) (cond (Nat.blt y 93) (cond (Nat.blt y 77) (cond (Nat.blt y 69) (cond (Nat.blt y 65) (cond (Nat.blt y 63) ([]) (cond (Nat.blt y 64) ([]) ([]))) (cond (Nat.blt y 67) (cond (Nat.blt y 66) ([]) ([])) (cond (Nat.blt y 68) ([]) ([])))) (cond (Nat.blt y 73) (cond (Nat.blt y 71) (cond (Nat.blt y 70) ([(0, 10, 0, 1, 13, 4, false), (0, 10, 1, 2, 17, 4, false), (0, 10, 2, 3, 21, 4, false)]) ([])) (cond (Nat.blt y 72) ([]) ([(0, 12, 0, 1, 15, 5, false), (0, 12, 1, 2, 19, 5, false), (0, 12, 2, 3, 23, 5, false)]))) (cond (Nat.blt y 75) (cond (Nat.blt y 74) ([]) ([])) (cond (Nat.blt y 76) ([(0, 12, 0, 1, 15, 5, false), (0, 12, 1, 2, 19, 5, false), (0, 12, 2, 3, 23, 5, false)]) ([]))))) (cond (Nat.blt y 85) (cond (Nat.blt y 81) (cond (Nat.blt y 79) (cond (Nat.blt y 78) ([]) ([(0, 12, 0, 1, 15, 5, false), (0, 12, 1, 2, 19, 5, false), (0, 12, 2, 3, 23, 5, false)])) (cond (Nat.blt y 80) ([]) ([]))) (cond (Nat.blt y 83) (cond (Nat.blt y 82) ([]) ([(0, 12, 0, 1, 15, 5, false), (0, 12, 1, 2, 19, 5, false), (0, 12, 2, 3, 23, 5, false)])) (cond (Nat.blt y 84) ([]) ([])))) (cond (Nat.blt y 89) (cond (Nat.blt y 87) (cond (Nat.blt y 86) ([(0, 14, 0, 1, 17, 6, false), (0, 14, 1, 2, 21, 6, false), (0, 14, 2, 3, 25, 6, false)]) ([])) (cond (Nat.blt y 88) ([]) ([(0, 14, 0, 1, 17, 6, false), (0, 14, 1, 2, 21, 6, false), (0, 14, 2, 3, 25, 6, false)]))) (cond (Nat.blt y 91) (cond (Nat.blt y 90) ([]) ([])) (cond (Nat.blt y 92) ([(0, 16, 0, 1, 19, 7, false), (0, 16, 1, 2, 23, 7, false), (0, 16, 2, 3, 27, 7, false)]) ([])))))) (cond (Nat.blt y 109) (cond (Nat.blt y 101) (cond (Nat.blt y 97) (cond (Nat.blt y 95) (cond (Nat.blt y 94) ([]) ([])) (cond (Nat.blt y 96) ([(0, 16, 0, 1, 19, 7, false), (0, 16, 1, 2, 23, 7, false), (0, 16, 2, 3, 27, 7, false)]) ([]))) (cond (Nat.blt y 99) (cond (Nat.blt y 98) ([]) ([])) (cond (Nat.blt y 100) ([(0, 9, 0, 1, 12, 3, true)]) ([])))) (cond (Nat.blt y 105) (cond (Nat.blt y 103) (cond (Nat.blt y 102) ([]) ([])) (cond (Nat.blt y 104) ([]) ([]))) (cond (Nat.blt y 107) (cond (Nat.blt y 106) ([]) ([(0, 10, 0, 1, 13, 4, false)])) (cond (Nat.blt y 108) ([]) ([]))))) (cond (Nat.blt y 117) (cond (Nat.blt y 113) (cond (Nat.blt y 111) (cond (Nat.blt y 110) ([]) ([])) (cond (Nat.blt y 112) ([]) ([]))) (cond (Nat.blt y 115) (cond (Nat.blt y 114) ([(0, 10, 0, 1, 13, 4, false), (0, 10, 1, 2, 17, 4, false)]) ([])) (cond (Nat.blt y 116) ([]) ([])))) (cond (Nat.blt y 121) (cond (Nat.blt y 119) (cond (Nat.blt y 118) ([]) ([(0, 10, 0, 1, 13, 4, false), (0, 10, 1, 2, 17, 4, false)])) (cond (Nat.blt y 120) ([]) ([]))) (cond (Nat.blt y 123) (cond (Nat.blt y 122) ([]) ([(0, 9, 0, 1, 12, 3, true)])) (cond (Nat.blt y 124) ([]) ([])))))))) (cond (Nat.blt y 188) (cond (Nat.blt y 156) (cond (Nat.blt y 140) (cond (Nat.blt y 132) (cond (Nat.blt y 128) (cond (Nat.blt y 126) ([]) (cond (Nat.blt y 127) ([(0, 23, 0, 1, 26, 7, false), (0, 23, 1, 2, 30, 7, false)]) ([]))) (cond (Nat.blt y 130) (cond (Nat.blt y 129) ([]) ([])) (cond (Nat.blt y 131) ([]) ([])))) (cond (Nat.blt y 136) (cond (Nat.blt y 134) (cond (Nat.blt y 133) ([]) ([])) (cond (Nat.blt y 135) ([]) ([]))) (cond (Nat.blt y 138) (cond (Nat.blt y 137) ([]) ([])) (cond (Nat.blt y 139) ([]) ([]))))) (cond (Nat.blt y 148) (cond (Nat.blt y 144) (cond (Nat.blt y 142) (cond (Nat.blt y 141) ([]) ([])) (cond (Nat.blt y 143) ([]) ([]))) (cond (Nat.blt y 146) (cond (Nat.blt y 145) ([]) ([])) (cond (Nat.blt y 147) ([]) ([])))) (cond (Nat.blt y 152) (cond (Nat.blt y 150) (cond (Nat.blt y 149) ([(0, 9, 0, 1, 12, 3, true)]) ([])) (cond (Nat.blt y 151) ([]) ([(0, 10, 0, 1, 13, 4, false)]))) (cond (Nat.blt y 154) (cond (Nat.blt y 153) ([]) ([])) (cond (Nat.blt y 155) ([]) ([])))))) (cond (Nat.blt y 172) (cond (Nat.blt y 164) (cond (Nat.blt y 160) (cond (Nat.blt y 158) (cond (Nat.blt y 157) ([]) ([(0, 8, 2, 1, 11, 2, true)])) (cond (Nat.blt y 159) ([]) ([]))) (cond (Nat.blt y 162) (cond (Nat.blt y 161) ([]) ([])) (cond (Nat.blt y 163) ([]) ([])))) (cond (Nat.blt y 168) (cond (Nat.blt y 166) (cond (Nat.blt y 165) ([]) ([])) (cond (Nat.blt y 167) ([]) ([]))) (cond (Nat.blt y 170) (cond (Nat.blt y 169) ([]) ([(0, 16, 0, 1, 19, 3, true)])) (cond (Nat.blt y 171) ([]) ([]))))) (cond (Nat.blt y 180) (cond (Nat.blt y 176) (cond (Nat.blt y 174) (cond (Nat.blt y 173) ([]) ([])) (cond (Nat.blt y 175) ([]) ([]))) (cond (Nat.blt y 178) (cond (Nat.blt y 177) ([]) ([])) (cond (Nat.blt y 179) ([(0, 16, 0, 1, 19, 3, true)]) ([])))) (cond (Nat.blt y 184) (cond (Nat.blt y 182) (cond (Nat.blt y 181) ([]) ([])) (cond (Nat.blt y 183) ([]) ([]))) (cond (Nat.blt y 186) (cond (Nat.blt y 185) ([]) ([(0, 9, 0, 1, 12, 3, true)])) (cond (Nat.blt y 187) ([]) ([]))))))) (cond (Nat.blt y 219) (cond (Nat.blt y 203) (cond (Nat.blt y 195) (cond (Nat.blt y 191) (cond (Nat.blt y 189) ([]) (cond (Nat.blt y 190) ([]) ([]))) (cond (Nat.blt y 193) (cond (Nat.blt y 192) ([]) ([])) (cond (Nat.blt y 194) ([]) ([])))) (cond (Nat.blt y 199) (cond (Nat.blt y 197) (cond (Nat.blt y 196) ([]) ([])) (cond (Nat.blt y 198) ([]) ([]))) (cond (Nat.blt y 201) (cond (Nat.blt y 200) ([]) ([(0, 9, 1, 1, 12, 3, true)])) (cond (Nat.blt y 202) ([]) ([]))))) (cond (Nat.blt y 211) (cond (Nat.blt y 207) (cond (Nat.blt y 205) (cond (Nat.blt y 204) ([]) ([])) (cond (Nat.blt y 206) ([]) ([]))) (cond (Nat.blt y 209) (cond (Nat.blt y 208) ([]) ([(0, 10, 1, 1, 13, 4, false)])) (cond (Nat.blt y 210) ([]) ([])))) (cond (Nat.blt y 215) (cond (Nat.blt y 213) (cond (Nat.blt y 212) ([]) ([])) (cond (Nat.blt y 214) ([]) ([]))) (cond (Nat.blt y 217) (cond (Nat.blt y 216) ([]) ([])) (cond (Nat.blt y 218) ([]) ([])))))) (cond (Nat.blt y 235) (cond (Nat.blt y 227) (cond (Nat.blt y 223) (cond (Nat.blt y 221) (cond (Nat.blt y 220) ([]) ([])) (cond (Nat.blt y 222) ([]) ([]))) (cond (Nat.blt y 225) (cond (Nat.blt y 224) ([]) ([])) (cond (Nat.blt y 226) ([]) ([])))) (cond (Nat.blt y 231) (cond (Nat.blt y 229) (cond (Nat.blt y 228) ([(0, 10, 1, 1, 13, 4, false)]) ([])) (cond (Nat.blt y 230) ([]) ([]))) (cond (Nat.blt y 233) (cond (Nat.blt y 232) ([]) ([])) (cond (Nat.blt y 234) ([]) ([]))))) (cond (Nat.blt y 243) (cond (Nat.blt y 239) (cond (Nat.blt y 237) (cond (Nat.blt y 236) ([]) ([])) (cond (Nat.blt y 238) ([]) ([]))) (cond (Nat.blt y 241) (cond (Nat.blt y 240) ([]) ([(0, 10, 1, 1, 13, 4, false)])) (cond (Nat.blt y 242) ([]) ([])))) (cond (Nat.blt y 247) (cond (Nat.blt y 245) (cond (Nat.blt y 244) ([(0, 9, 0, 1, 12, 3, true)]) ([])) (cond (Nat.blt y 246) ([]) ([]))) (cond (Nat.blt y 249) (cond (Nat.blt y 248) ([]) ([])) (cond (Nat.blt y 250) ([]) ([]))))))))
def zm_hh (y : Nat) : List (Nat × Nat × Nat × Nat) := cond (Nat.blt y 125) (cond (Nat.blt y 62) (cond (Nat.blt y 31) (cond (Nat.blt y 15) (cond (Nat.blt y 7) (cond (Nat.blt y 3) (cond (Nat.blt y 1) ([]) (cond (Nat.blt y 2) ([]) ([]))) (cond (Nat.blt y 5) (cond (Nat.blt y 4) ([]) ([])) (cond (Nat.blt y 6) ([]) ([])))) (cond (Nat.blt y 11) (cond (Nat.blt y 9) (cond (Nat.blt y 8) ([]) ([])) (cond (Nat.blt y 10) ([]) ([]))) (cond (Nat.blt y 13) (cond (Nat.blt y 12) ([]) ([])) (cond (Nat.blt y 14) ([]) ([]))))) (cond (Nat.blt y 23) (cond (Nat.blt y 19) (cond (Nat.blt y 17) (cond (Nat.blt y 16) ([]) ([])) (cond (Nat.blt y 18) ([]) ([]))) (cond (Nat.blt y 21) (cond (Nat.blt y 20) ([]) ([])) (cond (Nat.blt y 22) ([]) ([])))) (cond (Nat.blt y 27) (cond (Nat.blt y 25) (cond (Nat.blt y 24) ([]) ([])) (cond (Nat.blt y 26) ([]) ([]))) (cond (Nat.blt y 29) (cond (Nat.blt y 28) ([]) ([])) (cond (Nat.blt y 30) ([]) ([])))))) (cond (Nat.blt y 46) (cond (Nat.blt y 38) (cond (Nat.blt y 34) (cond (Nat.blt y 32) ([]) (cond (Nat.blt y 33) ([]) ([]))) (cond (Nat.blt y 36) (cond (Nat.blt y 35) ([]) ([])) (cond (Nat.blt y 37) ([]) ([])))) (cond (Nat.blt y 42) (cond (Nat.blt y 40) (cond (Nat.blt y 39) ([]) ([])) (cond (Nat.blt y 41) ([]) ([]))) (cond (Nat.blt y 44) (cond (Nat.blt y 43) ([]) ([(0, 10, 13, 13), (0, 10, 17, 15), (0, 10, 21, 17)])) (cond (Nat.blt y 45) ([]) ([]))))) (cond (Nat.blt y 54) (cond (Nat.blt y 50) (cond (Nat.blt y 48) (cond (Nat.blt y 47) ([]) ([])) (cond (Nat.blt y 49) ([]) ([]))) (cond (Nat.blt y 52) (cond (Nat.blt y 51) ([]) ([])) (cond (Nat.blt y 53) ([]) ([])))) (cond (Nat.blt y 58) (cond (Nat.blt y 56) (cond (Nat.blt y 55) ([]) ([])) (cond (Nat.blt y 57) ([]) ([]))) (cond (Nat.blt y 60) (cond (Nat.blt y 59) ([]) ([])) (cond (Nat.blt y 61) ([]) ([]))))))) (cond (Nat.blt y 93) (cond (Nat.blt y 77) (cond (Nat.blt y 69) (cond (Nat.blt y 65) (cond (Nat.blt y 63) ([]) (cond (Nat.blt y 64) ([]) ([]))) (cond (Nat.blt y 67) (cond (Nat.blt y 66) ([]) ([])) (cond (Nat.blt y 68) ([]) ([])))) (cond (Nat.blt y 73) (cond (Nat.blt y 71) (cond (Nat.blt y 70) ([(0, 10, 13, 13), (0, 10, 17, 15), (0, 10, 21, 17)]) ([])) (cond (Nat.blt y 72) ([]) ([(0, 12, 15, 13), (0, 12, 19, 15), (0, 12, 23, 17)]))) (cond (Nat.blt y 75) (cond (Nat.blt y 74) ([]) ([])) (cond (Nat.blt y 76) ([(0, 12, 15, 13), (0, 12, 19, 15), (0, 12, 23, 17)]) ([]))))) (cond (Nat.blt y 85) (cond (Nat.blt y 81) (cond (Nat.blt y 79) (cond (Nat.blt y 78) ([]) ([(0, 12, 15, 13), (0, 12, 19, 15), (0, 12, 23, 17)])) (cond (Nat.blt y 80) ([]) ([]))) (cond (Nat.blt y 83) (cond (Nat.blt y 82) ([]) ([(0, 12, 15, 13), (0, 12, 19, 15), (0, 12, 23, 17)])) (cond (Nat.blt y 84) ([]) ([])))) (cond (Nat.blt y 89) (cond (Nat.blt y 87) (cond (Nat.blt y 86) ([(0, 14, 17, 13), (0, 14, 21, 15), (0, 14, 25, 17)]) ([])) (cond (Nat.blt y 88) ([]) ([(0, 14, 17, 13), (0, 14, 21, 15), (0, 14, 25, 17)]))) (cond (Nat.blt y 91) (cond (Nat.blt y 90) ([]) ([])) (cond (Nat.blt y 92) ([(0, 16, 19, 13), (0, 16, 23, 15), (0, 16, 27, 17)]) ([])))))) (cond (Nat.blt y 109) (cond (Nat.blt y 101) (cond (Nat.blt y 97) (cond (Nat.blt y 95) (cond (Nat.blt y 94) ([]) ([])) (cond (Nat.blt y 96) ([(0, 16, 19, 13), (0, 16, 23, 15), (0, 16, 27, 17)]) ([]))) (cond (Nat.blt y 99) (cond (Nat.blt y 98) ([]) ([])) (cond (Nat.blt y 100) ([(0, 9, 12, 13)]) ([])))) (cond (Nat.blt y 105) (cond (Nat.blt y 103) (cond (Nat.blt y 102) ([]) ([])) (cond (Nat.blt y 104) ([]) ([]))) (cond (Nat.blt y 107) (cond (Nat.blt y 106) ([]) ([(0, 10, 13, 13)])) (cond (Nat.blt y 108) ([]) ([]))))) (cond (Nat.blt y 117) (cond (Nat.blt y 113) (cond (Nat.blt y 111) (cond (Nat.blt y 110) ([]) ([])) (cond (Nat.blt y 112) ([]) ([]))) (cond (Nat.blt y 115) (cond (Nat.blt y 114) ([(0, 10, 13, 13), (0, 10, 17, 15)]) ([])) (cond (Nat.blt y 116) ([]) ([])))) (cond (Nat.blt y 121) (cond (Nat.blt y 119) (cond (Nat.blt y 118) ([]) ([(0, 10, 13, 13), (0, 10, 17, 15)])) (cond (Nat.blt y 120) ([]) ([]))) (cond (Nat.blt y 123) (cond (Nat.blt y 122) ([]) ([(0, 9, 12, 13)])) (cond (Nat.blt y 124) ([]) ([])))))))) (cond (Nat.blt y 188) (cond (Nat.blt y 156) (cond (Nat.blt y 140) (cond (Nat.blt y 132) (cond (Nat.blt y 128) (cond (Nat.blt y 126) ([]) (cond (Nat.blt y 127) ([(0, 23, 26, 13), (0, 23, 30, 15)]) ([]))) (cond (Nat.blt y 130) (cond (Nat.blt y 129) ([]) ([])) (cond (Nat.blt y 131) ([]) ([])))) (cond (Nat.blt y 136) (cond (Nat.blt y 134) (cond (Nat.blt y 133) ([]) ([])) (cond (Nat.blt y 135) ([]) ([]))) (cond (Nat.blt y 138) (cond (Nat.blt y 137) ([]) ([])) (cond (Nat.blt y 139) ([]) ([]))))) (cond (Nat.blt y 148) (cond (Nat.blt y 144) (cond (Nat.blt y 142) (cond (Nat.blt y 141) ([]) ([])) (cond (Nat.blt y 143) ([]) ([]))) (cond (Nat.blt y 146) (cond (Nat.blt y 145) ([]) ([])) (cond (Nat.blt y 147) ([]) ([])))) (cond (Nat.blt y 152) (cond (Nat.blt y 150) (cond (Nat.blt y 149) ([(0, 9, 12, 13)]) ([])) (cond (Nat.blt y 151) ([]) ([(0, 10, 13, 13)]))) (cond (Nat.blt y 154) (cond (Nat.blt y 153) ([]) ([])) (cond (Nat.blt y 155) ([]) ([])))))) (cond (Nat.blt y 172) (cond (Nat.blt y 164) (cond (Nat.blt y 160) (cond (Nat.blt y 158) (cond (Nat.blt y 157) ([]) ([(0, 8, 11, 17)])) (cond (Nat.blt y 159) ([]) ([]))) (cond (Nat.blt y 162) (cond (Nat.blt y 161) ([]) ([])) (cond (Nat.blt y 163) ([]) ([])))) (cond (Nat.blt y 168) (cond (Nat.blt y 166) (cond (Nat.blt y 165) ([]) ([])) (cond (Nat.blt y 167) ([]) ([]))) (cond (Nat.blt y 170) (cond (Nat.blt y 169) ([]) ([(0, 16, 19, 13)])) (cond (Nat.blt y 171) ([]) ([]))))) (cond (Nat.blt y 180) (cond (Nat.blt y 176) (cond (Nat.blt y 174) (cond (Nat.blt y 173) ([]) ([])) (cond (Nat.blt y 175) ([]) ([]))) (cond (Nat.blt y 178) (cond (Nat.blt y 177) ([]) ([])) (cond (Nat.blt y 179) ([(0, 16, 19, 13)]) ([])))) (cond (Nat.blt y 184) (cond (Nat.blt y 182) (cond (Nat.blt y 181) ([]) ([])) (cond (Nat.blt y 183) ([]) ([]))) (cond (Nat.blt y 186) (cond (Nat.blt y 185) ([]) ([(0, 9, 12, 13)])) (cond (Nat.blt y 187) ([]) ([]))))))) (cond (Nat.blt y 219) (cond (Nat.blt y 203) (cond (Nat.blt y 195) (cond (Nat.blt y 191) (cond (Nat.blt y 189) ([]) (cond (Nat.blt y 190) ([]) ([]))) (cond (Nat.blt y 193) (cond (Nat.blt y 192) ([]) ([])) (cond (Nat.blt y 194) ([]) ([])))) (cond (Nat.blt y 199) (cond (Nat.blt y 197) (cond (Nat.blt y 196) ([]) ([])) (cond (Nat.blt y 198) ([]) ([]))) (cond (Nat.blt y 201) (cond (Nat.blt y 200) ([]) ([(0, 9, 12, 15)])) (cond (Nat.blt y 202) ([]) ([]))))) (cond (Nat.blt y 211) (cond (Nat.blt y 207) (cond (Nat.blt y 205) (cond (Nat.blt y 204) ([]) ([])) (cond (Nat.blt y 206) ([]) ([]))) (cond (Nat.blt y 209) (cond (Nat.blt y 208) ([]) ([(0, 10, 13, 15)])) (cond (Nat.blt y 210) ([]) ([])))) (cond (Nat.blt y 215) (cond (Nat.blt y 213) (cond (Nat.blt y 212) ([]) ([])) (cond (Nat.blt y 214) ([]) ([]))) (cond (Nat.blt y 217) (cond (Nat.blt y 216) ([]) ([])) (cond (Nat.blt y 218) ([]) ([])))))) (cond (Nat.blt y 235) (cond (Nat.blt y 227) (cond (Nat.blt y 223) (cond (Nat.blt y 221) (cond (Nat.blt y 220) ([]) ([])) (cond (Nat.blt y 222) ([]) ([]))) (cond (Nat.blt y 225) (cond (Nat.blt y 224) ([]) ([])) (cond (Nat.blt y 226) ([]) ([])))) (cond (Nat.blt y 231) (cond (Nat.blt y 229) (cond (Nat.blt y 228) ([(0, 10, 13, 15)]) ([])) (cond (Nat.blt y 230) ([]) ([]))) (cond (Nat.blt y 233) (cond (Nat.blt y 232) ([]) ([])) (cond (Nat.blt y 234) ([]) ([]))))) (cond (Nat.blt y 243) (cond (Nat.blt y 239) (cond (Nat.blt y 237) (cond (Nat.blt y 236) ([]) ([])) (cond (Nat.blt y 238) ([]) ([]))) (cond (Nat.blt y 241) (cond (Nat.blt y 240) ([]) ([(0, 10, 13, 15)])) (cond (Nat.blt y 242) ([]) ([])))) (cond (Nat.blt y 247) (cond (Nat.blt y 245) (cond (Nat.blt y 244) ([(0, 9, 12, 13)]) ([])) (cond (Nat.blt y 246) ([]) ([]))) (cond (Nat.blt y 249) (cond (Nat.blt y 248) ([]) ([])) (cond (Nat.blt y 250) ([]) ([]))))))))
/-- places of the words: code, initialized, static or instanceMethod, selects -/
def zm_pl (y : Nat) : Nat × Nat × Nat × Nat := cond (Nat.blt y 125) (cond (Nat.blt y 62) (cond (Nat.blt y 31) (cond (Nat.blt y 15) (cond (Nat.blt y 7) (cond (Nat.blt y 3) (cond (Nat.blt y 1) ((115, 82, 114, 0)) (cond (Nat.blt y 2) ((111, 81, 110, 0)) ((156, 84, 155, 0)))) (cond (Nat.blt y 5) (cond (Nat.blt y 4) ((149, 83, 148, 0)) ((204, 85, 203, 0))) (cond (Nat.blt y 6) ((238, 86, 237, 0)) ((263, 87, 262, 0))))) (cond (Nat.blt y 11) (cond (Nat.blt y 9) (cond (Nat.blt y 8) ((103, 80, 102, 0)) ((1043, 88, 1042, 0))) (cond (Nat.blt y 10) ((442, 80, 441, 5)) ((514, 84, 512, 513)))) (cond (Nat.blt y 13) (cond (Nat.blt y 12) ((521, 80, 520, 0)) ((524, 80, 523, 0))) (cond (Nat.blt y 14) ((528, 84, 526, 527)) ((518, 84, 516, 517)))))) (cond (Nat.blt y 23) (cond (Nat.blt y 19) (cond (Nat.blt y 17) (cond (Nat.blt y 16) ((364, 81, 362, 363)) ((571, 81, 570, 0))) (cond (Nat.blt y 18) ((568, 81, 567, 7)) ((415, 81, 413, 414)))) (cond (Nat.blt y 21) (cond (Nat.blt y 20) ((580, 81, 579, 9)) ((575, 81, 574, 8))) (cond (Nat.blt y 22) ((584, 81, 583, 10)) ((592, 81, 591, 12))))) (cond (Nat.blt y 27) (cond (Nat.blt y 25) (cond (Nat.blt y 24) ((588, 81, 587, 11)) ((600, 81, 599, 14))) (cond (Nat.blt y 26) ((604, 81, 603, 15)) ((596, 81, 595, 13)))) (cond (Nat.blt y 29) (cond (Nat.blt y 28) ((384, 81, 382, 383)) ((612, 81, 610, 611))) (cond (Nat.blt y 30) ((392, 81, 390, 391)) ((424, 81, 422, 423))))))) (cond (Nat.blt y 46) (cond (Nat.blt y 38) (cond (Nat.blt y 34) (cond (Nat.blt y 32) ((608, 81, 607, 16)) (cond (Nat.blt y 33) ((617, 81, 616, 17)) ((621, 81, 620, 18)))) (cond (Nat.blt y 36) (cond (Nat.blt y 35) ((353, 95, 352, 0)) ((350, 81, 348, 349))) (cond (Nat.blt y 37) ((625, 81, 624, 19)) ((629, 81, 628, 20))))) (cond (Nat.blt y 42) (cond (Nat.blt y 40) (cond (Nat.blt y 39) ((564, 81, 562, 563)) ((638, 84, 636, 637))) (cond (Nat.blt y 41) ((634, 83, 632, 633)) ((438, 80, 437, 4)))) (cond (Nat.blt y 44) (cond (Nat.blt y 43) ((434, 80, 432, 433)) ((427, 79, 426, 0))) (cond (Nat.blt y 45) ((1134, 88, 1133, 0)) ((1131, 88, 1130, 0)))))) (cond (Nat.blt y 54) (cond (Nat.blt y 50) (cond (Nat.blt y 48) (cond (Nat.blt y 47) ((1145, 88, 1144, 0)) ((1152, 88, 1151, 0))) (cond (Nat.blt y 49) ((1155, 88, 1154, 0)) ((1149, 88, 1148, 47)))) (cond (Nat.blt y 52) (cond (Nat.blt y 51) ((1159, 88, 1158, 48)) ((1163, 88, 1162, 49))) (cond (Nat.blt y 53) ((1170, 88, 1169, 0)) ((1167, 88, 1166, 50))))) (cond (Nat.blt y 58) (cond (Nat.blt y 56) (cond (Nat.blt y 55) ((1177, 88, 1176, 0)) ((1183, 88, 1182, 0))) (cond (Nat.blt y 57) ((1180, 88, 1179, 0)) ((1174, 88, 1173, 51)))) (cond (Nat.blt y 60) (cond (Nat.blt y 59) ((1187, 88, 1186, 52)) ((1191, 88, 1190, 53))) (cond (Nat.blt y 61) ((1195, 88, 1194, 54)) ((1198, 88, 1197, 0)))))))) (cond (Nat.blt y 93) (cond (Nat.blt y 77) (cond (Nat.blt y 69) (cond (Nat.blt y 65) (cond (Nat.blt y 63) ((1202, 88, 1201, 55)) (cond (Nat.blt y 64) ((1206, 88, 1205, 56)) ((1142, 88, 1141, 46)))) (cond (Nat.blt y 67) (cond (Nat.blt y 66) ((1138, 88, 1137, 45)) ((1128, 88, 1126, 1127))) (cond (Nat.blt y 68) ((1124, 88, 1122, 1123)) ((646, 80, 644, 645))))) (cond (Nat.blt y 73) (cond (Nat.blt y 71) (cond (Nat.blt y 70) ((642, 79, 641, 0)) ((1210, 88, 1208, 1209))) (cond (Nat.blt y 72) ((653, 80, 651, 652)) ((649, 79, 648, 0)))) (cond (Nat.blt y 75) (cond (Nat.blt y 74) ((1214, 88, 1212, 1213)) ((660, 80, 658, 659))) (cond (Nat.blt y 76) ((656, 79, 655, 0)) ((1218, 88, 1216, 1217)))))) (cond (Nat.blt y 85) (cond (Nat.blt y 81) (cond (Nat.blt y 79) (cond (Nat.blt y 78) ((667, 80, 665, 666)) ((663, 79, 662, 0))) (cond (Nat.blt y 80) ((1225, 88, 1224, 0)) ((1222, 88, 1220, 1221)))) (cond (Nat.blt y 83) (cond (Nat.blt y 82) ((674, 80, 672, 673)) ((670, 79, 669, 0))) (cond (Nat.blt y 84) ((1229, 88, 1227, 1228)) ((681, 80, 679, 680))))) (cond (Nat.blt y 89) (cond (Nat.blt y 87) (cond (Nat.blt y 86) ((677, 79, 676, 0)) ((1233, 88, 1231, 1232))) (cond (Nat.blt y 88) ((688, 80, 686, 687)) ((684, 79, 683, 0)))) (cond (Nat.blt y 91) (cond (Nat.blt y 90) ((1237, 88, 1235, 1236)) ((695, 80, 693, 694))) (cond (Nat.blt y 92) ((691, 79, 690, 0)) ((1244, 88, 1243, 0))))))) (cond (Nat.blt y 109) (cond (Nat.blt y 101) (cond (Nat.blt y 97) (cond (Nat.blt y 95) (cond (Nat.blt y 94) ((1241, 88, 1239, 1240)) ((702, 80, 700, 701))) (cond (Nat.blt y 96) ((698, 79, 697, 0)) ((1248, 88, 1246, 1247)))) (cond (Nat.blt y 99) (cond (Nat.blt y 98) ((333, 81, 331, 332)) ((709, 80, 707, 708))) (cond (Nat.blt y 100) ((705, 79, 704, 0)) ((1256, 88, 1255, 57))))) (cond (Nat.blt y 105) (cond (Nat.blt y 103) (cond (Nat.blt y 102) ((1263, 88, 1262, 0)) ((1260, 88, 1259, 58))) (cond (Nat.blt y 104) ((1252, 88, 1250, 1251)) ((720, 81, 718, 719)))) (cond (Nat.blt y 107) (cond (Nat.blt y 106) ((716, 80, 714, 715)) ((712, 79, 711, 0))) (cond (Nat.blt y 108) ((1270, 88, 1269, 0)) ((1274, 88, 1273, 59)))))) (cond (Nat.blt y 117) (cond (Nat.blt y 113) (cond (Nat.blt y 111) (cond (Nat.blt y 110) ((1267, 88, 1265, 1266)) ((731, 80, 730, 0))) (cond (Nat.blt y 112) ((368, 81, 366, 367)) ((728, 80, 726, 727)))) (cond (Nat.blt y 115) (cond (Nat.blt y 114) ((724, 79, 723, 0)) ((1282, 88, 1281, 60))) (cond (Nat.blt y 116) ((1285, 88, 1284, 0)) ((1278, 88, 1276, 1277))))) (cond (Nat.blt y 121) (cond (Nat.blt y 119) (cond (Nat.blt y 118) ((740, 80, 738, 739)) ((736, 79, 735, 0))) (cond (Nat.blt y 120) ((1292, 88, 1291, 0)) ((1289, 88, 1287, 1288)))) (cond (Nat.blt y 123) (cond (Nat.blt y 122) ((747, 80, 745, 746)) ((743, 79, 742, 0))) (cond (Nat.blt y 124) ((1296, 88, 1294, 1295)) ((758, 80, 757, 0))))))))) (cond (Nat.blt y 188) (cond (Nat.blt y 156) (cond (Nat.blt y 140) (cond (Nat.blt y 132) (cond (Nat.blt y 128) (cond (Nat.blt y 126) ((755, 80, 753, 754)) (cond (Nat.blt y 127) ((751, 79, 750, 0)) ((1300, 88, 1298, 1299)))) (cond (Nat.blt y 130) (cond (Nat.blt y 129) ((326, 81, 324, 325)) ((322, 80, 320, 321))) (cond (Nat.blt y 131) ((1304, 88, 1302, 1303)) ((346, 81, 344, 345))))) (cond (Nat.blt y 136) (cond (Nat.blt y 134) (cond (Nat.blt y 133) ((360, 81, 359, 0)) ((380, 81, 378, 379))) (cond (Nat.blt y 135) ((376, 81, 375, 2)) ((372, 81, 371, 1)))) (cond (Nat.blt y 138) (cond (Nat.blt y 137) ((388, 81, 387, 3)) ((341, 81, 339, 340))) (cond (Nat.blt y 139) ((337, 80, 335, 336)) ((1317, 88, 1316, 0)))))) (cond (Nat.blt y 148) (cond (Nat.blt y 144) (cond (Nat.blt y 142) (cond (Nat.blt y 141) ((1314, 88, 1313, 0)) ((1311, 88, 1310, 0))) (cond (Nat.blt y 143) ((1308, 88, 1306, 1307)) ((396, 80, 394, 395)))) (cond (Nat.blt y 146) (cond (Nat.blt y 145) ((1321, 88, 1319, 1320)) ((773, 80, 772, 21))) (cond (Nat.blt y 147) ((778, 83, 776, 777)) ((769, 80, 767, 768))))) (cond (Nat.blt y 152) (cond (Nat.blt y 150) (cond (Nat.blt y 149) ((765, 79, 764, 0)) ((1325, 88, 1323, 1324))) (cond (Nat.blt y 151) ((791, 80, 789, 790)) ((787, 79, 786, 0)))) (cond (Nat.blt y 154) (cond (Nat.blt y 153) ((1329, 88, 1327, 1328)) ((400, 80, 398, 399))) (cond (Nat.blt y 155) ((1333, 88, 1331, 1332)) ((804, 81, 802, 803))))))) (cond (Nat.blt y 172) (cond (Nat.blt y 164) (cond (Nat.blt y 160) (cond (Nat.blt y 158) (cond (Nat.blt y 157) ((799, 80, 797, 798)) ((795, 79, 794, 0))) (cond (Nat.blt y 159) ((1345, 88, 1344, 62)) ((1341, 88, 1340, 61)))) (cond (Nat.blt y 162) (cond (Nat.blt y 161) ((1337, 88, 1335, 1336)) ((817, 80, 816, 22))) (cond (Nat.blt y 163) ((838, 84, 837, 24)) ((842, 84, 841, 25))))) (cond (Nat.blt y 168) (cond (Nat.blt y 166) (cond (Nat.blt y 165) ((834, 84, 832, 833)) ((846, 84, 844, 845))) (cond (Nat.blt y 167) ((828, 85, 827, 23)) ((822, 85, 820, 821)))) (cond (Nat.blt y 170) (cond (Nat.blt y 169) ((813, 80, 811, 812)) ((809, 79, 808, 0))) (cond (Nat.blt y 171) ((1359, 88, 1358, 0)) ((1365, 88, 1364, 0)))))) (cond (Nat.blt y 180) (cond (Nat.blt y 176) (cond (Nat.blt y 174) (cond (Nat.blt y 173) ((1362, 88, 1361, 0)) ((1356, 88, 1355, 0))) (cond (Nat.blt y 175) ((1353, 88, 1352, 63)) ((1349, 88, 1347, 1348)))) (cond (Nat.blt y 178) (cond (Nat.blt y 177) ((859, 85, 857, 858)) ((855, 80, 853, 854))) (cond (Nat.blt y 179) ((851, 79, 850, 0)) ((1373, 88, 1372, 64))))) (cond (Nat.blt y 184) (cond (Nat.blt y 182) (cond (Nat.blt y 181) ((1369, 88, 1367, 1368)) ((874, 83, 872, 873))) (cond (Nat.blt y 183) ((878, 85, 877, 26)) ((870, 85, 868, 869)))) (cond (Nat.blt y 186) (cond (Nat.blt y 185) ((866, 80, 864, 865)) ((862, 79, 861, 0))) (cond (Nat.blt y 187) ((1384, 88, 1383, 0)) ((1381, 88, 1380, 65)))))))) (cond (Nat.blt y 219) (cond (Nat.blt y 203) (cond (Nat.blt y 195) (cond (Nat.blt y 191) (cond (Nat.blt y 189) ((1377, 88, 1375, 1376)) (cond (Nat.blt y 190) ((900, 86, 898, 899)) ((895, 86, 894, 27)))) (cond (Nat.blt y 193) (cond (Nat.blt y 192) ((912, 98, 911, 0)) ((909, 86, 908, 29))) (cond (Nat.blt y 194) ((904, 86, 903, 28)) ((924, 86, 922, 923))))) (cond (Nat.blt y 199) (cond (Nat.blt y 197) (cond (Nat.blt y 196) ((919, 86, 918, 30)) ((932, 86, 931, 32))) (cond (Nat.blt y 198) ((928, 86, 927, 31)) ((890, 86, 888, 889)))) (cond (Nat.blt y 201) (cond (Nat.blt y 200) ((886, 80, 884, 885)) ((882, 79, 881, 0))) (cond (Nat.blt y 202) ((1400, 88, 1399, 68)) ((1403, 88, 1402, 0)))))) (cond (Nat.blt y 211) (cond (Nat.blt y 207) (cond (Nat.blt y 205) (cond (Nat.blt y 204) ((1396, 88, 1395, 67)) ((1407, 88, 1406, 69))) (cond (Nat.blt y 206) ((1392, 88, 1391, 66)) ((1388, 88, 1386, 1387)))) (cond (Nat.blt y 209) (cond (Nat.blt y 208) ((939, 80, 937, 938)) ((935, 79, 934, 0))) (cond (Nat.blt y 210) ((1411, 88, 1409, 1410)) ((951, 80, 950, 33))))) (cond (Nat.blt y 215) (cond (Nat.blt y 213) (cond (Nat.blt y 212) ((968, 87, 967, 35)) ((977, 87, 976, 37))) (cond (Nat.blt y 214) ((973, 87, 972, 36)) ((983, 87, 982, 38)))) (cond (Nat.blt y 217) (cond (Nat.blt y 216) ((963, 87, 962, 34)) ((992, 87, 991, 40))) (cond (Nat.blt y 218) ((996, 87, 995, 41)) ((1000, 87, 999, 42))))))) (cond (Nat.blt y 235) (cond (Nat.blt y 227) (cond (Nat.blt y 223) (cond (Nat.blt y 221) (cond (Nat.blt y 220) ((1008, 84, 1006, 1007)) ((1004, 87, 1003, 43))) (cond (Nat.blt y 222) ((987, 87, 986, 39)) ((1016, 86, 1014, 1015)))) (cond (Nat.blt y 225) (cond (Nat.blt y 224) ((1020, 86, 1018, 1019)) ((1012, 87, 1011, 44))) (cond (Nat.blt y 226) ((956, 87, 954, 955)) ((947, 80, 945, 946))))) (cond (Nat.blt y 231) (cond (Nat.blt y 229) (cond (Nat.blt y 228) ((943, 79, 942, 0)) ((1419, 88, 1418, 70))) (cond (Nat.blt y 230) ((1435, 88, 1434, 74)) ((1439, 88, 1438, 75)))) (cond (Nat.blt y 233) (cond (Nat.blt y 232) ((1431, 88, 1430, 73)) ((1443, 88, 1442, 76))) (cond (Nat.blt y 234) ((1450, 88, 1449, 0)) ((1447, 88, 1446, 77)))))) (cond (Nat.blt y 243) (cond (Nat.blt y 239) (cond (Nat.blt y 237) (cond (Nat.blt y 236) ((1427, 88, 1426, 72)) ((1454, 88, 1453, 78))) (cond (Nat.blt y 238) ((1423, 88, 1422, 71)) ((1415, 88, 1413, 1414)))) (cond (Nat.blt y 241) (cond (Nat.blt y 240) ((1030, 80, 1028, 1029)) ((1026, 79, 1025, 0))) (cond (Nat.blt y 242) ((1458, 88, 1456, 1457)) ((1037, 80, 1035, 1036))))) (cond (Nat.blt y 247) (cond (Nat.blt y 245) (cond (Nat.blt y 244) ((1033, 79, 1032, 0)) ((1462, 88, 1460, 1461))) (cond (Nat.blt y 246) ((418, 80, 417, 0)) ((408, 80, 407, 0)))) (cond (Nat.blt y 249) (cond (Nat.blt y 248) ((404, 80, 402, 403)) ((1471, 88, 1470, 0))) (cond (Nat.blt y 250) ((1466, 88, 1464, 1465)) ((0, 0, 0, 0)))))))))
def zm_cw (y : Nat) : Cond := cond (Nat.beq (zm_kd y) 3) (.codeWith (zm_nm y) (zm_by y) (zm_mx y) (zm_rt y) (zm_hh y)) (.code (zm_nm y) (zm_by y) (zm_mx y) (zm_rt y))
def zm_kw (y : Nat) : Cond := cond (Nat.beq (zm_kd y) 0 || Nat.beq (zm_kd y) 3) (.static (zm_nm y)) (.instanceMethod (zm_nm y))
def zm_at (w : Cond) (k : Nat) : Bool := decide (lw_tbl[k]? = some w)
def zm_okm (y : Nat) : Bool := zm_at (zm_cw y) (zm_pl y).1 && zm_at (.initialized (zm_nm y).cls) (zm_pl y).2.1 && zm_at (zm_kw y) (zm_pl y).2.2.1 && (!(Nat.beq (zm_kd y) 1) || zm_at (.selects (zm_nm y).cls (zm_nm y) (zm_nm y)) (zm_pl y).2.2.2)
def zm_nM : Nat := 250
/-- field links: class, index, class of the field, its number -/
def zm_fl : List (Nat × Nat × Nat × Nat) := [(0, 9, 0, 0), (0, 15, 0, 1), (0, 18, 0, 2), (0, 21, 0, 3), (0, 24, 0, 4), (1, 11, 1, 0), (1, 18, 1, 1), (2, 12, 2, 0), (2, 18, 2, 1), (2, 21, 2, 2), (2, 27, 2, 3), (2, 31, 2, 4), (2, 37, 2, 5), (2, 41, 2, 6), (3, 9, 3, 0), (3, 15, 3, 1), (3, 18, 3, 2), (3, 21, 3, 3), (3, 43, 4, 0), (3, 68, 4, 4), (3, 71, 4, 3), (4, 9, 4, 0), (4, 15, 4, 1), (4, 18, 4, 2), (4, 21, 4, 3), (4, 24, 4, 4), (4, 27, 4, 5), (4, 43, 0, 0), (4, 49, 0, 1), (4, 59, 0, 3), (4, 69, 0, 2), (4, 78, 0, 4), (5, 12, 5, 0), (5, 21, 5, 1), (5, 28, 5, 2), (5, 32, 5, 3), (5, 44, 1, 1), (5, 69, 0, 0), (5, 72, 0, 1), (5, 79, 0, 3), (5, 88, 0, 2), (5, 99, 4, 3), (5, 102, 0, 4), (5, 108, 3, 0), (5, 111, 4, 0), (5, 117, 3, 2), (5, 139, 3, 1), (5, 142, 3, 3), (6, 10, 6, 0), (6, 16, 6, 1), (6, 19, 6, 2), (6, 22, 6, 3), (6, 28, 6, 4), (6, 35, 6, 5), (6, 42, 6, 6), (6, 49, 6, 7), (6, 56, 6, 8), (6, 60, 6, 9), (6, 64, 6, 10), (6, 126, 1, 1), (6, 136, 0, 0), (6, 139, 0, 1), (6, 142, 0, 2), (6, 145, 0, 3), (6, 148, 0, 4), (6, 180, 3, 0), (6, 183, 4, 0), (6, 186, 3, 2), (6, 192, 4, 3), (6, 202, 5, 3), (6, 268, 4, 5), (7, 7, 7, 0), (7, 13, 7, 1), (7, 16, 7, 2), (7, 19, 7, 3), (7, 22, 7, 4), (7, 25, 7, 5), (7, 28, 7, 6), (7, 31, 7, 7), (7, 34, 7, 11), (7, 37, 7, 12), (7, 40, 7, 13), (7, 43, 7, 14), (7, 46, 7, 15), (7, 49, 7, 16), (7, 52, 7, 17), (7, 55, 7, 18), (7, 58, 7, 19), (7, 61, 7, 20), (7, 65, 7, 9), (7, 83, 7, 10), (7, 191, 7, 8), (7, 249, 7, 21), (7, 252, 7, 22), (7, 255, 7, 23), (7, 258, 7, 24)]
def zm_flp : List Nat := [158, 162, 166, 170, 174, 189, 190, 212, 213, 214, 215, 216, 217, 218, 240, 243, 245, 248, 117, 127, 124, 116, 120, 121, 122, 126, 128, 159, 163, 171, 167, 175, 271, 272, 273, 274, 191, 160, 164, 172, 168, 123, 176, 241, 118, 246, 244, 249, 285, 286, 287, 288, 289, 290, 291, 292, 293, 294, 295, 192, 161, 165, 169, 173, 177, 242, 119, 247, 125, 275, 129, 1045, 1046, 1047, 1048, 1049, 1050, 1051, 1052, 1056, 1057, 1058, 1059, 1060, 1061, 1062, 1063, 1064, 1065, 1054, 1055, 1053, 1066, 1067, 1068, 1069]
def zm_flw (q : Nat × Nat × Nat × Nat) : Cond := .fieldLink (zm_cn q.1) q.2.1 (zm_T q.2.2.1 q.2.2.2).1 (zm_T q.2.2.1 q.2.2.2).2.1 (zm_T q.2.2.1 q.2.2.2).2.2.1
/-- method links: class, index, method -/
def zm_ml : List (Nat × Nat × Nat) := [(0, 27, 10), (0, 38, 13), (0, 42, 162), (0, 46, 163), (1, 31, 39), (2, 11, 1), (2, 36, 3), (2, 44, 128), (2, 48, 155), (2, 52, 166), (2, 56, 146), (2, 60, 39), (2, 63, 164), (2, 66, 165), (2, 69, 38), (2, 73, 137), (2, 77, 181), (2, 80, 182), (2, 84, 176), (3, 24, 0), (3, 30, 190), (3, 34, 193), (3, 37, 195), (3, 40, 197), (3, 48, 15), (3, 52, 189), (3, 56, 18), (3, 59, 192), (3, 63, 191), (3, 74, 27), (3, 78, 194), (3, 81, 196), (4, 31, 0), (4, 52, 17), (4, 56, 20), (4, 62, 21), (4, 66, 23), (4, 72, 26), (4, 75, 31), (4, 81, 32), (4, 85, 33), (4, 88, 28), (4, 91, 36), (4, 94, 37), (4, 97, 146), (4, 103, 38), (4, 107, 15), (4, 110, 16), (4, 114, 18), (4, 117, 19), (4, 120, 22), (4, 123, 24), (4, 127, 25), (4, 130, 29), (4, 134, 30), (4, 137, 35), (4, 143, 27), (4, 146, 34), (4, 152, 97), (4, 155, 131), (4, 158, 132), (4, 162, 135), (4, 165, 136), (4, 168, 111), (4, 171, 134), (4, 175, 133), (5, 11, 1), (5, 20, 5), (5, 36, 128), (5, 40, 198), (5, 50, 146), (5, 54, 215), (5, 58, 221), (5, 62, 224), (5, 66, 39), (5, 75, 211), (5, 82, 213), (5, 85, 214), (5, 91, 212), (5, 95, 133), (5, 105, 15), (5, 114, 28), (5, 120, 38), (5, 124, 216), (5, 128, 217), (5, 132, 218), (5, 135, 220), (5, 145, 219), (5, 148, 222), (5, 152, 223), (5, 155, 189), (5, 159, 194), (6, 9, 1), (6, 27, 3), (6, 41, 4), (6, 48, 5), (6, 55, 6), (6, 68, 41), (6, 72, 9), (6, 76, 97), (6, 80, 104), (6, 91, 110), (6, 95, 15), (6, 98, 111), (6, 101, 18), (6, 104, 35), (6, 107, 124), (6, 110, 28), (6, 114, 29), (6, 118, 128), (6, 122, 137), (6, 129, 145), (6, 132, 146), (6, 158, 155), (6, 162, 161), (6, 165, 167), (6, 169, 176), (6, 172, 183), (6, 176, 198), (6, 189, 133), (6, 195, 210), (6, 198, 225), (6, 213, 246), (6, 219, 10), (6, 223, 14), (6, 234, 38), (6, 238, 40), (6, 244, 11), (6, 250, 12), (6, 261, 245), (6, 265, 27), (6, 272, 34), (6, 278, 30), (7, 68, 46), (7, 72, 54), (7, 76, 52), (7, 80, 55), (7, 86, 49), (7, 89, 50), (7, 92, 51), (7, 95, 53), (7, 98, 57), (7, 101, 58), (7, 104, 59), (7, 108, 60), (7, 111, 61), (7, 114, 62), (7, 117, 63), (7, 120, 47), (7, 123, 48), (7, 126, 56), (7, 130, 115), (7, 133, 139), (7, 137, 140), (7, 141, 171), (7, 145, 170), (7, 149, 172), (7, 153, 64), (7, 157, 101), (7, 161, 158), (7, 165, 159), (7, 169, 173), (7, 173, 141), (7, 176, 186), (7, 179, 174), (7, 183, 179), (7, 187, 44), (7, 194, 45), (7, 197, 65), (7, 201, 79), (7, 204, 92), (7, 208, 100), (7, 211, 102), (7, 215, 107), (7, 218, 108), (7, 222, 114), (7, 226, 119), (7, 229, 187), (7, 232, 201), (7, 235, 202), (7, 238, 203), (7, 242, 204), (7, 245, 205), (7, 261, 229), (7, 264, 230), (7, 268, 233), (7, 271, 231), (7, 274, 232), (7, 278, 234), (7, 281, 235), (7, 285, 236), (7, 289, 228), (7, 292, 237), (7, 299, 248), (8, 7, 42), (8, 19, 68), (8, 22, 71), (8, 26, 74), (8, 29, 77), (8, 32, 81), (8, 35, 84), (8, 39, 87), (8, 42, 90), (8, 46, 94), (8, 49, 98), (8, 53, 105), (8, 56, 112), (8, 59, 117), (8, 62, 121), (8, 65, 125), (8, 69, 147), (8, 72, 150), (8, 75, 156), (8, 79, 168), (8, 83, 177), (8, 86, 184), (8, 89, 199), (8, 92, 207), (8, 95, 226), (8, 99, 239), (8, 102, 242), (8, 105, 7), (8, 108, 8), (8, 109, 43), (8, 114, 66), (8, 115, 67), (8, 118, 69), (8, 120, 70), (8, 121, 72), (8, 124, 73), (8, 125, 75), (8, 127, 76), (8, 128, 78), (8, 130, 80), (8, 131, 82), (8, 133, 83), (8, 134, 85), (8, 137, 86), (8, 138, 88), (8, 140, 89), (8, 141, 91), (8, 144, 93), (8, 145, 95), (8, 147, 96), (8, 148, 99), (8, 151, 103), (8, 152, 106), (8, 154, 109), (8, 155, 113), (8, 157, 116), (8, 158, 118), (8, 160, 120), (8, 161, 122), (8, 163, 123), (8, 164, 126), (8, 166, 127), (8, 167, 129), (8, 170, 130), (8, 171, 138), (8, 175, 142), (8, 176, 143), (8, 179, 144), (8, 180, 148), (8, 182, 149), (8, 183, 151), (8, 185, 152), (8, 186, 153), (8, 189, 154), (8, 190, 157), (8, 193, 160), (8, 194, 169), (8, 196, 175), (8, 197, 178), (8, 199, 180), (8, 200, 185), (8, 202, 188), (8, 203, 200), (8, 205, 206), (8, 206, 208), (8, 208, 209), (8, 209, 227), (8, 212, 238), (8, 213, 240), (8, 215, 241), (8, 216, 243), (8, 218, 244), (8, 219, 247), (8, 223, 249)]
def zm_mlp : List Nat := [639, 525, 835, 839, 635, 207, 211, 823, 824, 825, 829, 830, 831, 843, 847, 848, 871, 875, 879, 891, 892, 901, 916, 925, 896, 897, 905, 906, 910, 920, 921, 929, 113, 565, 572, 581, 585, 593, 605, 614, 618, 609, 622, 626, 805, 806, 361, 569, 576, 577, 589, 597, 601, 389, 613, 347, 381, 351, 342, 343, 357, 369, 385, 365, 373, 377, 266, 268, 957, 958, 959, 960, 984, 1009, 964, 965, 970, 980, 974, 979, 969, 978, 988, 989, 993, 997, 1001, 1005, 1013, 1017, 1021, 1022, 109, 147, 202, 236, 261, 435, 439, 330, 717, 729, 409, 411, 412, 748, 756, 761, 762, 323, 338, 770, 775, 801, 814, 819, 856, 867, 887, 940, 948, 953, 406, 511, 515, 561, 631, 732, 759, 416, 419, 420, 421, 1143, 1175, 1168, 1181, 1146, 1156, 1160, 1164, 1171, 1184, 1188, 1192, 1196, 1199, 1203, 1150, 1153, 1178, 1283, 1315, 1312, 1363, 1357, 1360, 1139, 1261, 1342, 1338, 1354, 1309, 1382, 1350, 1370, 1132, 1129, 1135, 1223, 1242, 1253, 1257, 1268, 1271, 1279, 1290, 1378, 1397, 1401, 1393, 1404, 1389, 1432, 1436, 1448, 1428, 1440, 1444, 1424, 1451, 1416, 1420, 1469, 431, 643, 650, 657, 664, 671, 678, 685, 692, 699, 706, 713, 725, 737, 744, 752, 766, 788, 796, 810, 852, 863, 883, 936, 944, 1027, 1034, 101, 1041, 425, 1125, 1121, 640, 1207, 647, 1211, 654, 1215, 661, 1219, 668, 1226, 675, 1230, 682, 1234, 689, 1238, 696, 1245, 703, 1249, 710, 1264, 722, 1275, 734, 1286, 741, 1293, 749, 1297, 319, 1301, 334, 1305, 393, 1318, 763, 1322, 785, 1326, 397, 1330, 793, 1334, 807, 1346, 849, 1366, 860, 1374, 880, 1385, 933, 1408, 941, 1412, 1024, 1455, 1031, 1459, 401, 1463]
def zm_mlw (q : Nat × Nat × Nat) : Cond := .methodLink (zm_cn q.1) q.2.1 (zm_nm q.2.2)
/-- links to nest mates -/
def zm_nl : List (Nat × Nat × Nat) := [(0, 31, 11), (0, 35, 12), (1, 17, 2), (2, 26, 2), (5, 27, 2), (6, 34, 2)]
def zm_nlp : List Nat := [519, 522, 154, 209, 270, 199]
def zm_nlw (q : Nat × Nat × Nat) : Cond := .methodLinkNest (zm_cn q.1) q.2.1 (zm_nm q.2.2) "RefactoringReplay"
/-- classes that are made: class, index, class -/
def zm_ck : List (Nat × Nat × Nat) := [(1, 9, 0), (2, 9, 4), (2, 24, 0), (2, 34, 1), (5, 9, 4), (5, 18, 3), (5, 25, 0), (6, 7, 4), (6, 25, 1), (6, 32, 0), (6, 39, 2), (6, 46, 3), (6, 53, 5), (8, 8, 6), (8, 106, 7)]
def zm_ckp : List Nat := [151, 206, 208, 210, 265, 267, 269, 107, 145, 198, 200, 234, 259, 99, 1039]
def zm_ckw (q : Nat × Nat × Nat) : Cond := .classLink (zm_cn q.1) q.2.1 (zm_cn q.2.2)
def zm_ob : List (Nat × Nat) := [(0, 3), (1, 3), (2, 3), (3, 3), (4, 3), (5, 3), (6, 1), (7, 1)]
def zm_obp : List Nat := [157, 150, 205, 239, 112, 264, 104, 1044]
def zm_obw (q : Nat × Nat) : Cond := .methodLink (zm_cn q.1) q.2 Lib.objectInit
def zm_ac : List (Nat × Nat) := [(4, 37), (6, 203)]
def zm_acp : List Nat := [327, 1023]
def zm_acw (q : Nat × Nat) : Cond := .methodLink (zm_cn q.1) q.2 arraycopyName
/-- Math.max (0), Math.min (1) -/
def zm_mmn (k : Nat) : MethodName := cond (Nat.beq k 0) Lib.Math.max.name Lib.Math.min.name
theorem zm_max_c : Cond.code Lib.Math.max.name Lib.Math.max.code 2 (some .int) ∈ lw_tbl := List.mem_of_getElem? (i := 784) (by decide +kernel)
theorem zm_max_s : Cond.static Lib.Math.max.name ∈ lw_tbl := List.mem_of_getElem? (i := 783) (by decide +kernel)
theorem zm_min_c : Cond.code Lib.Math.min.name Lib.Math.min.code 2 (some .int) ∈ lw_tbl := List.mem_of_getElem? (i := 781) (by decide +kernel)
theorem zm_min_s : Cond.static Lib.Math.min.name ∈ lw_tbl := List.mem_of_getElem? (i := 780) (by decide +kernel)
theorem zm_math_i : Cond.initialized "java/lang/Math" ∈ lw_tbl := List.mem_of_getElem? (i := 97) (by decide +kernel)
theorem zm_sys_i : Cond.initialized "java/lang/System" ∈ lw_tbl := List.mem_of_getElem? (i := 96) (by decide +kernel)
theorem zm_acp_n : Cond.native arraycopyName ∈ lw_tbl := List.mem_of_getElem? (i := 329) (by decide +kernel)
theorem zm_acp_s : Cond.static arraycopyName ∈ lw_tbl := List.mem_of_getElem? (i := 328) (by decide +kernel)
theorem zm_obj_i : Cond.instanceMethod Lib.objectInit ∈ lw_tbl := List.mem_of_getElem? (i := 105) (by decide +kernel)
theorem zm_obj_c : Cond.code Lib.objectInit ⟨#[0xb1]⟩ 1 none ∈ lw_tbl := List.mem_of_getElem? (i := 106) (by decide +kernel)
theorem zm_ar_int : Cond.arrayClass .int ∈ lw_tbl := List.mem_of_getElem? (i := 143) (by decide +kernel)
theorem zm_ar_long : Cond.arrayClass .long ∈ lw_tbl := List.mem_of_getElem? (i := 144) (by decide +kernel)
theorem zm_ar_q : Cond.arrayOver (.object RX0) ∈ lw_tbl := List.mem_of_getElem? (i := 152) (by decide +kernel)
def zm_mm : List (Nat × Nat × Nat) := [(1, 22, 1), (1, 28, 0)]
def zm_mmp : List Nat := [779, 782]
def zm_mmw (q : Nat × Nat × Nat) : Cond := .methodLink (zm_cn q.1) q.2.1 (zm_mmn q.2.2)
def zm_lc : List (Nat × Nat × Nat) := [(4, 141, 18446744073709551615), (6, 211, 43), (6, 217, 31), (7, 295, 31), (7, 297, 43), (10, 314, 6148914691236517205), (10, 316, 3689348814741910323), (10, 318, 1085102592571150095)]
def zm_lcp : List Nat := [630, 405, 410, 1467, 1468, 354, 355, 356]
def zm_lcw (q : Nat × Nat × Nat) : Cond := .constantLong (zm_cn q.1) q.2.1 (Int64.ofNat q.2.2)
def zm_ic : List (Nat × Nat × Nat) := [(11, 265, 1431655765), (11, 266, 858993459), (11, 267, 252645135)]
def zm_icp : List Nat := [913, 914, 915]
def zm_icw (q : Nat × Nat × Nat) : Cond := .constant (zm_cn q.1) q.2.1 (Int32.ofNat q.2.2)
def zm_all {α : Type} (f : α → Cond) (l : List α) (p : List Nat) : Bool := (l.zip p).all (fun q => zm_at (f q.1) q.2) && Nat.beq l.length p.length
theorem zm_all_in {α : Type} {f : α → Cond} {l : List α} {p : List Nat} (h : zm_all f l p = true) : ∀ q ∈ l, f q ∈ lw_tbl := by
  intro q hq
  simp only [zm_all, Bool.and_eq_true, List.all_eq_true] at h
  obtain ⟨h1, h2⟩ := h
  have h2 : l.length = p.length := Nat.eq_of_beq_eq_true h2
  obtain ⟨i, hi, rfl⟩ := List.getElem_of_mem hq
  have h3 := h1 (l[i], p[i]) (by rw [List.mem_iff_getElem]; exact ⟨i, by simp; omega, by simp⟩)
  simp only [zm_at, decide_eq_true_eq] at h3
  exact List.mem_of_getElem? h3
set_option maxRecDepth 100000 in
theorem zm_mm_in : ∀ q ∈ zm_mm, zm_mmw q ∈ lw_tbl := zm_all_in (p := zm_mmp) (by decide +kernel)
set_option maxRecDepth 100000 in
theorem zm_fl_in : ∀ q ∈ zm_fl, zm_flw q ∈ lw_tbl := zm_all_in (p := zm_flp) (by decide +kernel)
set_option maxRecDepth 100000 in
theorem zm_ml_in : ∀ q ∈ zm_ml, zm_mlw q ∈ lw_tbl := zm_all_in (p := zm_mlp) (by decide +kernel)
set_option maxRecDepth 100000 in
theorem zm_nl_in : ∀ q ∈ zm_nl, zm_nlw q ∈ lw_tbl := zm_all_in (p := zm_nlp) (by decide +kernel)
set_option maxRecDepth 100000 in
theorem zm_ck_in : ∀ q ∈ zm_ck, zm_ckw q ∈ lw_tbl := zm_all_in (p := zm_ckp) (by decide +kernel)
set_option maxRecDepth 100000 in
theorem zm_ob_in : ∀ q ∈ zm_ob, zm_obw q ∈ lw_tbl := zm_all_in (p := zm_obp) (by decide +kernel)
set_option maxRecDepth 100000 in
theorem zm_ac_in : ∀ q ∈ zm_ac, zm_acw q ∈ lw_tbl := zm_all_in (p := zm_acp) (by decide +kernel)
set_option maxRecDepth 100000 in
theorem zm_lc_in : ∀ q ∈ zm_lc, zm_lcw q ∈ lw_tbl := zm_all_in (p := zm_lcp) (by decide +kernel)
set_option maxRecDepth 100000 in
theorem zm_ic_in : ∀ q ∈ zm_ic, zm_icw q ∈ lw_tbl := zm_all_in (p := zm_icp) (by decide +kernel)
/-- each class: its fields' words, the words that it can be made and is initialized -/
theorem zm_h0 : ∀ w ∈ u_ws RX0 TX0 5, w ∈ lw_tbl := by decide +kernel
theorem zm_n0 : ∀ a, a < 5 → ∀ b, b < 5 → a ≠ b → (TX0 a).2.1 ≠ (TX0 b).2.1 := by decide +kernel
theorem zm_t0 : ∀ k, k < 5 → parseFieldDescriptor (TX0 k).2.2.1 = some (tyX0 k) := by decide +kernel
theorem zm_i0 : Cond.instantiable RX0 5 ∈ lw_tbl := List.mem_of_getElem? (i := 153) (by decide +kernel)
theorem zm_z0 : Cond.initialized RX0 ∈ lw_tbl := List.mem_of_getElem? (i := 84) (by decide +kernel)
theorem zm_h1 : ∀ w ∈ u_ws RX1 TX1 2, w ∈ lw_tbl := by decide +kernel
theorem zm_n1 : ∀ a, a < 2 → ∀ b, b < 2 → a ≠ b → (TX1 a).2.1 ≠ (TX1 b).2.1 := by decide +kernel
theorem zm_t1 : ∀ k, k < 2 → parseFieldDescriptor (TX1 k).2.2.1 = some (tyX1 k) := by decide +kernel
theorem zm_i1 : Cond.instantiable RX1 2 ∈ lw_tbl := List.mem_of_getElem? (i := 146) (by decide +kernel)
theorem zm_z1 : Cond.initialized RX1 ∈ lw_tbl := List.mem_of_getElem? (i := 83) (by decide +kernel)
theorem zm_h2 : ∀ w ∈ u_ws RX2 TX2 7, w ∈ lw_tbl := by decide +kernel
theorem zm_n2 : ∀ a, a < 7 → ∀ b, b < 7 → a ≠ b → (TX2 a).2.1 ≠ (TX2 b).2.1 := by decide +kernel
theorem zm_t2 : ∀ k, k < 7 → parseFieldDescriptor (TX2 k).2.2.1 = some (tyX2 k) := by decide +kernel
theorem zm_i2 : Cond.instantiable RX2 7 ∈ lw_tbl := List.mem_of_getElem? (i := 201) (by decide +kernel)
theorem zm_z2 : Cond.initialized RX2 ∈ lw_tbl := List.mem_of_getElem? (i := 85) (by decide +kernel)
theorem zm_h3 : ∀ w ∈ u_ws RX3 TX3 4, w ∈ lw_tbl := by decide +kernel
theorem zm_n3 : ∀ a, a < 4 → ∀ b, b < 4 → a ≠ b → (TX3 a).2.1 ≠ (TX3 b).2.1 := by decide +kernel
theorem zm_t3 : ∀ k, k < 4 → parseFieldDescriptor (TX3 k).2.2.1 = some (tyX3 k) := by decide +kernel
theorem zm_i3 : Cond.instantiable RX3 4 ∈ lw_tbl := List.mem_of_getElem? (i := 235) (by decide +kernel)
theorem zm_z3 : Cond.initialized RX3 ∈ lw_tbl := List.mem_of_getElem? (i := 86) (by decide +kernel)
theorem zm_h4 : ∀ w ∈ u_ws RX4 TX4 6, w ∈ lw_tbl := by decide +kernel
theorem zm_n4 : ∀ a, a < 6 → ∀ b, b < 6 → a ≠ b → (TX4 a).2.1 ≠ (TX4 b).2.1 := by decide +kernel
theorem zm_t4 : ∀ k, k < 6 → parseFieldDescriptor (TX4 k).2.2.1 = some (tyX4 k) := by decide +kernel
theorem zm_i4 : Cond.instantiable RX4 6 ∈ lw_tbl := List.mem_of_getElem? (i := 108) (by decide +kernel)
theorem zm_z4 : Cond.initialized RX4 ∈ lw_tbl := List.mem_of_getElem? (i := 81) (by decide +kernel)
theorem zm_h5 : ∀ w ∈ u_ws RX5 TX5 4, w ∈ lw_tbl := by decide +kernel
theorem zm_n5 : ∀ a, a < 4 → ∀ b, b < 4 → a ≠ b → (TX5 a).2.1 ≠ (TX5 b).2.1 := by decide +kernel
theorem zm_t5 : ∀ k, k < 4 → parseFieldDescriptor (TX5 k).2.2.1 = some (tyX5 k) := by decide +kernel
theorem zm_i5 : Cond.instantiable RX5 4 ∈ lw_tbl := List.mem_of_getElem? (i := 260) (by decide +kernel)
theorem zm_z5 : Cond.initialized RX5 ∈ lw_tbl := List.mem_of_getElem? (i := 87) (by decide +kernel)
theorem zm_h6 : ∀ w ∈ u_ws RX6 TX6 11, w ∈ lw_tbl := by decide +kernel
theorem zm_n6 : ∀ a, a < 11 → ∀ b, b < 11 → a ≠ b → (TX6 a).2.1 ≠ (TX6 b).2.1 := by decide +kernel
theorem zm_t6 : ∀ k, k < 11 → parseFieldDescriptor (TX6 k).2.2.1 = some (tyX6 k) := by decide +kernel
theorem zm_i6 : Cond.instantiable RX6 11 ∈ lw_tbl := List.mem_of_getElem? (i := 100) (by decide +kernel)
theorem zm_z6 : Cond.initialized RX6 ∈ lw_tbl := List.mem_of_getElem? (i := 80) (by decide +kernel)
theorem zm_h7 : ∀ w ∈ u_ws RX7 TX7 25, w ∈ lw_tbl := by decide +kernel
theorem zm_n7 : ∀ a, a < 25 → ∀ b, b < 25 → a ≠ b → (TX7 a).2.1 ≠ (TX7 b).2.1 := by decide +kernel
theorem zm_t7 : ∀ k, k < 25 → parseFieldDescriptor (TX7 k).2.2.1 = some (tyX7 k) := by decide +kernel
theorem zm_i7 : Cond.instantiable RX7 25 ∈ lw_tbl := List.mem_of_getElem? (i := 1040) (by decide +kernel)
theorem zm_z7 : Cond.initialized RX7 ∈ lw_tbl := List.mem_of_getElem? (i := 88) (by decide +kernel)
end
section
abbrev zm_R : Type := Instr ⊕ (Nat × Nat × Nat × Nat)
abbrev zm_I : Type := Nat × zm_R × Nat
abbrev zm_C : Type := List (Nat × List zm_I)
noncomputable def zc_Arrays_fill : zm_C := [(3, [(0, .inl (.iconst 0), 1), (1, .inl (.istore_n 2), 2), (2, .inl (.aload_n 0), 3), (3, .inl .arraylength, 4)]),
  (7, [(4, .inl (.istore_n 3), 5), (5, .inl (.iload_n 2), 6), (6, .inl (.iload_n 3), 7), (7, .inl (.if_icmp .ge 13), 10)]),
  (13, [(10, .inl (.aload_n 0), 11), (11, .inl (.iload_n 2), 12), (12, .inl (.iload_n 1), 13), (13, .inl .iastore, 14)]),
  (20, [(14, .inl (.iinc 2 1), 17), (17, .inl (.goto (-12)), 20), (20, .inl .return_, 21)])]
noncomputable def zc_Prog_init : zm_C := [(9, [(0, .inl (.aload_n 0), 1), (1, .inr (8, 3, 0, 0), 4), (4, .inl (.aload_n 0), 5), (5, .inl (.bipush 12), 7), (7, .inl (.newarray .int), 9), (9, .inr (2, 9, 4, 0), 12)]),
  (21, [(12, .inl (.aload_n 0), 13), (13, .inl (.bipush 12), 15), (15, .inl (.newarray .int), 17), (17, .inr (2, 15, 4, 1), 20), (20, .inl (.aload_n 0), 21), (21, .inl (.bipush 12), 23)]),
  (33, [(23, .inl (.newarray .int), 25), (25, .inr (2, 18, 4, 2), 28), (28, .inl (.aload_n 0), 29), (29, .inl (.bipush 40), 31), (31, .inl (.newarray .int), 33), (33, .inr (2, 21, 4, 3), 36)]),
  (45, [(36, .inl (.aload_n 0), 37), (37, .inl (.bipush 40), 39), (39, .inl (.newarray .int), 41), (41, .inr (2, 24, 4, 4), 44), (44, .inl (.aload_n 0), 45), (45, .inl (.bipush 40), 47)]),
  (57, [(47, .inl (.newarray .long), 49), (49, .inr (2, 27, 4, 5), 52), (52, .inl (.aload_n 0), 53), (53, .inr (0, 15, 4, 1), 56), (56, .inl (.iconst (-1)), 57), (57, .inr (3, 31, 0, 2), 60)]),
  (68, [(60, .inl (.aload_n 0), 61), (61, .inr (0, 24, 4, 4), 64), (64, .inl (.iconst (-1)), 65), (65, .inr (3, 31, 0, 2), 68), (68, .inl .return_, 69)])]
noncomputable def zc_Change_init : zm_C := [(4, [(0, .inl (.aload_n 0), 1), (1, .inr (8, 3, 0, 0), 4), (4, .inl .return_, 5)])]
noncomputable def zc_List_init : zm_C := [(7, [(0, .inl (.aload_n 0), 1), (1, .inr (8, 3, 0, 0), 4), (4, .inl (.aload_n 0), 5), (5, .inl (.bipush 30), 7), (7, .inr (10, 9, 0, 0), 10)]),
  (16, [(10, .inr (2, 11, 1, 0), 13), (13, .inl (.iconst 0), 14), (14, .inl (.istore_n 1), 15), (15, .inl (.iload_n 1), 16), (16, .inl (.bipush 30), 18)]),
  (26, [(18, .inl (.if_icmp .ge 22), 21), (21, .inl (.aload_n 0), 22), (22, .inr (0, 11, 1, 0), 25), (25, .inl (.iload_n 1), 26), (26, .inr (9, 9, 0, 0), 29)]),
  (37, [(29, .inl .dup, 30), (30, .inr (7, 17, 2, 0), 33), (33, .inl .aastore, 34), (34, .inl (.iinc 1 1), 37), (37, .inl (.goto (-22)), 40)]),
  (45, [(40, .inl (.aload_n 0), 41), (41, .inl (.iconst 0), 42), (42, .inr (1, 18, 1, 1), 45), (45, .inl .return_, 46)])]
noncomputable def zc_Comm_init : zm_C := [(12, [(0, .inl (.aload_n 0), 1), (1, .inr (8, 3, 0, 0), 4), (4, .inl (.aload_n 0), 5), (5, .inr (9, 9, 4, 0), 8), (8, .inl .dup, 9), (9, .inr (6, 11, 1, 0), 12), (12, .inr (2, 12, 2, 0), 15)]),
  (27, [(15, .inl (.aload_n 0), 16), (16, .inr (9, 9, 4, 0), 19), (19, .inl .dup, 20), (20, .inr (6, 11, 1, 0), 23), (23, .inr (2, 18, 2, 1), 26), (26, .inl (.aload_n 0), 27), (27, .inr (9, 9, 4, 0), 30)]),
  (42, [(30, .inl .dup, 31), (31, .inr (6, 11, 1, 0), 34), (34, .inr (2, 21, 2, 2), 37), (37, .inl (.aload_n 0), 38), (38, .inr (9, 24, 0, 0), 41), (41, .inl .dup, 42), (42, .inr (7, 26, 2, 0), 45)]),
  (59, [(45, .inr (2, 27, 2, 3), 48), (48, .inl (.aload_n 0), 49), (49, .inr (9, 24, 0, 0), 52), (52, .inl .dup, 53), (53, .inr (7, 26, 2, 0), 56), (56, .inr (2, 31, 2, 4), 59), (59, .inl (.aload_n 0), 60)]),
  (74, [(60, .inr (9, 34, 1, 0), 63), (63, .inl .dup, 64), (64, .inr (6, 36, 3, 0), 67), (67, .inr (2, 37, 2, 5), 70), (70, .inl (.aload_n 0), 71), (71, .inr (9, 34, 1, 0), 74), (74, .inl .dup, 75)]),
  (81, [(75, .inr (6, 36, 3, 0), 78), (78, .inr (2, 41, 2, 6), 81), (81, .inl .return_, 82)])]
noncomputable def zc_Match_init : zm_C := [(7, [(0, .inl (.aload_n 0), 1), (1, .inr (8, 3, 0, 0), 4), (4, .inl (.aload_n 0), 5), (5, .inl (.bipush 12), 7), (7, .inl (.newarray .int), 9)]),
  (17, [(9, .inr (2, 9, 3, 0), 12), (12, .inl (.aload_n 0), 13), (13, .inl (.bipush 12), 15), (15, .inl (.newarray .int), 17), (17, .inr (2, 15, 3, 1), 20)]),
  (28, [(20, .inl (.aload_n 0), 21), (21, .inl (.bipush 40), 23), (23, .inl (.newarray .int), 25), (25, .inr (2, 18, 3, 2), 28), (28, .inl (.aload_n 0), 29)]),
  (36, [(29, .inl (.bipush 40), 31), (31, .inl (.newarray .int), 33), (33, .inr (2, 21, 3, 3), 36), (36, .inl .return_, 37)])]
noncomputable def zc_Repl_init : zm_C := [(8, [(0, .inl (.aload_n 0), 1), (1, .inr (8, 3, 0, 0), 4), (4, .inl (.aload_n 0), 5), (5, .inr (9, 9, 4, 0), 8), (8, .inl .dup, 9)]),
  (19, [(9, .inr (6, 11, 1, 0), 12), (12, .inr (2, 12, 5, 0), 15), (15, .inl (.aload_n 0), 16), (16, .inr (9, 18, 3, 0), 19), (19, .inl .dup, 20)]),
  (30, [(20, .inr (6, 20, 5, 0), 23), (23, .inr (2, 21, 5, 1), 26), (26, .inl (.aload_n 0), 27), (27, .inr (9, 25, 0, 0), 30), (30, .inl .dup, 31)]),
  (40, [(31, .inr (7, 27, 2, 0), 34), (34, .inr (2, 28, 5, 2), 37), (37, .inl (.aload_n 0), 38), (38, .inl (.bipush 30), 40), (40, .inl (.newarray .int), 42)]),
  (45, [(42, .inr (2, 32, 5, 3), 45), (45, .inl .return_, 46)])]
noncomputable def zc_RR_init : zm_C := [(15, [(0, .inl (.aload_n 0), 1), (1, .inr (8, 1, 0, 0), 4), (4, .inl (.aload_n 0), 5), (5, .inr (9, 7, 4, 0), 8), (8, .inl .dup, 9), (9, .inr (6, 9, 1, 0), 12), (12, .inr (2, 10, 6, 0), 15), (15, .inl (.aload_n 0), 16)]),
  (31, [(16, .inr (9, 7, 4, 0), 19), (19, .inl .dup, 20), (20, .inr (6, 9, 1, 0), 23), (23, .inr (2, 16, 6, 1), 26), (26, .inl (.aload_n 0), 27), (27, .inr (9, 7, 4, 0), 30), (30, .inl .dup, 31), (31, .inr (6, 9, 1, 0), 34)]),
  (49, [(34, .inr (2, 19, 6, 2), 37), (37, .inl (.aload_n 0), 38), (38, .inr (9, 7, 4, 0), 41), (41, .inl .dup, 42), (42, .inr (6, 9, 1, 0), 45), (45, .inr (2, 22, 6, 3), 48), (48, .inl (.aload_n 0), 49), (49, .inr (9, 25, 1, 0), 52)]),
  (67, [(52, .inl .dup, 53), (53, .inr (6, 27, 3, 0), 56), (56, .inr (2, 28, 6, 4), 59), (59, .inl (.aload_n 0), 60), (60, .inr (9, 32, 0, 0), 63), (63, .inl .dup, 64), (64, .inr (7, 34, 2, 0), 67), (67, .inr (2, 35, 6, 5), 70)]),
  (85, [(70, .inl (.aload_n 0), 71), (71, .inr (9, 39, 2, 0), 74), (74, .inl .dup, 75), (75, .inr (6, 41, 4, 0), 78), (78, .inr (2, 42, 6, 6), 81), (81, .inl (.aload_n 0), 82), (82, .inr (9, 46, 3, 0), 85), (85, .inl .dup, 86)]),
  (103, [(86, .inr (6, 48, 5, 0), 89), (89, .inr (2, 49, 6, 7), 92), (92, .inl (.aload_n 0), 93), (93, .inr (9, 53, 5, 0), 96), (96, .inl .dup, 97), (97, .inr (6, 55, 6, 0), 100), (100, .inr (2, 56, 6, 8), 103), (103, .inl (.aload_n 0), 104)]),
  (116, [(104, .inl (.bipush 30), 106), (106, .inl (.newarray .int), 108), (108, .inr (2, 60, 6, 9), 111), (111, .inl (.aload_n 0), 112), (112, .inl (.iconst 0), 113), (113, .inr (1, 64, 6, 10), 116), (116, .inl .return_, 117)])]
noncomputable def zc_Mod_init : zm_C := [(17, [(0, .inl (.aload_n 0), 1), (1, .inr (8, 1, 0, 0), 4), (4, .inl (.aload_n 0), 5), (5, .inl (.sipush 1704), 8), (8, .inl (.newarray .int), 10), (10, .inr (2, 7, 7, 0), 13), (13, .inl (.aload_n 0), 14), (14, .inl (.sipush 1704), 17), (17, .inl (.newarray .int), 19)]),
  (37, [(19, .inr (2, 13, 7, 1), 22), (22, .inl (.aload_n 0), 23), (23, .inl (.sipush 1704), 26), (26, .inl (.newarray .int), 28), (28, .inr (2, 16, 7, 2), 31), (31, .inl (.aload_n 0), 32), (32, .inl (.sipush 1704), 35), (35, .inl (.newarray .int), 37), (37, .inr (2, 19, 7, 3), 40)]),
  (58, [(40, .inl (.aload_n 0), 41), (41, .inl (.sipush 1704), 44), (44, .inl (.newarray .int), 46), (46, .inr (2, 22, 7, 4), 49), (49, .inl (.aload_n 0), 50), (50, .inl (.sipush 1704), 53), (53, .inl (.newarray .int), 55), (55, .inr (2, 25, 7, 5), 58), (58, .inl (.aload_n 0), 59)]),
  (77, [(59, .inl (.sipush 150), 62), (62, .inl (.newarray .int), 64), (64, .inr (2, 28, 7, 6), 67), (67, .inl (.aload_n 0), 68), (68, .inl (.sipush 150), 71), (71, .inl (.newarray .int), 73), (73, .inr (2, 31, 7, 7), 76), (76, .inl (.aload_n 0), 77), (77, .inl (.iconst 5), 78)]),
  (94, [(78, .inl (.newarray .int), 80), (80, .inr (2, 34, 7, 11), 83), (83, .inl (.aload_n 0), 84), (84, .inl (.iconst 5), 85), (85, .inl (.newarray .int), 87), (87, .inr (2, 37, 7, 12), 90), (90, .inl (.aload_n 0), 91), (91, .inl (.sipush 150), 94), (94, .inl (.newarray .int), 96)]),
  (112, [(96, .inr (2, 40, 7, 13), 99), (99, .inl (.aload_n 0), 100), (100, .inl (.bipush 12), 102), (102, .inl (.newarray .int), 104), (104, .inr (2, 43, 7, 14), 107), (107, .inl (.aload_n 0), 108), (108, .inl (.bipush 40), 110), (110, .inl (.newarray .int), 112), (112, .inr (2, 46, 7, 15), 115)]),
  (133, [(115, .inl (.aload_n 0), 116), (116, .inl (.sipush 1704), 119), (119, .inl (.newarray .int), 121), (121, .inr (2, 49, 7, 16), 124), (124, .inl (.aload_n 0), 125), (125, .inl (.sipush 1704), 128), (128, .inl (.newarray .int), 130), (130, .inr (2, 52, 7, 17), 133), (133, .inl (.aload_n 0), 134)]),
  (150, [(134, .inl (.bipush 30), 136), (136, .inl (.newarray .int), 138), (138, .inr (2, 55, 7, 18), 141), (141, .inl (.aload_n 0), 142), (142, .inl (.bipush 30), 144), (144, .inl (.newarray .int), 146), (146, .inr (2, 58, 7, 19), 149), (149, .inl (.aload_n 0), 150), (150, .inl (.iconst (-1)), 151)]),
  (154, [(151, .inr (1, 61, 7, 20), 154), (154, .inl .return_, 155)])]
noncomputable def zc_RR_programOf : zm_C := [(5, [(0, .inl (.iload_n 1), 1), (1, .inl (.ifCond .eq 18), 4), (4, .inl (.iload_n 1), 5), (5, .inl (.iconst 1), 6)]),
  (20, [(6, .inl (.if_icmp .eq 13), 9), (9, .inr (12, 84, 0, 0), 19), (19, .inl (.iload_n 1), 20), (20, .inl (.ifCond .ne 10), 23)]),
  (30, [(23, .inl (.aload_n 0), 24), (24, .inr (0, 16, 6, 1), 27), (27, .inl (.goto 7), 30), (30, .inl (.aload_n 0), 31)]),
  (34, [(31, .inr (0, 19, 6, 2), 34), (34, .inl .areturn, 35)])]
noncomputable def zc_Change_set : zm_C := [(6, [(0, .inl (.aload_n 0), 1), (1, .inl (.iload_n 1), 2), (2, .inr (1, 9, 0, 0), 5), (5, .inl (.aload_n 0), 6), (6, .inl (.iload_n 2), 7)]),
  (15, [(7, .inr (1, 15, 0, 1), 10), (10, .inl (.aload_n 0), 11), (11, .inl (.iload_n 3), 12), (12, .inr (1, 18, 0, 2), 15), (15, .inl (.aload_n 0), 16)]),
  (24, [(16, .inl (.iload 4), 18), (18, .inr (1, 21, 0, 3), 21), (21, .inl (.aload_n 0), 22), (22, .inl (.iload 5), 24), (24, .inr (1, 24, 0, 4), 27)]),
  (27, [(27, .inl .return_, 28)])]
noncomputable def zc_RR_isClassName : zm_C := [(6, [(0, .inl (.iload_n 0), 1), (1, .inl (.bipush 65), 3), (3, .inl (.if_icmp .lt 13), 6), (6, .inl (.iload_n 0), 7)]),
  (13, [(7, .inl (.bipush 90), 9), (9, .inl (.if_icmp .gt 7), 12), (12, .inl (.iconst 1), 13), (13, .inl (.goto 4), 16)]),
  (17, [(16, .inl (.iconst 0), 17), (17, .inl .ireturn, 18)])]
noncomputable def zc_RR_isMemberName : zm_C := [(6, [(0, .inl (.iload_n 0), 1), (1, .inl (.bipush 97), 3), (3, .inl (.if_icmp .lt 13), 6), (6, .inl (.iload_n 0), 7)]),
  (13, [(7, .inl (.bipush 122), 9), (9, .inl (.if_icmp .gt 7), 12), (12, .inl (.iconst 1), 13), (13, .inl (.goto 4), 16)]),
  (17, [(16, .inl (.iconst 0), 17), (17, .inl .ireturn, 18)])]
noncomputable def zc_Change_hasTwoMembers : zm_C := [(6, [(0, .inl (.aload_n 0), 1), (1, .inr (0, 9, 0, 0), 4), (4, .inl (.bipush 8), 6), (6, .inl (.if_icmp .eq 12), 9)]),
  (15, [(9, .inl (.aload_n 0), 10), (10, .inr (0, 9, 0, 0), 13), (13, .inl (.bipush 9), 15), (15, .inl (.if_icmp .ne 7), 18)]),
  (23, [(18, .inl (.iconst 1), 19), (19, .inl (.goto 4), 22), (22, .inl (.iconst 0), 23), (23, .inl .ireturn, 24)])]
noncomputable def zc_Change_hasLegalNames : zm_C := [(16, [(0, .inl (.aload_n 0), 1), (1, .inr (0, 15, 0, 1), 4), (4, .inr (4, 31, 11, 1), 7), (7, .inl (.ifCond .ne 5), 10), (10, .inl (.iconst 0), 11), (11, .inl .ireturn, 12), (12, .inl (.aload_n 0), 13), (13, .inr (0, 9, 0, 0), 16), (16, .inl (.iconst 4), 17)]),
  (33, [(17, .inl (.if_icmp .lt 15), 20), (20, .inl (.aload_n 0), 21), (21, .inr (0, 18, 0, 2), 24), (24, .inr (4, 35, 12, 1), 27), (27, .inl (.ifCond .ne 5), 30), (30, .inl (.iconst 0), 31), (31, .inl .ireturn, 32), (32, .inl (.aload_n 0), 33), (33, .inr (0, 9, 0, 0), 36)]),
  (53, [(36, .inl (.iconst 2), 37), (37, .inl (.if_icmp .eq 34), 40), (40, .inl (.aload_n 0), 41), (41, .inr (0, 9, 0, 0), 44), (44, .inl (.bipush 7), 46), (46, .inl (.if_icmp .eq 25), 49), (49, .inl (.aload_n 0), 50), (50, .inr (5, 38, 13, 0), 53), (53, .inl (.ifCond .ne 18), 56)]),
  (72, [(56, .inl (.aload_n 0), 57), (57, .inr (0, 9, 0, 0), 60), (60, .inl (.iconst 3), 61), (61, .inl (.if_icmp .ne 14), 64), (64, .inl (.aload_n 0), 65), (65, .inr (0, 21, 0, 3), 68), (68, .inl (.ifCond .eq 7), 71), (71, .inl (.iconst 1), 72), (72, .inl (.goto 4), 75)]),
  (91, [(75, .inl (.iconst 0), 76), (76, .inl (.istore_n 1), 77), (77, .inl (.iload_n 1), 78), (78, .inl (.ifCond .eq 15), 81), (81, .inl (.aload_n 0), 82), (82, .inr (0, 21, 0, 3), 85), (85, .inr (4, 31, 11, 1), 88), (88, .inl (.ifCond .ne 5), 91), (91, .inl (.iconst 0), 92)]),
  (109, [(92, .inl .ireturn, 93), (93, .inl (.aload_n 0), 94), (94, .inr (0, 9, 0, 0), 97), (97, .inl (.bipush 6), 99), (99, .inl (.if_icmp .eq 10), 102), (102, .inl (.aload_n 0), 103), (103, .inr (5, 38, 13, 0), 106), (106, .inl (.ifCond .eq 7), 109), (109, .inl (.iconst 1), 110)]),
  (126, [(110, .inl (.goto 4), 113), (113, .inl (.iconst 0), 114), (114, .inl (.istore_n 2), 115), (115, .inl (.iload_n 2), 116), (116, .inl (.ifCond .eq 13), 119), (119, .inl (.aload_n 0), 120), (120, .inr (0, 24, 0, 4), 123), (123, .inr (4, 35, 12, 1), 126), (126, .inl (.ifCond .eq 7), 129)]),
  (134, [(129, .inl (.iconst 1), 130), (130, .inl (.goto 4), 133), (133, .inl (.iconst 0), 134), (134, .inl .ireturn, 135)])]
noncomputable def zc_Prog_classAt : zm_C := [(5, [(0, .inl (.iconst 0), 1), (1, .inl (.istore_n 2), 2), (2, .inl (.iload_n 2), 3), (3, .inl (.bipush 12), 5), (5, .inl (.if_icmp .ge 25), 8)]),
  (16, [(8, .inl (.iload_n 1), 9), (9, .inl (.ifCond .eq 21), 12), (12, .inl (.aload_n 0), 13), (13, .inr (0, 9, 4, 0), 16), (16, .inl (.iload_n 2), 17)]),
  (23, [(17, .inl .iaload, 18), (18, .inl (.iload_n 1), 19), (19, .inl (.if_icmp .ne 5), 22), (22, .inl (.iload_n 2), 23), (23, .inl .ireturn, 24)]),
  (31, [(24, .inl (.iinc 2 1), 27), (27, .inl (.goto (-25)), 30), (30, .inl (.iconst (-1)), 31), (31, .inl .ireturn, 32)])]
noncomputable def zc_Prog_freeSlot : zm_C := [(4, [(0, .inl (.iconst 0), 1), (1, .inl (.istore_n 1), 2), (2, .inl (.iload_n 1), 3), (3, .inl (.aload_n 0), 4), (4, .inl .arraylength, 5)]),
  (11, [(5, .inl (.if_icmp .ge 17), 8), (8, .inl (.aload_n 0), 9), (9, .inl (.iload_n 1), 10), (10, .inl .iaload, 11), (11, .inl (.ifCond .ne 5), 14)]),
  (22, [(14, .inl (.iload_n 1), 15), (15, .inl .ireturn, 16), (16, .inl (.iinc 1 1), 19), (19, .inl (.goto (-17)), 22), (22, .inl (.iconst (-1)), 23)]),
  (23, [(23, .inl .ireturn, 24)])]
noncomputable def zc_Prog_putClass : zm_C := [(8, [(0, .inl (.aload_n 0), 1), (1, .inl (.iload_n 1), 2), (2, .inr (5, 107, 15, 1), 5), (5, .inl (.ifCond .lt 5), 8), (8, .inl (.iconst 1), 9)]),
  (17, [(9, .inl .ireturn, 10), (10, .inl (.aload_n 0), 11), (11, .inr (0, 9, 4, 0), 14), (14, .inr (3, 110, 16, 1), 17), (17, .inl (.istore_n 2), 18)]),
  (25, [(18, .inl (.iload_n 2), 19), (19, .inl (.ifCond .ge 6), 22), (22, .inl (.bipush 9), 24), (24, .inl .ireturn, 25), (25, .inl (.aload_n 0), 26)]),
  (32, [(26, .inr (0, 9, 4, 0), 29), (29, .inl (.iload_n 2), 30), (30, .inl (.iload_n 1), 31), (31, .inl .iastore, 32), (32, .inl (.iconst 0), 33)]),
  (33, [(33, .inl .ireturn, 34)])]
noncomputable def zc_Prog_namesIn : zm_C := [(7, [(0, .inl (.iconst 0), 1), (1, .inl (.istore_n 2), 2), (2, .inl (.iconst 0), 3), (3, .inl (.istore_n 3), 4), (4, .inl (.iload_n 3), 5), (5, .inl (.bipush 40), 7), (7, .inl (.if_icmp .ge 45), 10)]),
  (20, [(10, .inl (.aload_n 0), 11), (11, .inr (0, 24, 4, 4), 14), (14, .inl (.iload_n 3), 15), (15, .inl .iaload, 16), (16, .inl (.ifCond .lt 30), 19), (19, .inl (.iload_n 1), 20), (20, .inl (.aload_n 0), 21)]),
  (29, [(21, .inr (0, 24, 4, 4), 24), (24, .inl (.iload_n 3), 25), (25, .inl .iaload, 26), (26, .inl .ishr, 27), (27, .inl (.iconst 1), 28), (28, .inl .iand, 29), (29, .inl (.ifCond .eq 17), 32)]),
  (40, [(32, .inl (.iload_n 2), 33), (33, .inl (.iconst 1), 34), (34, .inl (.aload_n 0), 35), (35, .inr (0, 21, 4, 3), 38), (38, .inl (.iload_n 3), 39), (39, .inl .iaload, 40), (40, .inl (.bipush 97), 42)]),
  (52, [(42, .inl .isub, 43), (43, .inl .ishl, 44), (44, .inl .ior, 45), (45, .inl (.istore_n 2), 46), (46, .inl (.iinc 3 1), 49), (49, .inl (.goto (-45)), 52), (52, .inl (.iload_n 2), 53)]),
  (53, [(53, .inl .ireturn, 54)])]
noncomputable def zc_Prog_below : zm_C := [(4, [(0, .inl (.iconst 0), 1), (1, .inl (.istore_n 2), 2), (2, .inl (.iconst 0), 3), (3, .inl (.istore_n 3), 4), (4, .inl (.iload_n 3), 5)]),
  (12, [(5, .inl (.bipush 12), 7), (7, .inl (.if_icmp .ge 24), 10), (10, .inl (.iload_n 2), 11), (11, .inl (.aload_n 0), 12), (12, .inr (0, 18, 4, 2), 15)]),
  (19, [(15, .inl (.iload_n 3), 16), (16, .inl .iaload, 17), (17, .inl (.iload_n 1), 18), (18, .inl .ishr, 19), (19, .inl (.iconst 1), 20)]),
  (24, [(20, .inl .iand, 21), (21, .inl (.iload_n 3), 22), (22, .inl .ishl, 23), (23, .inl .ior, 24), (24, .inl (.istore_n 2), 25)]),
  (32, [(25, .inl (.iinc 3 1), 28), (28, .inl (.goto (-24)), 31), (31, .inl (.iload_n 2), 32), (32, .inl .ireturn, 33)])]
noncomputable def zc_Prog_dropClass : zm_C := [(10, [(0, .inl (.aload_n 0), 1), (1, .inl (.iload_n 1), 2), (2, .inr (5, 107, 15, 1), 5), (5, .inl (.istore_n 2), 6), (6, .inl (.iload_n 2), 7), (7, .inl (.ifCond .ge 5), 10), (10, .inl (.iconst 2), 11)]),
  (19, [(11, .inl .ireturn, 12), (12, .inl (.aload_n 0), 13), (13, .inl (.iconst 1), 14), (14, .inl (.iload_n 2), 15), (15, .inl .ishl, 16), (16, .inr (5, 114, 18, 1), 19), (19, .inl (.ifCond .ne 11), 22)]),
  (32, [(22, .inl (.aload_n 0), 23), (23, .inl (.iload_n 2), 24), (24, .inr (5, 117, 19, 1), 27), (27, .inl (.ifCond .eq 5), 30), (30, .inl (.iconst 3), 31), (31, .inl .ireturn, 32), (32, .inl (.aload_n 0), 33)]),
  (43, [(33, .inr (0, 9, 4, 0), 36), (36, .inl (.iload_n 2), 37), (37, .inl (.iconst 0), 38), (38, .inl .iastore, 39), (39, .inl (.aload_n 0), 40), (40, .inr (0, 15, 4, 1), 43), (43, .inl (.iload_n 2), 44)]),
  (52, [(44, .inl (.iconst (-1)), 45), (45, .inl .iastore, 46), (46, .inl (.aload_n 0), 47), (47, .inr (0, 18, 4, 2), 50), (50, .inl (.iload_n 2), 51), (51, .inl (.iconst 0), 52), (52, .inl .iastore, 53)]),
  (54, [(53, .inl (.iconst 0), 54), (54, .inl .ireturn, 55)])]
noncomputable def zc_Prog_giveClassName : zm_C := [(6, [(0, .inl (.aload_n 0), 1), (1, .inl (.iload_n 1), 2), (2, .inr (5, 107, 15, 1), 5), (5, .inl (.istore_n 3), 6), (6, .inl (.iload_n 3), 7)]),
  (13, [(7, .inl (.ifCond .ge 5), 10), (10, .inl (.iconst 2), 11), (11, .inl .ireturn, 12), (12, .inl (.aload_n 0), 13), (13, .inl (.iload_n 2), 14)]),
  (22, [(14, .inr (5, 107, 15, 1), 17), (17, .inl (.ifCond .lt 5), 20), (20, .inl (.iconst 1), 21), (21, .inl .ireturn, 22), (22, .inl (.aload_n 0), 23)]),
  (29, [(23, .inr (0, 9, 4, 0), 26), (26, .inl (.iload_n 3), 27), (27, .inl (.iload_n 2), 28), (28, .inl .iastore, 29), (29, .inl (.iconst 0), 30)]),
  (30, [(30, .inl .ireturn, 31)])]
noncomputable def zc_Prog_traceAncestors : zm_C := [(9, [(0, .inl (.iconst 0), 1), (1, .inl (.istore_n 1), 2), (2, .inl (.iload_n 1), 3), (3, .inl (.bipush 12), 5), (5, .inl (.if_icmp .ge 58), 8), (8, .inl (.iconst 0), 9), (9, .inl (.istore_n 2), 10)]),
  (18, [(10, .inl (.aload_n 0), 11), (11, .inr (0, 15, 4, 1), 14), (14, .inl (.iload_n 1), 15), (15, .inl .iaload, 16), (16, .inl (.istore_n 3), 17), (17, .inl (.iconst 0), 18), (18, .inl (.istore 4), 20)]),
  (32, [(20, .inl (.iload 4), 22), (22, .inl (.bipush 12), 24), (24, .inl (.if_icmp .ge 26), 27), (27, .inl (.iload_n 3), 28), (28, .inl (.ifCond .lt 22), 31), (31, .inl (.iload_n 2), 32), (32, .inl (.iconst 1), 33)]),
  (41, [(33, .inl (.iload_n 3), 34), (34, .inl .ishl, 35), (35, .inl .ior, 36), (36, .inl (.istore_n 2), 37), (37, .inl (.aload_n 0), 38), (38, .inr (0, 15, 4, 1), 41), (41, .inl (.iload_n 3), 42)]),
  (54, [(42, .inl .iaload, 43), (43, .inl (.istore_n 3), 44), (44, .inl (.iinc 4 1), 47), (47, .inl (.goto (-27)), 50), (50, .inl (.aload_n 0), 51), (51, .inr (0, 18, 4, 2), 54), (54, .inl (.iload_n 1), 55)]),
  (63, [(55, .inl (.iload_n 2), 56), (56, .inl .iastore, 57), (57, .inl (.iinc 1 1), 60), (60, .inl (.goto (-58)), 63), (63, .inl .return_, 64)])]
noncomputable def zc_Prog_giveSuper : zm_C := [(11, [(0, .inl (.aload_n 0), 1), (1, .inl (.iload_n 1), 2), (2, .inr (5, 107, 15, 1), 5), (5, .inl (.istore_n 3), 6), (6, .inl (.aload_n 0), 7), (7, .inl (.iload_n 2), 8), (8, .inr (5, 107, 15, 1), 11), (11, .inl (.istore 4), 13)]),
  (27, [(13, .inl (.iload_n 3), 14), (14, .inl (.ifCond .lt 12), 17), (17, .inl (.iload_n 2), 18), (18, .inl (.ifCond .eq 10), 21), (21, .inl (.iload 4), 23), (23, .inl (.ifCond .ge 5), 26), (26, .inl (.iconst 2), 27), (27, .inl .ireturn, 28)]),
  (38, [(28, .inl (.iload 4), 30), (30, .inl (.ifCond .lt 58), 33), (33, .inl (.iconst 1), 34), (34, .inl (.iload_n 3), 35), (35, .inl .ishl, 36), (36, .inl (.aload_n 0), 37), (37, .inl (.iload_n 3), 38), (38, .inr (5, 117, 19, 1), 41)]),
  (51, [(41, .inl .ior, 42), (42, .inl (.istore 5), 44), (44, .inl (.iload 5), 46), (46, .inl (.iload 4), 48), (48, .inl .ishr, 49), (49, .inl (.iconst 1), 50), (50, .inl .iand, 51), (51, .inl (.ifCond .eq 5), 54)]),
  (64, [(54, .inl (.iconst 4), 55), (55, .inl .ireturn, 56), (56, .inl (.iconst 1), 57), (57, .inl (.iload 4), 59), (59, .inl .ishl, 60), (60, .inl (.aload_n 0), 61), (61, .inr (0, 18, 4, 2), 64), (64, .inl (.iload 4), 66)]),
  (77, [(66, .inl .iaload, 67), (67, .inl .ior, 68), (68, .inl (.istore 6), 70), (70, .inl (.aload_n 0), 71), (71, .inl (.iload 5), 73), (73, .inr (5, 114, 18, 1), 76), (76, .inl (.aload_n 0), 77), (77, .inl (.iload 6), 79)]),
  (92, [(79, .inr (5, 114, 18, 1), 82), (82, .inl .iand, 83), (83, .inl (.ifCond .eq 5), 86), (86, .inl (.iconst 5), 87), (87, .inl .ireturn, 88), (88, .inl (.aload_n 0), 89), (89, .inr (0, 15, 4, 1), 92), (92, .inl (.iload_n 3), 93)]),
  (101, [(93, .inl (.iload 4), 95), (95, .inl .iastore, 96), (96, .inl (.aload_n 0), 97), (97, .inr (5, 120, 22, 0), 100), (100, .inl (.iconst 0), 101), (101, .inl .ireturn, 102)])]
noncomputable def zc_Prog_holds : zm_C := [(10, [(0, .inl (.iconst 0), 1), (1, .inl (.istore 4), 3), (3, .inl (.iload 4), 5), (5, .inl (.bipush 40), 7), (7, .inl (.if_icmp .ge 52), 10), (10, .inl (.iload 4), 12)]),
  (22, [(12, .inl (.iload_n 3), 13), (13, .inl (.if_icmp .eq 40), 16), (16, .inl (.aload_n 0), 17), (17, .inr (0, 21, 4, 3), 20), (20, .inl (.iload 4), 22), (22, .inl .iaload, 23)]),
  (33, [(23, .inl (.iload_n 2), 24), (24, .inl (.if_icmp .ne 29), 27), (27, .inl (.aload_n 0), 28), (28, .inr (0, 24, 4, 4), 31), (31, .inl (.iload 4), 33), (33, .inl .iaload, 34)]),
  (44, [(34, .inl (.ifCond .lt 19), 37), (37, .inl (.iload_n 1), 38), (38, .inl (.aload_n 0), 39), (39, .inr (0, 24, 4, 4), 42), (42, .inl (.iload 4), 44), (44, .inl .iaload, 45)]),
  (52, [(45, .inl .ishr, 46), (46, .inl (.iconst 1), 47), (47, .inl .iand, 48), (48, .inl (.ifCond .eq 5), 51), (51, .inl (.iconst 1), 52), (52, .inl .ireturn, 53)]),
  (60, [(53, .inl (.iinc 4 1), 56), (56, .inl (.goto (-53)), 59), (59, .inl (.iconst 0), 60), (60, .inl .ireturn, 61)])]
noncomputable def zc_Prog_line : zm_C := [(3, [(0, .inl (.iconst 1), 1), (1, .inl (.iload_n 1), 2), (2, .inl .ishl, 3), (3, .inl (.aload_n 0), 4)]),
  (9, [(4, .inr (0, 18, 4, 2), 7), (7, .inl (.iload_n 1), 8), (8, .inl .iaload, 9), (9, .inl .ior, 10)]),
  (15, [(10, .inl (.aload_n 0), 11), (11, .inl (.iload_n 1), 12), (12, .inr (5, 117, 19, 1), 15), (15, .inl .ior, 16)]),
  (16, [(16, .inl .ireturn, 17)])]
noncomputable def zc_Prog_putMember : zm_C := [(10, [(0, .inl (.aload_n 0), 1), (1, .inl (.iload_n 1), 2), (2, .inr (5, 107, 15, 1), 5), (5, .inl (.istore_n 3), 6), (6, .inl (.iload_n 3), 7), (7, .inl (.ifCond .ge 5), 10), (10, .inl (.iconst 2), 11)]),
  (17, [(11, .inl .ireturn, 12), (12, .inl (.aload_n 0), 13), (13, .inl (.iconst 1), 14), (14, .inl (.iload_n 3), 15), (15, .inl .ishl, 16), (16, .inl (.iload_n 2), 17), (17, .inl (.iconst (-1)), 18)]),
  (28, [(18, .inr (5, 123, 24, 3), 21), (21, .inl (.ifCond .eq 5), 24), (24, .inl (.iconst 1), 25), (25, .inl .ireturn, 26), (26, .inl (.aload_n 0), 27), (27, .inl (.aload_n 0), 28), (28, .inl (.iload_n 3), 29)]),
  (41, [(29, .inr (5, 127, 25, 1), 32), (32, .inl (.iload_n 2), 33), (33, .inl (.iconst (-1)), 34), (34, .inr (5, 123, 24, 3), 37), (37, .inl (.ifCond .eq 5), 40), (40, .inl (.iconst 5), 41), (41, .inl .ireturn, 42)]),
  (56, [(42, .inl (.aload_n 0), 43), (43, .inr (0, 21, 4, 3), 46), (46, .inr (3, 110, 16, 1), 49), (49, .inl (.istore 4), 51), (51, .inl (.iload 4), 53), (53, .inl (.ifCond .ge 6), 56), (56, .inl (.bipush 9), 58)]),
  (67, [(58, .inl .ireturn, 59), (59, .inl (.aload_n 0), 60), (60, .inr (0, 21, 4, 3), 63), (63, .inl (.iload 4), 65), (65, .inl (.iload_n 2), 66), (66, .inl .iastore, 67), (67, .inl (.aload_n 0), 68)]),
  (76, [(68, .inr (0, 24, 4, 4), 71), (71, .inl (.iload 4), 73), (73, .inl (.iload_n 3), 74), (74, .inl .iastore, 75), (75, .inl (.iconst 0), 76), (76, .inl .ireturn, 77)])]
noncomputable def zc_Prog_memberIn : zm_C := [(5, [(0, .inl (.iconst 0), 1), (1, .inl (.istore_n 3), 2), (2, .inl (.iload_n 3), 3), (3, .inl (.bipush 40), 5), (5, .inl (.if_icmp .ge 31), 8)]),
  (14, [(8, .inl (.aload_n 0), 9), (9, .inr (0, 24, 4, 4), 12), (12, .inl (.iload_n 3), 13), (13, .inl .iaload, 14), (14, .inl (.iload_n 1), 15)]),
  (23, [(15, .inl (.if_icmp .ne 15), 18), (18, .inl (.aload_n 0), 19), (19, .inr (0, 21, 4, 3), 22), (22, .inl (.iload_n 3), 23), (23, .inl .iaload, 24)]),
  (30, [(24, .inl (.iload_n 2), 25), (25, .inl (.if_icmp .ne 5), 28), (28, .inl (.iload_n 3), 29), (29, .inl .ireturn, 30), (30, .inl (.iinc 3 1), 33)]),
  (37, [(33, .inl (.goto (-31)), 36), (36, .inl (.iconst (-1)), 37), (37, .inl .ireturn, 38)])]
noncomputable def zc_Prog_memberAt : zm_C := [(5, [(0, .inl (.aload_n 0), 1), (1, .inl (.iload_n 1), 2), (2, .inr (5, 107, 15, 1), 5), (5, .inl (.istore_n 3), 6)]),
  (11, [(6, .inl (.iload_n 3), 7), (7, .inl (.ifCond .ge 7), 10), (10, .inl (.iconst (-1)), 11), (11, .inl (.goto 9), 14)]),
  (17, [(14, .inl (.aload_n 0), 15), (15, .inl (.iload_n 3), 16), (16, .inl (.iload_n 2), 17), (17, .inr (5, 143, 27, 2), 20)]),
  (20, [(20, .inl .ireturn, 21)])]
noncomputable def zc_Prog_isUse : zm_C := [(7, [(0, .inl (.iload_n 1), 1), (1, .inl (.ifCond .lt 32), 4), (4, .inl (.iload_n 1), 5), (5, .inl (.bipush 40), 7), (7, .inl (.if_icmp .ge 26), 10)]),
  (18, [(10, .inl (.iload_n 2), 11), (11, .inl (.ifCond .lt 22), 14), (14, .inl (.aload_n 0), 15), (15, .inr (0, 27, 4, 5), 18), (18, .inl (.iload_n 1), 19)]),
  (23, [(19, .inl .laload, 20), (20, .inl (.iload_n 2), 21), (21, .inl .lshr, 22), (22, .inl (.lconst 1), 23), (23, .inl .land, 24)]),
  (30, [(24, .inl (.lconst 0), 25), (25, .inl .lcmp, 26), (26, .inl (.ifCond .eq 7), 29), (29, .inl (.iconst 1), 30), (30, .inl (.goto 4), 33)]),
  (34, [(33, .inl (.iconst 0), 34), (34, .inl .ireturn, 35)])]
noncomputable def zc_Prog_usersOf : zm_C := [(4, [(0, .inl (.iconst 0), 1), (1, .inl (.istore_n 2), 2), (2, .inl (.iconst 0), 3), (3, .inl (.istore_n 3), 4), (4, .inl (.iload_n 3), 5)]),
  (12, [(5, .inl (.bipush 40), 7), (7, .inl (.if_icmp .ge 23), 10), (10, .inl (.iload_n 2), 11), (11, .inl (.aload_n 0), 12), (12, .inr (0, 27, 4, 5), 15)]),
  (19, [(15, .inl (.iload_n 3), 16), (16, .inl .laload, 17), (17, .inl (.iload_n 1), 18), (18, .inl .lshr, 19), (19, .inl (.lconst 1), 20)]),
  (24, [(20, .inl .land, 21), (21, .inl .l2i, 22), (22, .inl .iadd, 23), (23, .inl (.istore_n 2), 24), (24, .inl (.iinc 3 1), 27)]),
  (31, [(27, .inl (.goto (-23)), 30), (30, .inl (.iload_n 2), 31), (31, .inl .ireturn, 32)])]
noncomputable def zc_Prog_dropMember : zm_C := [(8, [(0, .inl (.aload_n 0), 1), (1, .inl (.iload_n 1), 2), (2, .inl (.iload_n 2), 3), (3, .inr (5, 88, 28, 2), 6), (6, .inl (.istore_n 3), 7), (7, .inl (.iload_n 3), 8), (8, .inl (.ifCond .ge 5), 11)]),
  (19, [(11, .inl (.iconst 2), 12), (12, .inl .ireturn, 13), (13, .inl (.aload_n 0), 14), (14, .inl (.iload_n 3), 15), (15, .inl (.iload_n 3), 16), (16, .inr (5, 130, 29, 2), 19), (19, .inl (.ifCond .eq 7), 22)]),
  (31, [(22, .inl (.iconst 1), 23), (23, .inl (.goto 4), 26), (26, .inl (.iconst 0), 27), (27, .inl (.istore 4), 29), (29, .inl (.aload_n 0), 30), (30, .inl (.iload_n 3), 31), (31, .inr (5, 134, 30, 1), 34)]),
  (45, [(34, .inl (.iload 4), 36), (36, .inl (.if_icmp .le 5), 39), (39, .inl (.iconst 3), 40), (40, .inl .ireturn, 41), (41, .inl (.aload_n 0), 42), (42, .inr (0, 21, 4, 3), 45), (45, .inl (.iload_n 3), 46)]),
  (54, [(46, .inl (.iconst 0), 47), (47, .inl .iastore, 48), (48, .inl (.aload_n 0), 49), (49, .inr (0, 24, 4, 4), 52), (52, .inl (.iload_n 3), 53), (53, .inl (.iconst (-1)), 54), (54, .inl .iastore, 55)]),
  (63, [(55, .inl (.aload_n 0), 56), (56, .inr (0, 27, 4, 5), 59), (59, .inl (.iload_n 3), 60), (60, .inl (.lconst 0), 61), (61, .inl .lastore, 62), (62, .inl (.iconst 0), 63), (63, .inl .ireturn, 64)])]
noncomputable def zc_Prog_giveMemberName : zm_C := [(8, [(0, .inl (.aload_n 0), 1), (1, .inl (.iload_n 1), 2), (2, .inl (.iload_n 2), 3), (3, .inr (5, 88, 28, 2), 6), (6, .inl (.istore 4), 8), (8, .inl (.aload_n 0), 9)]),
  (20, [(9, .inl (.iload_n 1), 10), (10, .inr (5, 107, 15, 1), 13), (13, .inl (.istore 5), 15), (15, .inl (.iload 4), 17), (17, .inl (.ifCond .lt 8), 20), (20, .inl (.iload 5), 22)]),
  (29, [(22, .inl (.ifCond .ge 5), 25), (25, .inl (.iconst 2), 26), (26, .inl .ireturn, 27), (27, .inl (.aload_n 0), 28), (28, .inl (.aload_n 0), 29), (29, .inl (.iload 5), 31)]),
  (42, [(31, .inr (5, 127, 25, 1), 34), (34, .inl (.iload_n 3), 35), (35, .inl (.iconst (-1)), 36), (36, .inr (5, 123, 24, 3), 39), (39, .inl (.ifCond .eq 5), 42), (42, .inl (.iconst 5), 43)]),
  (51, [(43, .inl .ireturn, 44), (44, .inl (.aload_n 0), 45), (45, .inr (0, 21, 4, 3), 48), (48, .inl (.iload 4), 50), (50, .inl (.iload_n 3), 51), (51, .inl .iastore, 52)]),
  (53, [(52, .inl (.iconst 0), 53), (53, .inl .ireturn, 54)])]
noncomputable def zc_Prog_giveOwner : zm_C := [(9, [(0, .inl (.aload_n 0), 1), (1, .inl (.iload_n 1), 2), (2, .inl (.iload_n 2), 3), (3, .inr (5, 88, 28, 2), 6), (6, .inl (.istore 4), 8), (8, .inl (.aload_n 0), 9), (9, .inl (.iload_n 3), 10)]),
  (25, [(10, .inr (5, 107, 15, 1), 13), (13, .inl (.istore 5), 15), (15, .inl (.iload 4), 17), (17, .inl (.ifCond .lt 8), 20), (20, .inl (.iload 5), 22), (22, .inl (.ifCond .ge 5), 25), (25, .inl (.iconst 2), 26)]),
  (36, [(26, .inl .ireturn, 27), (27, .inl (.aload_n 0), 28), (28, .inr (0, 24, 4, 4), 31), (31, .inl (.iload 4), 33), (33, .inl .iaload, 34), (34, .inl (.iload 5), 36), (36, .inl (.if_icmp .ne 5), 39)]),
  (48, [(39, .inl (.iconst 1), 40), (40, .inl .ireturn, 41), (41, .inl (.aload_n 0), 42), (42, .inl (.aload_n 0), 43), (43, .inl (.iload 5), 45), (45, .inr (5, 127, 25, 1), 48), (48, .inl (.iload_n 2), 49)]),
  (60, [(49, .inl (.iload 4), 51), (51, .inr (5, 123, 24, 3), 54), (54, .inl (.ifCond .eq 5), 57), (57, .inl (.iconst 5), 58), (58, .inl .ireturn, 59), (59, .inl (.aload_n 0), 60), (60, .inr (0, 24, 4, 4), 63)]),
  (69, [(63, .inl (.iload 4), 65), (65, .inl (.iload 5), 67), (67, .inl .iastore, 68), (68, .inl (.iconst 0), 69), (69, .inl .ireturn, 70)])]
noncomputable def zc_Long_bitCount : zm_C := [(9, [(0, .inl (.lload_n 0), 1), (1, .inl (.lload_n 0), 2), (2, .inl (.iconst 1), 3), (3, .inl .lushr, 4), (4, .inr (14, 314, 6148914691236517205, 0), 7), (7, .inl .land, 8), (8, .inl .lsub, 9), (9, .inl (.lstore_n 0), 10)]),
  (21, [(10, .inl (.lload_n 0), 11), (11, .inr (14, 316, 3689348814741910323, 0), 14), (14, .inl .land, 15), (15, .inl (.lload_n 0), 16), (16, .inl (.iconst 2), 17), (17, .inl .lushr, 18), (18, .inr (14, 316, 3689348814741910323, 0), 21), (21, .inl .land, 22)]),
  (29, [(22, .inl .ladd, 23), (23, .inl (.lstore_n 0), 24), (24, .inl (.lload_n 0), 25), (25, .inl (.lload_n 0), 26), (26, .inl (.iconst 4), 27), (27, .inl .lushr, 28), (28, .inl .ladd, 29), (29, .inr (14, 318, 1085102592571150095, 0), 32)]),
  (40, [(32, .inl .land, 33), (33, .inl (.lstore_n 0), 34), (34, .inl (.lload_n 0), 35), (35, .inl (.lload_n 0), 36), (36, .inl (.bipush 8), 38), (38, .inl .lushr, 39), (39, .inl .ladd, 40), (40, .inl (.lstore_n 0), 41)]),
  (49, [(41, .inl (.lload_n 0), 42), (42, .inl (.lload_n 0), 43), (43, .inl (.bipush 16), 45), (45, .inl .lushr, 46), (46, .inl .ladd, 47), (47, .inl (.lstore_n 0), 48), (48, .inl (.lload_n 0), 49), (49, .inl (.lload_n 0), 50)]),
  (59, [(50, .inl (.bipush 32), 52), (52, .inl .lushr, 53), (53, .inl .ladd, 54), (54, .inl (.lstore_n 0), 55), (55, .inl (.lload_n 0), 56), (56, .inl .l2i, 57), (57, .inl (.bipush 127), 59), (59, .inl .iand, 60)]),
  (60, [(60, .inl .ireturn, 61)])]
noncomputable def zc_Prog_useCount : zm_C := [(4, [(0, .inl (.iconst 0), 1), (1, .inl (.istore_n 1), 2), (2, .inl (.iconst 0), 3), (3, .inl (.istore_n 2), 4), (4, .inl (.iload_n 2), 5)]),
  (12, [(5, .inl (.bipush 40), 7), (7, .inl (.if_icmp .ge 21), 10), (10, .inl (.iload_n 1), 11), (11, .inl (.aload_n 0), 12), (12, .inr (0, 27, 4, 5), 15)]),
  (21, [(15, .inl (.iload_n 2), 16), (16, .inl .laload, 17), (17, .inr (3, 146, 34, 1), 20), (20, .inl .iadd, 21), (21, .inl (.istore_n 1), 22)]),
  (29, [(22, .inl (.iinc 2 1), 25), (25, .inl (.goto (-21)), 28), (28, .inl (.iload_n 1), 29), (29, .inl .ireturn, 30)])]
noncomputable def zc_Prog_putUse : zm_C := [(9, [(0, .inl (.iload_n 1), 1), (1, .inl (.ifCond .lt 7), 4), (4, .inl (.iload_n 2), 5), (5, .inl (.ifCond .ge 5), 8), (8, .inl (.iconst 2), 9), (9, .inl .ireturn, 10)]),
  (19, [(10, .inl (.aload_n 0), 11), (11, .inl (.iload_n 1), 12), (12, .inl (.iload_n 2), 13), (13, .inr (5, 130, 29, 2), 16), (16, .inl (.ifCond .eq 5), 19), (19, .inl (.iconst 1), 20)]),
  (30, [(20, .inl .ireturn, 21), (21, .inl (.aload_n 0), 22), (22, .inr (5, 137, 35, 0), 25), (25, .inl (.bipush 60), 27), (27, .inl (.if_icmp .lt 6), 30), (30, .inl (.bipush 9), 32)]),
  (39, [(32, .inl .ireturn, 33), (33, .inl (.aload_n 0), 34), (34, .inr (0, 27, 4, 5), 37), (37, .inl (.iload_n 1), 38), (38, .inl .dup2, 39), (39, .inl .laload, 40)]),
  (45, [(40, .inl (.lconst 1), 41), (41, .inl (.iload_n 2), 42), (42, .inl .lshl, 43), (43, .inl .lor, 44), (44, .inl .lastore, 45), (45, .inl (.iconst 0), 46)]),
  (46, [(46, .inl .ireturn, 47)])]
noncomputable def zc_Prog_dropUse : zm_C := [(6, [(0, .inl (.aload_n 0), 1), (1, .inl (.iload_n 1), 2), (2, .inl (.iload_n 2), 3), (3, .inr (5, 130, 29, 2), 6), (6, .inl (.ifCond .ne 5), 9)]),
  (15, [(9, .inl (.iconst 2), 10), (10, .inl .ireturn, 11), (11, .inl (.aload_n 0), 12), (12, .inr (0, 27, 4, 5), 15), (15, .inl (.iload_n 1), 16)]),
  (20, [(16, .inl .dup2, 17), (17, .inl .laload, 18), (18, .inl (.lconst 1), 19), (19, .inl (.iload_n 2), 20), (20, .inl .lshl, 21)]),
  (27, [(21, .inr (14, 141, 18446744073709551615, 0), 24), (24, .inl .lxor, 25), (25, .inl .land, 26), (26, .inl .lastore, 27), (27, .inl (.iconst 0), 28)]),
  (28, [(28, .inl .ireturn, 29)])]
noncomputable def zc_Prog_attempt : zm_C := [(66, [(0, .inl (.aload_n 1), 1), (1, .inr (0, 43, 0, 0), 4), (4, .inl (.tableswitch 185 0 8 #[52, 61, 70, 83, 96, 109, 122, 139, 156]), 56), (56, .inl (.aload_n 0), 57), (57, .inl (.aload_n 1), 58), (58, .inr (0, 49, 0, 1), 61), (61, .inr (5, 52, 17, 1), 64), (64, .inl .ireturn, 65), (65, .inl (.aload_n 0), 66), (66, .inl (.aload_n 1), 67)]),
  (86, [(67, .inr (0, 49, 0, 1), 70), (70, .inr (5, 56, 20, 1), 73), (73, .inl .ireturn, 74), (74, .inl (.aload_n 0), 75), (75, .inl (.aload_n 1), 76), (76, .inr (0, 49, 0, 1), 79), (79, .inl (.aload_n 1), 80), (80, .inr (0, 59, 0, 3), 83), (83, .inr (5, 62, 21, 2), 86), (86, .inl .ireturn, 87)]),
  (102, [(87, .inl (.aload_n 0), 88), (88, .inl (.aload_n 1), 89), (89, .inr (0, 49, 0, 1), 92), (92, .inl (.aload_n 1), 93), (93, .inr (0, 59, 0, 3), 96), (96, .inr (5, 66, 23, 2), 99), (99, .inl .ireturn, 100), (100, .inl (.aload_n 0), 101), (101, .inl (.aload_n 1), 102), (102, .inr (0, 49, 0, 1), 105)]),
  (122, [(105, .inl (.aload_n 1), 106), (106, .inr (0, 69, 0, 2), 109), (109, .inr (5, 72, 26, 2), 112), (112, .inl .ireturn, 113), (113, .inl (.aload_n 0), 114), (114, .inl (.aload_n 1), 115), (115, .inr (0, 49, 0, 1), 118), (118, .inl (.aload_n 1), 119), (119, .inr (0, 69, 0, 2), 122), (122, .inr (5, 75, 31, 2), 125)]),
  (142, [(125, .inl .ireturn, 126), (126, .inl (.aload_n 0), 127), (127, .inl (.aload_n 1), 128), (128, .inr (0, 49, 0, 1), 131), (131, .inl (.aload_n 1), 132), (132, .inr (0, 69, 0, 2), 135), (135, .inl (.aload_n 1), 136), (136, .inr (0, 78, 0, 4), 139), (139, .inr (5, 81, 32, 3), 142), (142, .inl .ireturn, 143)]),
  (160, [(143, .inl (.aload_n 0), 144), (144, .inl (.aload_n 1), 145), (145, .inr (0, 49, 0, 1), 148), (148, .inl (.aload_n 1), 149), (149, .inr (0, 69, 0, 2), 152), (152, .inl (.aload_n 1), 153), (153, .inr (0, 59, 0, 3), 156), (156, .inr (5, 85, 33, 3), 159), (159, .inl .ireturn, 160), (160, .inl (.aload_n 0), 161)]),
  (178, [(161, .inl (.aload_n 0), 162), (162, .inl (.aload_n 1), 163), (163, .inr (0, 49, 0, 1), 166), (166, .inl (.aload_n 1), 167), (167, .inr (0, 69, 0, 2), 170), (170, .inr (5, 88, 28, 2), 173), (173, .inl (.aload_n 0), 174), (174, .inl (.aload_n 1), 175), (175, .inr (0, 59, 0, 3), 178), (178, .inl (.aload_n 1), 179)]),
  (196, [(179, .inr (0, 78, 0, 4), 182), (182, .inr (5, 88, 28, 2), 185), (185, .inr (5, 91, 36, 2), 188), (188, .inl .ireturn, 189), (189, .inl (.aload_n 0), 190), (190, .inl (.aload_n 0), 191), (191, .inl (.aload_n 1), 192), (192, .inr (0, 49, 0, 1), 195), (195, .inl (.aload_n 1), 196), (196, .inr (0, 69, 0, 2), 199)]),
  (217, [(199, .inr (5, 88, 28, 2), 202), (202, .inl (.aload_n 0), 203), (203, .inl (.aload_n 1), 204), (204, .inr (0, 59, 0, 3), 207), (207, .inl (.aload_n 1), 208), (208, .inr (0, 78, 0, 4), 211), (211, .inr (5, 88, 28, 2), 214), (214, .inr (5, 94, 37, 2), 217), (217, .inl .ireturn, 218)])]
noncomputable def zc_Change_copyFrom : zm_C := [(5, [(0, .inl (.aload_n 0), 1), (1, .inl (.aload_n 1), 2), (2, .inr (0, 9, 0, 0), 5), (5, .inl (.aload_n 1), 6)]),
  (13, [(6, .inr (0, 15, 0, 1), 9), (9, .inl (.aload_n 1), 10), (10, .inr (0, 18, 0, 2), 13), (13, .inl (.aload_n 1), 14)]),
  (21, [(14, .inr (0, 21, 0, 3), 17), (17, .inl (.aload_n 1), 18), (18, .inr (0, 24, 0, 4), 21), (21, .inr (5, 27, 10, 5), 24)]),
  (24, [(24, .inl .return_, 25)])]
noncomputable def zc_List_append : zm_C := [(9, [(0, .inl (.aload_n 0), 1), (1, .inr (0, 18, 1, 1), 4), (4, .inl (.bipush 30), 6), (6, .inl (.if_icmp .ge 26), 9), (9, .inl (.aload_n 0), 10)]),
  (18, [(10, .inr (0, 11, 1, 0), 13), (13, .inl (.aload_n 0), 14), (14, .inr (0, 18, 1, 1), 17), (17, .inl .aaload, 18), (18, .inl (.aload_n 1), 19)]),
  (27, [(19, .inr (5, 31, 39, 1), 22), (22, .inl (.aload_n 0), 23), (23, .inl .dup, 24), (24, .inr (0, 18, 1, 1), 27), (27, .inl (.iconst 1), 28)]),
  (32, [(28, .inl .iadd, 29), (29, .inr (1, 18, 1, 1), 32), (32, .inl .return_, 33)])]
noncomputable def zc_RR_change : zm_C := [(11, [(0, .inl (.aload_n 0), 1), (1, .inl (.iload_n 1), 2), (2, .inr (5, 72, 9, 1), 5), (5, .inl (.astore 7), 7), (7, .inl (.aload_n 0), 8), (8, .inr (0, 35, 6, 5), 11), (11, .inl (.iload_n 2), 12)]),
  (23, [(12, .inl (.iload_n 3), 13), (13, .inl (.iload 4), 15), (15, .inl (.iload 5), 17), (17, .inl (.iload 6), 19), (19, .inr (5, 219, 10, 5), 22), (22, .inl (.aload_n 0), 23), (23, .inr (0, 35, 6, 5), 26)]),
  (47, [(26, .inr (5, 223, 14, 0), 29), (29, .inl (.ifCond .ne 13), 32), (32, .inr (12, 227, 1, 1), 42), (42, .inl (.iload_n 1), 43), (43, .inl (.ifCond .ne 25), 46), (46, .inl (.aload_n 0), 47), (47, .inr (0, 28, 6, 4), 50)]),
  (71, [(50, .inr (0, 126, 1, 1), 53), (53, .inl (.bipush 30), 55), (55, .inl (.if_icmp .lt 13), 58), (58, .inr (12, 153, 2, 2), 68), (68, .inl (.aload 7), 70), (70, .inl (.aload_n 0), 71), (71, .inr (0, 35, 6, 5), 74)]),
  (88, [(74, .inr (5, 234, 38, 1), 77), (77, .inl (.istore 8), 79), (79, .inl (.iload 8), 81), (81, .inl (.ifCond .ne 18), 84), (84, .inl (.iload_n 1), 85), (85, .inl (.ifCond .ne 14), 88), (88, .inl (.aload_n 0), 89)]),
  (101, [(89, .inr (0, 28, 6, 4), 92), (92, .inl (.aload_n 0), 93), (93, .inr (0, 35, 6, 5), 96), (96, .inr (5, 238, 40, 1), 99), (99, .inl (.iload 8), 101), (101, .inl .ireturn, 102)])]
noncomputable def zc_RR_addClass : zm_C := [(3, [(0, .inl (.aload_n 0), 1), (1, .inl (.iload_n 1), 2), (2, .inl (.iconst 0), 3), (3, .inl (.iload_n 2), 4)]),
  (7, [(4, .inl (.iconst 0), 5), (5, .inl (.iconst 0), 6), (6, .inl (.iconst 0), 7), (7, .inr (5, 68, 41, 6), 10)]),
  (10, [(10, .inl .ireturn, 11)])]
noncomputable def zc_Law_addClass : zm_C := [(3, [(0, .inl (.aload_n 3), 1), (1, .inl (.iconst 0), 2), (2, .inl (.aload_n 0), 3), (3, .inl (.iload_n 1), 4)]),
  (9, [(4, .inl (.iload_n 2), 5), (5, .inr (5, 7, 42, 2), 8), (8, .inl .i2l, 9), (9, .inl .lastore, 10)]),
  (26, [(10, .inl (.goto 15), 13), (25, .inl (.iconst 0), 26), (26, .inl .ireturn, 27)])]
noncomputable def zc_Mod_in : zm_C := [(5, [(0, .inl (.iload_n 0), 1), (1, .inl (.iload_n 1), 2), (2, .inl (.if_icmp .lt 12), 5), (5, .inl (.iload_n 0), 6)]),
  (11, [(6, .inl (.iload_n 2), 7), (7, .inl (.if_icmp .gt 7), 10), (10, .inl (.iconst 1), 11), (11, .inl (.goto 4), 14)]),
  (15, [(14, .inl (.iconst 0), 15), (15, .inl .ireturn, 16)])]
noncomputable def zc_Mod_isClassName : zm_C := [(5, [(0, .inl (.iload_n 0), 1), (1, .inl (.bipush 65), 3), (3, .inl (.bipush 90), 5), (5, .inr (3, 187, 44, 3), 8)]),
  (8, [(8, .inl .ireturn, 9)])]
noncomputable def zc_Mod_classAt : zm_C := [(5, [(0, .inl (.iconst 0), 1), (1, .inl (.istore_n 2), 2), (2, .inl (.iload_n 2), 3), (3, .inl (.bipush 12), 5), (5, .inl (.if_icmp .ge 22), 8)]),
  (14, [(8, .inl (.iload_n 1), 9), (9, .inl (.ifCond .le 18), 12), (12, .inl (.aload_n 0), 13), (13, .inl (.iload_n 2), 14), (14, .inl .iaload, 15)]),
  (21, [(15, .inl (.iload_n 1), 16), (16, .inl (.if_icmp .ne 5), 19), (19, .inl (.iload_n 2), 20), (20, .inl .ireturn, 21), (21, .inl (.iinc 2 1), 24)]),
  (28, [(24, .inl (.goto (-22)), 27), (27, .inl (.iconst (-1)), 28), (28, .inl .ireturn, 29)])]
noncomputable def zc_Mod_countOf : zm_C := [(5, [(0, .inl (.iconst 0), 1), (1, .inl (.istore_n 3), 2), (2, .inl (.iconst 0), 3), (3, .inl (.istore 4), 5), (5, .inl (.iload 4), 7)]),
  (13, [(7, .inl (.iload_n 2), 8), (8, .inl (.if_icmp .ge 26), 11), (11, .inl (.iload_n 3), 12), (12, .inl (.aload_n 0), 13), (13, .inl (.iload_n 1), 14)]),
  (21, [(14, .inl (.iload 4), 16), (16, .inl .iadd, 17), (17, .inl .iaload, 18), (18, .inl (.ifCond .eq 7), 21), (21, .inl (.iconst 1), 22)]),
  (28, [(22, .inl (.goto 4), 25), (25, .inl (.iconst 0), 26), (26, .inl .iadd, 27), (27, .inl (.istore_n 3), 28), (28, .inl (.iinc 4 1), 31)]),
  (35, [(31, .inl (.goto (-26)), 34), (34, .inl (.iload_n 3), 35), (35, .inl .ireturn, 36)])]
noncomputable def zc_Mod_freeAt : zm_C := [(3, [(0, .inl (.iconst 0), 1), (1, .inl (.istore_n 2), 2), (2, .inl (.aload_n 0), 3), (3, .inl (.iload_n 1), 4)]),
  (7, [(4, .inl (.iload_n 2), 5), (5, .inl .iadd, 6), (6, .inl .iaload, 7), (7, .inl (.ifCond .eq 9), 10)]),
  (17, [(10, .inl (.iinc 2 1), 13), (13, .inl (.goto (-11)), 16), (16, .inl (.iload_n 2), 17), (17, .inl .ireturn, 18)])]
noncomputable def zc_Mod_addsClass : zm_C := [(7, [(0, .inl (.iload_n 2), 1), (1, .inl (.ifCond .lt 5), 4), (4, .inl (.iconst 1), 5), (5, .inl .ireturn, 6), (6, .inl (.aload_n 1), 7), (7, .inl (.iconst 0), 8)]),
  (20, [(8, .inl (.bipush 12), 10), (10, .inr (3, 120, 47, 3), 13), (13, .inl (.bipush 12), 15), (15, .inl (.if_icmp .ne 6), 18), (18, .inl (.bipush 9), 20), (20, .inl .ireturn, 21)]),
  (30, [(21, .inl (.aload_n 0), 22), (22, .inl (.aload_n 1), 23), (23, .inl (.iconst 0), 24), (24, .inr (3, 123, 48, 2), 27), (27, .inr (1, 83, 7, 10), 30), (30, .inl (.aload_n 1), 31)]),
  (38, [(31, .inl (.aload_n 0), 32), (32, .inr (0, 83, 7, 10), 35), (35, .inl (.iload_n 3), 36), (36, .inl .iastore, 37), (37, .inl (.aload_n 1), 38), (38, .inl (.bipush 12), 40)]),
  (47, [(40, .inl (.aload_n 0), 41), (41, .inr (0, 83, 7, 10), 44), (44, .inl .iadd, 45), (45, .inl (.iconst 0), 46), (46, .inl .iastore, 47), (47, .inl (.iconst 0), 48)]),
  (48, [(48, .inl .ireturn, 49)])]
noncomputable def zc_Mod_removesClass : zm_C := [(9, [(0, .inl (.iload_n 2), 1), (1, .inl (.ifCond .ge 5), 4), (4, .inl (.iconst 2), 5), (5, .inl .ireturn, 6), (6, .inl (.iconst 0), 7), (7, .inl (.istore_n 3), 8), (8, .inl (.iload_n 3), 9), (9, .inl (.bipush 40), 11)]),
  (23, [(11, .inl (.if_icmp .ge 30), 14), (14, .inl (.aload_n 1), 15), (15, .inl (.bipush 24), 17), (17, .inl (.iload_n 3), 18), (18, .inl .iadd, 19), (19, .inl .iaload, 20), (20, .inl (.ifCond .eq 15), 23), (23, .inl (.aload_n 1), 24)]),
  (34, [(24, .inl (.bipush 64), 26), (26, .inl (.iload_n 3), 27), (27, .inl .iadd, 28), (28, .inl .iaload, 29), (29, .inl (.iload_n 2), 30), (30, .inl (.if_icmp .ne 5), 33), (33, .inl (.iconst 3), 34), (34, .inl .ireturn, 35)]),
  (49, [(35, .inl (.iinc 3 1), 38), (38, .inl (.goto (-30)), 41), (41, .inl (.iconst 0), 42), (42, .inl (.istore_n 3), 43), (43, .inl (.iload_n 3), 44), (44, .inl (.bipush 12), 46), (46, .inl (.if_icmp .ge 29), 49), (49, .inl (.aload_n 1), 50)]),
  (60, [(50, .inl (.iload_n 3), 51), (51, .inl .iaload, 52), (52, .inl (.ifCond .eq 17), 55), (55, .inl (.aload_n 1), 56), (56, .inl (.bipush 12), 58), (58, .inl (.iload_n 3), 59), (59, .inl .iadd, 60), (60, .inl .iaload, 61)]),
  (72, [(61, .inl (.iload_n 2), 62), (62, .inl (.iconst 1), 63), (63, .inl .iadd, 64), (64, .inl (.if_icmp .ne 5), 67), (67, .inl (.iconst 3), 68), (68, .inl .ireturn, 69), (69, .inl (.iinc 3 1), 72), (72, .inl (.goto (-29)), 75)]),
  (80, [(75, .inl (.aload_n 1), 76), (76, .inl (.iload_n 2), 77), (77, .inl (.iconst 0), 78), (78, .inl .iastore, 79), (79, .inl (.iconst 0), 80), (80, .inl .ireturn, 81)])]
noncomputable def zc_Mod_renamesClass : zm_C := [(6, [(0, .inl (.iload_n 2), 1), (1, .inl (.ifCond .ge 5), 4), (4, .inl (.iconst 2), 5), (5, .inl .ireturn, 6), (6, .inl (.aload_n 1), 7)]),
  (15, [(7, .inl (.iload_n 3), 8), (8, .inr (3, 68, 46, 2), 11), (11, .inl (.ifCond .lt 5), 14), (14, .inl (.iconst 1), 15), (15, .inl .ireturn, 16)]),
  (20, [(16, .inl (.aload_n 1), 17), (17, .inl (.iload_n 2), 18), (18, .inl (.iload_n 3), 19), (19, .inl .iastore, 20), (20, .inl (.iconst 0), 21)]),
  (21, [(21, .inl .ireturn, 22)])]
noncomputable def zc_Mod_isUnder : zm_C := [(7, [(0, .inl (.iload_n 1), 1), (1, .inl (.istore_n 3), 2), (2, .inl (.iconst 0), 3), (3, .inl (.istore 4), 5), (5, .inl (.iload 4), 7), (7, .inl (.bipush 12), 9)]),
  (18, [(9, .inl (.if_icmp .ge 27), 12), (12, .inl (.iload_n 3), 13), (13, .inl (.ifCond .lt 23), 16), (16, .inl (.iload_n 3), 17), (17, .inl (.iload_n 2), 18), (18, .inl (.if_icmp .eq 18), 21)]),
  (27, [(21, .inl (.aload_n 0), 22), (22, .inl (.bipush 12), 24), (24, .inl (.iload_n 3), 25), (25, .inl .iadd, 26), (26, .inl .iaload, 27), (27, .inl (.iconst 1), 28)]),
  (37, [(28, .inl .isub, 29), (29, .inl (.istore_n 3), 30), (30, .inl (.iinc 4 1), 33), (33, .inl (.goto (-28)), 36), (36, .inl (.iload_n 3), 37), (37, .inl (.iload_n 2), 38)]),
  (46, [(38, .inl (.if_icmp .ne 7), 41), (41, .inl (.iconst 1), 42), (42, .inl (.goto 4), 45), (45, .inl (.iconst 0), 46), (46, .inl .ireturn, 47)])]
noncomputable def zc_Mod_setsSuper : zm_C := [(17, [(0, .inl (.aload_n 1), 1), (1, .inl (.iload_n 3), 2), (2, .inr (3, 68, 46, 2), 5), (5, .inl (.istore 4), 7), (7, .inl (.iload_n 2), 8), (8, .inl (.ifCond .lt 12), 11), (11, .inl (.iload_n 3), 12), (12, .inl (.ifCond .eq 10), 15), (15, .inl (.iload 4), 17), (17, .inl (.ifCond .ge 5), 20)]),
  (37, [(20, .inl (.iconst 2), 21), (21, .inl .ireturn, 22), (22, .inl (.iload 4), 24), (24, .inl (.ifCond .lt 15), 27), (27, .inl (.aload_n 1), 28), (28, .inl (.iload 4), 30), (30, .inl (.iload_n 2), 31), (31, .inr (3, 76, 52, 3), 34), (34, .inl (.ifCond .eq 5), 37), (37, .inl (.iconst 4), 38)]),
  (55, [(38, .inl .ireturn, 39), (39, .inl (.iconst 0), 40), (40, .inl (.istore 5), 42), (42, .inl (.iload 5), 44), (44, .inl (.bipush 40), 46), (46, .inl (.if_icmp .ge 90), 49), (49, .inl (.iload 4), 51), (51, .inl (.ifCond .lt 85), 54), (54, .inl (.iconst 0), 55), (55, .inl (.istore 6), 57)]),
  (74, [(57, .inl (.iload 6), 59), (59, .inl (.bipush 40), 61), (61, .inl (.if_icmp .ge 69), 64), (64, .inl (.aload_n 1), 65), (65, .inl (.bipush 24), 67), (67, .inl (.iload 5), 69), (69, .inl .iadd, 70), (70, .inl .iaload, 71), (71, .inl (.ifCond .eq 59), 74), (74, .inl (.aload_n 1), 75)]),
  (90, [(75, .inl (.aload_n 1), 76), (76, .inl (.bipush 64), 78), (78, .inl (.iload 5), 80), (80, .inl .iadd, 81), (81, .inl .iaload, 82), (82, .inl (.iload_n 2), 83), (83, .inr (3, 76, 52, 3), 86), (86, .inl (.ifCond .eq 44), 89), (89, .inl (.aload_n 1), 90), (90, .inl (.bipush 24), 92)]),
  (106, [(92, .inl (.iload 6), 94), (94, .inl .iadd, 95), (95, .inl .iaload, 96), (96, .inl (.aload_n 1), 97), (97, .inl (.bipush 24), 99), (99, .inl (.iload 5), 101), (101, .inl .iadd, 102), (102, .inl .iaload, 103), (103, .inl (.if_icmp .ne 21), 106), (106, .inl (.aload_n 1), 107)]),
  (123, [(107, .inl (.iload 4), 109), (109, .inl (.aload_n 1), 110), (110, .inl (.bipush 64), 112), (112, .inl (.iload 6), 114), (114, .inl .iadd, 115), (115, .inl .iaload, 116), (116, .inr (3, 76, 52, 3), 119), (119, .inl (.ifCond .eq 5), 122), (122, .inl (.iconst 5), 123), (123, .inl .ireturn, 124)]),
  (143, [(124, .inl (.iinc 6 1), 127), (127, .inl (.goto (-70)), 130), (130, .inl (.iinc 5 1), 133), (133, .inl (.goto (-91)), 136), (136, .inl (.aload_n 1), 137), (137, .inl (.bipush 12), 139), (139, .inl (.iload_n 2), 140), (140, .inl .iadd, 141), (141, .inl (.iload 4), 143), (143, .inl (.iconst 1), 144)]),
  (147, [(144, .inl .iadd, 145), (145, .inl .iastore, 146), (146, .inl (.iconst 0), 147), (147, .inl .ireturn, 148)])]
noncomputable def zc_Mod_memberAt : zm_C := [(8, [(0, .inl (.iconst 0), 1), (1, .inl (.istore_n 3), 2), (2, .inl (.iload_n 3), 3), (3, .inl (.bipush 40), 5), (5, .inl (.if_icmp .ge 35), 8), (8, .inl (.iload_n 1), 9)]),
  (17, [(9, .inl (.ifCond .lt 31), 12), (12, .inl (.aload_n 0), 13), (13, .inl (.bipush 24), 15), (15, .inl (.iload_n 3), 16), (16, .inl .iadd, 17), (17, .inl .iaload, 18)]),
  (26, [(18, .inl (.iload_n 2), 19), (19, .inl (.if_icmp .ne 15), 22), (22, .inl (.aload_n 0), 23), (23, .inl (.bipush 64), 25), (25, .inl (.iload_n 3), 26), (26, .inl .iadd, 27)]),
  (34, [(27, .inl .iaload, 28), (28, .inl (.iload_n 1), 29), (29, .inl (.if_icmp .ne 5), 32), (32, .inl (.iload_n 3), 33), (33, .inl .ireturn, 34), (34, .inl (.iinc 3 1), 37)]),
  (41, [(37, .inl (.goto (-35)), 40), (40, .inl (.iconst (-1)), 41), (41, .inl .ireturn, 42)])]
noncomputable def zc_Mod_areKin : zm_C := [(3, [(0, .inl (.aload_n 0), 1), (1, .inl (.iload_n 1), 2), (2, .inl (.iload_n 2), 3), (3, .inr (3, 76, 52, 3), 6)]),
  (11, [(6, .inl (.ifCond .ne 12), 9), (9, .inl (.aload_n 0), 10), (10, .inl (.iload_n 2), 11), (11, .inl (.iload_n 1), 12)]),
  (19, [(12, .inr (3, 76, 52, 3), 15), (15, .inl (.ifCond .eq 7), 18), (18, .inl (.iconst 1), 19), (19, .inl (.goto 4), 22)]),
  (23, [(22, .inl (.iconst 0), 23), (23, .inl .ireturn, 24)])]
noncomputable def zc_Mod_isTaken : zm_C := [(10, [(0, .inl (.iconst 0), 1), (1, .inl (.istore 4), 3), (3, .inl (.iconst 0), 4), (4, .inl (.istore 5), 6), (6, .inl (.iload 5), 8), (8, .inl (.bipush 40), 10), (10, .inl (.if_icmp .ge 53), 13)]),
  (24, [(13, .inl (.iload 4), 15), (15, .inl (.ifCond .ne 35), 18), (18, .inl (.aload_n 0), 19), (19, .inl (.bipush 24), 21), (21, .inl (.iload 5), 23), (23, .inl .iadd, 24), (24, .inl .iaload, 25)]),
  (36, [(25, .inl (.iload_n 2), 26), (26, .inl (.if_icmp .ne 28), 29), (29, .inl (.iload 5), 31), (31, .inl (.iload_n 3), 32), (32, .inl (.if_icmp .eq 22), 35), (35, .inl (.aload_n 0), 36), (36, .inl (.iload_n 1), 37)]),
  (47, [(37, .inl (.aload_n 0), 38), (38, .inl (.bipush 64), 40), (40, .inl (.iload 5), 42), (42, .inl .iadd, 43), (43, .inl .iaload, 44), (44, .inr (3, 80, 55, 3), 47), (47, .inl (.ifCond .eq 7), 50)]),
  (63, [(50, .inl (.iconst 1), 51), (51, .inl (.goto 4), 54), (54, .inl (.iconst 0), 55), (55, .inl (.istore 4), 57), (57, .inl (.iinc 5 1), 60), (60, .inl (.goto (-54)), 63), (63, .inl (.iload 4), 65)]),
  (65, [(65, .inl .ireturn, 66)])]
noncomputable def zc_Mod_addsMember : zm_C := [(8, [(0, .inl (.iload_n 2), 1), (1, .inl (.ifCond .ge 5), 4), (4, .inl (.iconst 2), 5), (5, .inl .ireturn, 6), (6, .inl (.aload_n 1), 7), (7, .inl (.iload_n 2), 8), (8, .inl (.iload_n 3), 9)]),
  (19, [(9, .inr (3, 72, 54, 3), 12), (12, .inl (.ifCond .lt 5), 15), (15, .inl (.iconst 1), 16), (16, .inl .ireturn, 17), (17, .inl (.aload_n 1), 18), (18, .inl (.iload_n 2), 19), (19, .inl (.iload_n 3), 20)]),
  (30, [(20, .inl (.iconst (-1)), 21), (21, .inr (3, 126, 56, 4), 24), (24, .inl (.ifCond .eq 5), 27), (27, .inl (.iconst 5), 28), (28, .inl .ireturn, 29), (29, .inl (.aload_n 1), 30), (30, .inl (.bipush 24), 32)]),
  (45, [(32, .inl (.bipush 40), 34), (34, .inr (3, 120, 47, 3), 37), (37, .inl (.bipush 40), 39), (39, .inl (.if_icmp .ne 6), 42), (42, .inl (.bipush 9), 44), (44, .inl .ireturn, 45), (45, .inl (.aload_n 0), 46)]),
  (58, [(46, .inl (.aload_n 1), 47), (47, .inl (.bipush 24), 49), (49, .inr (3, 123, 48, 2), 52), (52, .inr (1, 83, 7, 10), 55), (55, .inl (.aload_n 1), 56), (56, .inl (.bipush 24), 58), (58, .inl (.aload_n 0), 59)]),
  (68, [(59, .inr (0, 83, 7, 10), 62), (62, .inl .iadd, 63), (63, .inl (.iload_n 3), 64), (64, .inl .iastore, 65), (65, .inl (.aload_n 1), 66), (66, .inl (.bipush 64), 68), (68, .inl (.aload_n 0), 69)]),
  (76, [(69, .inr (0, 83, 7, 10), 72), (72, .inl .iadd, 73), (73, .inl (.iload_n 2), 74), (74, .inl .iastore, 75), (75, .inl (.iconst 0), 76), (76, .inl .ireturn, 77)])]
noncomputable def zc_Mod_removesMember : zm_C := [(9, [(0, .inl (.iload_n 2), 1), (1, .inl (.ifCond .ge 5), 4), (4, .inl (.iconst 2), 5), (5, .inl .ireturn, 6), (6, .inl (.iconst 0), 7), (7, .inl (.istore_n 3), 8), (8, .inl (.iload_n 3), 9), (9, .inl (.bipush 40), 11)]),
  (24, [(11, .inl (.if_icmp .ge 31), 14), (14, .inl (.iload_n 3), 15), (15, .inl (.iload_n 2), 16), (16, .inl (.if_icmp .eq 20), 19), (19, .inl (.aload_n 1), 20), (20, .inl (.bipush 104), 22), (22, .inl (.bipush 40), 24), (24, .inl (.iload_n 3), 25)]),
  (34, [(25, .inl .imul, 26), (26, .inl .iadd, 27), (27, .inl (.iload_n 2), 28), (28, .inl .iadd, 29), (29, .inl .iaload, 30), (30, .inl (.iconst 1), 31), (31, .inl (.if_icmp .ne 5), 34), (34, .inl (.iconst 3), 35)]),
  (47, [(35, .inl .ireturn, 36), (36, .inl (.iinc 3 1), 39), (39, .inl (.goto (-31)), 42), (42, .inl (.iconst 0), 43), (43, .inl (.istore_n 3), 44), (44, .inl (.iload_n 3), 45), (45, .inl (.bipush 40), 47), (47, .inl (.if_icmp .ge 21), 50)]),
  (59, [(50, .inl (.aload_n 1), 51), (51, .inl (.bipush 104), 53), (53, .inl (.bipush 40), 55), (55, .inl (.iload_n 2), 56), (56, .inl .imul, 57), (57, .inl .iadd, 58), (58, .inl (.iload_n 3), 59), (59, .inl .iadd, 60)]),
  (72, [(60, .inl (.iconst 0), 61), (61, .inl .iastore, 62), (62, .inl (.iinc 3 1), 65), (65, .inl (.goto (-21)), 68), (68, .inl (.aload_n 1), 69), (69, .inl (.bipush 24), 71), (71, .inl (.iload_n 2), 72), (72, .inl .iadd, 73)]),
  (76, [(73, .inl (.iconst 0), 74), (74, .inl .iastore, 75), (75, .inl (.iconst 0), 76), (76, .inl .ireturn, 77)])]
noncomputable def zc_Mod_renamesMember : zm_C := [(6, [(0, .inl (.iload_n 3), 1), (1, .inl (.ifCond .ge 5), 4), (4, .inl (.iconst 2), 5), (5, .inl .ireturn, 6), (6, .inl (.aload_n 1), 7)]),
  (14, [(7, .inl (.iload_n 2), 8), (8, .inl (.iload 4), 10), (10, .inl (.iconst (-1)), 11), (11, .inr (3, 126, 56, 4), 14), (14, .inl (.ifCond .eq 5), 17)]),
  (22, [(17, .inl (.iconst 5), 18), (18, .inl .ireturn, 19), (19, .inl (.aload_n 1), 20), (20, .inl (.bipush 24), 22), (22, .inl (.iload_n 3), 23)]),
  (28, [(23, .inl .iadd, 24), (24, .inl (.iload 4), 26), (26, .inl .iastore, 27), (27, .inl (.iconst 0), 28), (28, .inl .ireturn, 29)])]
noncomputable def zc_Mod_movesMember : zm_C := [(10, [(0, .inl (.iload_n 3), 1), (1, .inl (.ifCond .lt 8), 4), (4, .inl (.iload 4), 6), (6, .inl (.ifCond .ge 5), 9), (9, .inl (.iconst 2), 10), (10, .inl .ireturn, 11)]),
  (19, [(11, .inl (.iload_n 2), 12), (12, .inl (.iload 4), 14), (14, .inl (.if_icmp .ne 5), 17), (17, .inl (.iconst 1), 18), (18, .inl .ireturn, 19), (19, .inl (.aload_n 1), 20)]),
  (27, [(20, .inl (.iload 4), 22), (22, .inl (.aload_n 1), 23), (23, .inl (.bipush 24), 25), (25, .inl (.iload_n 3), 26), (26, .inl .iadd, 27), (27, .inl .iaload, 28)]),
  (37, [(28, .inl (.iload_n 3), 29), (29, .inr (3, 126, 56, 4), 32), (32, .inl (.ifCond .eq 5), 35), (35, .inl (.iconst 5), 36), (36, .inl .ireturn, 37), (37, .inl (.aload_n 1), 38)]),
  (45, [(38, .inl (.bipush 64), 40), (40, .inl (.iload_n 3), 41), (41, .inl .iadd, 42), (42, .inl (.iload 4), 44), (44, .inl .iastore, 45), (45, .inl (.iconst 0), 46)]),
  (46, [(46, .inl .ireturn, 47)])]
noncomputable def zc_Mod_memberOf : zm_C := [(3, [(0, .inl (.aload_n 0), 1), (1, .inl (.aload_n 0), 2), (2, .inl (.iload_n 1), 3), (3, .inr (3, 68, 46, 2), 6)]),
  (10, [(6, .inl (.iload_n 2), 7), (7, .inr (3, 72, 54, 3), 10), (10, .inl .ireturn, 11)])]
noncomputable def zc_Mod_addsUse : zm_C := [(10, [(0, .inl (.iload_n 2), 1), (1, .inl (.ifCond .lt 7), 4), (4, .inl (.iload_n 3), 5), (5, .inl (.ifCond .ge 5), 8), (8, .inl (.iconst 2), 9), (9, .inl .ireturn, 10), (10, .inl (.aload_n 1), 11)]),
  (19, [(11, .inl (.bipush 104), 13), (13, .inl (.bipush 40), 15), (15, .inl (.iload_n 2), 16), (16, .inl .imul, 17), (17, .inl .iadd, 18), (18, .inl (.iload_n 3), 19), (19, .inl .iadd, 20)]),
  (28, [(20, .inl .iaload, 21), (21, .inl (.iconst 1), 22), (22, .inl (.if_icmp .ne 5), 25), (25, .inl (.iconst 1), 26), (26, .inl .ireturn, 27), (27, .inl (.aload_n 1), 28), (28, .inl (.bipush 104), 30)]),
  (44, [(30, .inl (.sipush 1600), 33), (33, .inr (3, 120, 47, 3), 36), (36, .inl (.bipush 60), 38), (38, .inl (.if_icmp .ne 6), 41), (41, .inl (.bipush 9), 43), (43, .inl .ireturn, 44), (44, .inl (.aload_n 1), 45)]),
  (53, [(45, .inl (.bipush 104), 47), (47, .inl (.bipush 40), 49), (49, .inl (.iload_n 2), 50), (50, .inl .imul, 51), (51, .inl .iadd, 52), (52, .inl (.iload_n 3), 53), (53, .inl .iadd, 54)]),
  (57, [(54, .inl (.iconst 1), 55), (55, .inl .iastore, 56), (56, .inl (.iconst 0), 57), (57, .inl .ireturn, 58)])]
noncomputable def zc_Mod_removesUse : zm_C := [(9, [(0, .inl (.iload_n 2), 1), (1, .inl (.ifCond .lt 21), 4), (4, .inl (.iload_n 3), 5), (5, .inl (.ifCond .lt 17), 8), (8, .inl (.aload_n 1), 9), (9, .inl (.bipush 104), 11)]),
  (17, [(11, .inl (.bipush 40), 13), (13, .inl (.iload_n 2), 14), (14, .inl .imul, 15), (15, .inl .iadd, 16), (16, .inl (.iload_n 3), 17), (17, .inl .iadd, 18)]),
  (25, [(18, .inl .iaload, 19), (19, .inl (.ifCond .ne 5), 22), (22, .inl (.iconst 2), 23), (23, .inl .ireturn, 24), (24, .inl (.aload_n 1), 25), (25, .inl (.bipush 104), 27)]),
  (33, [(27, .inl (.bipush 40), 29), (29, .inl (.iload_n 2), 30), (30, .inl .imul, 31), (31, .inl .iadd, 32), (32, .inl (.iload_n 3), 33), (33, .inl .iadd, 34)]),
  (37, [(34, .inl (.iconst 0), 35), (35, .inl .iastore, 36), (36, .inl (.iconst 0), 37), (37, .inl .ireturn, 38)])]
noncomputable def zc_Mod_makes : zm_C := [(64, [(0, .inl (.aload_n 0), 1), (1, .inl (.iconst (-1)), 2), (2, .inr (1, 83, 7, 10), 5), (5, .inl (.aload_n 1), 6), (6, .inl (.iload_n 3), 7), (7, .inr (3, 68, 46, 2), 10), (10, .inl (.istore 7), 12), (12, .inl (.iload_n 2), 13), (13, .inl (.tableswitch 174 0 8 #[51, 60, 68, 78, 88, 98, 112, 130, 152]), 64), (64, .inl (.aload_n 0), 65)]),
  (80, [(65, .inl (.aload_n 1), 66), (66, .inl (.iload 7), 68), (68, .inl (.iload_n 3), 69), (69, .inr (5, 86, 49, 3), 72), (72, .inl .ireturn, 73), (73, .inl (.aload_n 0), 74), (74, .inl (.aload_n 1), 75), (75, .inl (.iload 7), 77), (77, .inr (5, 89, 50, 2), 80), (80, .inl .ireturn, 81)]),
  (95, [(81, .inl (.aload_n 0), 82), (82, .inl (.aload_n 1), 83), (83, .inl (.iload 7), 85), (85, .inl (.iload 5), 87), (87, .inr (5, 92, 51, 3), 90), (90, .inl .ireturn, 91), (91, .inl (.aload_n 0), 92), (92, .inl (.aload_n 1), 93), (93, .inl (.iload 7), 95), (95, .inl (.iload 5), 97)]),
  (112, [(97, .inr (5, 95, 53, 3), 100), (100, .inl .ireturn, 101), (101, .inl (.aload_n 0), 102), (102, .inl (.aload_n 1), 103), (103, .inl (.iload 7), 105), (105, .inl (.iload 4), 107), (107, .inr (5, 98, 57, 3), 110), (110, .inl .ireturn, 111), (111, .inl (.aload_n 0), 112), (112, .inl (.aload_n 1), 113)]),
  (129, [(113, .inl (.aload_n 1), 114), (114, .inl (.iload 7), 116), (116, .inl (.iload 4), 118), (118, .inr (3, 72, 54, 3), 121), (121, .inr (5, 101, 58, 2), 124), (124, .inl .ireturn, 125), (125, .inl (.aload_n 0), 126), (126, .inl (.aload_n 1), 127), (127, .inl (.iload 7), 129), (129, .inl (.aload_n 1), 130)]),
  (147, [(130, .inl (.iload 7), 132), (132, .inl (.iload 4), 134), (134, .inr (3, 72, 54, 3), 137), (137, .inl (.iload 6), 139), (139, .inr (5, 104, 59, 4), 142), (142, .inl .ireturn, 143), (143, .inl (.aload_n 0), 144), (144, .inl (.aload_n 1), 145), (145, .inl (.iload 7), 147), (147, .inl (.aload_n 1), 148)]),
  (166, [(148, .inl (.iload 7), 150), (150, .inl (.iload 4), 152), (152, .inr (3, 72, 54, 3), 155), (155, .inl (.aload_n 1), 156), (156, .inl (.iload 5), 158), (158, .inr (3, 68, 46, 2), 161), (161, .inr (5, 108, 60, 4), 164), (164, .inl .ireturn, 165), (165, .inl (.aload_n 0), 166), (166, .inl (.aload_n 1), 167)]),
  (186, [(167, .inl (.aload_n 1), 168), (168, .inl (.iload 7), 170), (170, .inl (.iload 4), 172), (172, .inr (3, 72, 54, 3), 175), (175, .inl (.aload_n 1), 176), (176, .inl (.iload 5), 178), (178, .inl (.iload 6), 180), (180, .inr (3, 111, 61, 3), 183), (183, .inr (5, 114, 62, 3), 186), (186, .inl .ireturn, 187)]),
  (202, [(187, .inl (.aload_n 0), 188), (188, .inl (.aload_n 1), 189), (189, .inl (.aload_n 1), 190), (190, .inl (.iload 7), 192), (192, .inl (.iload 4), 194), (194, .inr (3, 72, 54, 3), 197), (197, .inl (.aload_n 1), 198), (198, .inl (.iload 5), 200), (200, .inl (.iload 6), 202), (202, .inr (3, 111, 61, 3), 205)]),
  (208, [(205, .inr (5, 117, 63, 3), 208), (208, .inl .ireturn, 209)])]
noncomputable def zc_Mod_changes : zm_C := [(16, [(0, .inl (.aload_n 0), 1), (1, .inl (.iload_n 1), 2), (2, .inl (.iconst 0), 3), (3, .inl (.iconst 1), 4), (4, .inr (3, 187, 44, 3), 7), (7, .inl (.ifCond .ne 7), 10), (10, .inl (.iconst 1), 11), (11, .inl (.goto 30), 14), (14, .inl (.iload 7), 16), (16, .inl (.ifCond .ne 7), 19)]),
  (37, [(19, .inl (.iconst 2), 20), (20, .inl (.goto 21), 23), (23, .inl (.iload_n 1), 24), (24, .inl (.ifCond .ne 16), 27), (27, .inl (.aload_n 0), 28), (28, .inr (0, 191, 7, 8), 31), (31, .inl (.bipush 30), 33), (33, .inl (.if_icmp .ne 7), 36), (36, .inl (.iconst 3), 37), (37, .inl (.goto 4), 40)]),
  (57, [(40, .inl (.iconst 0), 41), (41, .inr (1, 65, 7, 9), 44), (44, .inl (.aload_n 0), 45), (45, .inr (0, 65, 7, 9), 48), (48, .inl (.ifCond .eq 5), 51), (51, .inl (.iconst 0), 52), (52, .inl .ireturn, 53), (53, .inl (.iload_n 1), 54), (54, .inl (.ifCond .ne 22), 57), (57, .inl (.aload_n 0), 58)]),
  (76, [(58, .inl (.aload_n 0), 59), (59, .inr (0, 7, 7, 0), 62), (62, .inl (.iload_n 2), 63), (63, .inl (.iload_n 3), 64), (64, .inl (.iload 4), 66), (66, .inl (.iload 5), 68), (68, .inl (.iload 6), 70), (70, .inr (5, 153, 64, 6), 73), (73, .inl (.goto 19), 76), (76, .inl (.aload_n 0), 77)]),
  (94, [(77, .inl (.aload_n 0), 78), (78, .inr (0, 13, 7, 1), 81), (81, .inl (.iload_n 2), 82), (82, .inl (.iload_n 3), 83), (83, .inl (.iload 4), 85), (85, .inl (.iload 5), 87), (87, .inl (.iload 6), 89), (89, .inr (5, 153, 64, 6), 92), (92, .inl (.istore 8), 94), (94, .inl (.iload 8), 96)]),
  (112, [(96, .inl (.ifCond .ne 76), 99), (99, .inl (.iload_n 1), 100), (100, .inl (.ifCond .ne 72), 103), (103, .inl (.iconst 5), 104), (104, .inl (.aload_n 0), 105), (105, .inr (0, 191, 7, 8), 108), (108, .inl .imul, 109), (109, .inl (.istore 9), 111), (111, .inl (.aload_n 0), 112), (112, .inr (0, 28, 7, 6), 115)]),
  (128, [(115, .inl (.iload 9), 117), (117, .inl (.iload_n 2), 118), (118, .inl .iastore, 119), (119, .inl (.aload_n 0), 120), (120, .inr (0, 28, 7, 6), 123), (123, .inl (.iload 9), 125), (125, .inl (.iconst 1), 126), (126, .inl .iadd, 127), (127, .inl (.iload_n 3), 128), (128, .inl .iastore, 129)]),
  (144, [(129, .inl (.aload_n 0), 130), (130, .inr (0, 28, 7, 6), 133), (133, .inl (.iload 9), 135), (135, .inl (.iconst 2), 136), (136, .inl .iadd, 137), (137, .inl (.iload 4), 139), (139, .inl .iastore, 140), (140, .inl (.aload_n 0), 141), (141, .inr (0, 28, 7, 6), 144), (144, .inl (.iload 9), 146)]),
  (159, [(146, .inl (.iconst 3), 147), (147, .inl .iadd, 148), (148, .inl (.iload 5), 150), (150, .inl .iastore, 151), (151, .inl (.aload_n 0), 152), (152, .inr (0, 28, 7, 6), 155), (155, .inl (.iload 9), 157), (157, .inl (.iconst 4), 158), (158, .inl .iadd, 159), (159, .inl (.iload 6), 161)]),
  (174, [(161, .inl .iastore, 162), (162, .inl (.aload_n 0), 163), (163, .inl .dup, 164), (164, .inr (0, 191, 7, 8), 167), (167, .inl (.iconst 1), 168), (168, .inl .iadd, 169), (169, .inr (1, 191, 7, 8), 172), (172, .inl (.iload 8), 174), (174, .inl .ireturn, 175)])]
noncomputable def zc_Mod_addClass : zm_C := [(3, [(0, .inl (.aload_n 0), 1), (1, .inl (.iload_n 1), 2), (2, .inl (.iconst 0), 3), (3, .inl (.iload_n 2), 4)]),
  (7, [(4, .inl (.iconst 0), 5), (5, .inl (.iconst 0), 6), (6, .inl (.iconst 0), 7), (7, .inl (.iload_n 2), 8)]),
  (14, [(8, .inr (3, 194, 45, 1), 11), (11, .inr (5, 197, 65, 7), 14), (14, .inl .ireturn, 15)])]
noncomputable def zc_Mod_thrown : zm_C := [(4, [(0, .inl (.aload_n 0), 1), (1, .inr (0, 65, 7, 9), 4), (4, .inl .ireturn, 5)])]
noncomputable def zc_RR_removeClass : zm_C := [(3, [(0, .inl (.aload_n 0), 1), (1, .inl (.iload_n 1), 2), (2, .inl (.iconst 1), 3), (3, .inl (.iload_n 2), 4)]),
  (7, [(4, .inl (.iconst 0), 5), (5, .inl (.iconst 0), 6), (6, .inl (.iconst 0), 7), (7, .inr (5, 68, 41, 6), 10)]),
  (10, [(10, .inl .ireturn, 11)])]
noncomputable def zc_Law_removeClass : zm_C := [(3, [(0, .inl (.aload_n 3), 1), (1, .inl (.iconst 0), 2), (2, .inl (.aload_n 0), 3), (3, .inl (.iload_n 1), 4)]),
  (9, [(4, .inl (.iload_n 2), 5), (5, .inr (5, 19, 68, 2), 8), (8, .inl .i2l, 9), (9, .inl .lastore, 10)]),
  (26, [(10, .inl (.goto 15), 13), (25, .inl (.iconst 0), 26), (26, .inl .ireturn, 27)])]
noncomputable def zc_Mod_removeClass : zm_C := [(3, [(0, .inl (.aload_n 0), 1), (1, .inl (.iload_n 1), 2), (2, .inl (.iconst 1), 3), (3, .inl (.iload_n 2), 4)]),
  (7, [(4, .inl (.iconst 0), 5), (5, .inl (.iconst 0), 6), (6, .inl (.iconst 0), 7), (7, .inl (.iload_n 2), 8)]),
  (14, [(8, .inr (3, 194, 45, 1), 11), (11, .inr (5, 197, 65, 7), 14), (14, .inl .ireturn, 15)])]
noncomputable def zc_RR_renameClass : zm_C := [(3, [(0, .inl (.aload_n 0), 1), (1, .inl (.iload_n 1), 2), (2, .inl (.iconst 2), 3), (3, .inl (.iload_n 2), 4)]),
  (7, [(4, .inl (.iconst 0), 5), (5, .inl (.iload_n 3), 6), (6, .inl (.iconst 0), 7), (7, .inr (5, 68, 41, 6), 10)]),
  (10, [(10, .inl .ireturn, 11)])]
noncomputable def zc_Law_renameClass : zm_C := [(4, [(0, .inl (.aload 4), 2), (2, .inl (.iconst 0), 3), (3, .inl (.aload_n 0), 4), (4, .inl (.iload_n 1), 5)]),
  (10, [(5, .inl (.iload_n 2), 6), (6, .inl (.iload_n 3), 7), (7, .inr (5, 22, 71, 3), 10), (10, .inl .i2l, 11)]),
  (28, [(11, .inl .lastore, 12), (12, .inl (.goto 15), 15), (27, .inl (.iconst 0), 28), (28, .inl .ireturn, 29)])]
noncomputable def zc_Mod_renameClass : zm_C := [(4, [(0, .inl (.aload_n 0), 1), (1, .inl (.iload_n 1), 2), (2, .inl (.iconst 2), 3), (3, .inl (.iload_n 2), 4), (4, .inl (.iconst 0), 5)]),
  (11, [(5, .inl (.iload_n 3), 6), (6, .inl (.iconst 0), 7), (7, .inl (.iload_n 2), 8), (8, .inr (3, 194, 45, 1), 11), (11, .inl (.ifCond .eq 14), 14)]),
  (22, [(14, .inl (.iload_n 3), 15), (15, .inr (3, 194, 45, 1), 18), (18, .inl (.ifCond .eq 7), 21), (21, .inl (.iconst 1), 22), (22, .inl (.goto 4), 25)]),
  (29, [(25, .inl (.iconst 0), 26), (26, .inr (5, 197, 65, 7), 29), (29, .inl .ireturn, 30)])]
noncomputable def zc_RR_setSuper : zm_C := [(3, [(0, .inl (.aload_n 0), 1), (1, .inl (.iload_n 1), 2), (2, .inl (.iconst 3), 3), (3, .inl (.iload_n 2), 4)]),
  (7, [(4, .inl (.iconst 0), 5), (5, .inl (.iload_n 3), 6), (6, .inl (.iconst 0), 7), (7, .inr (5, 68, 41, 6), 10)]),
  (10, [(10, .inl .ireturn, 11)])]
noncomputable def zc_Law_setSuper : zm_C := [(4, [(0, .inl (.aload 4), 2), (2, .inl (.iconst 0), 3), (3, .inl (.aload_n 0), 4), (4, .inl (.iload_n 1), 5)]),
  (10, [(5, .inl (.iload_n 2), 6), (6, .inl (.iload_n 3), 7), (7, .inr (5, 26, 74, 3), 10), (10, .inl .i2l, 11)]),
  (28, [(11, .inl .lastore, 12), (12, .inl (.goto 15), 15), (27, .inl (.iconst 0), 28), (28, .inl .ireturn, 29)])]
noncomputable def zc_Mod_setSuper : zm_C := [(4, [(0, .inl (.aload_n 0), 1), (1, .inl (.iload_n 1), 2), (2, .inl (.iconst 3), 3), (3, .inl (.iload_n 2), 4), (4, .inl (.iconst 0), 5)]),
  (11, [(5, .inl (.iload_n 3), 6), (6, .inl (.iconst 0), 7), (7, .inl (.iload_n 2), 8), (8, .inr (3, 194, 45, 1), 11), (11, .inl (.ifCond .eq 18), 14)]),
  (22, [(14, .inl (.iload_n 3), 15), (15, .inl (.ifCond .eq 10), 18), (18, .inl (.iload_n 3), 19), (19, .inr (3, 194, 45, 1), 22), (22, .inl (.ifCond .eq 7), 25)]),
  (33, [(25, .inl (.iconst 1), 26), (26, .inl (.goto 4), 29), (29, .inl (.iconst 0), 30), (30, .inr (5, 197, 65, 7), 33), (33, .inl .ireturn, 34)])]
noncomputable def zc_RR_addMember : zm_C := [(3, [(0, .inl (.aload_n 0), 1), (1, .inl (.iload_n 1), 2), (2, .inl (.iconst 4), 3), (3, .inl (.iload_n 2), 4)]),
  (7, [(4, .inl (.iload_n 3), 5), (5, .inl (.iconst 0), 6), (6, .inl (.iconst 0), 7), (7, .inr (5, 68, 41, 6), 10)]),
  (10, [(10, .inl .ireturn, 11)])]
noncomputable def zc_Law_addMember : zm_C := [(4, [(0, .inl (.aload 4), 2), (2, .inl (.iconst 0), 3), (3, .inl (.aload_n 0), 4), (4, .inl (.iload_n 1), 5)]),
  (10, [(5, .inl (.iload_n 2), 6), (6, .inl (.iload_n 3), 7), (7, .inr (5, 29, 77, 3), 10), (10, .inl .i2l, 11)]),
  (28, [(11, .inl .lastore, 12), (12, .inl (.goto 15), 15), (27, .inl (.iconst 0), 28), (28, .inl .ireturn, 29)])]
noncomputable def zc_Mod_isMemberName : zm_C := [(5, [(0, .inl (.iload_n 0), 1), (1, .inl (.bipush 97), 3), (3, .inl (.bipush 122), 5), (5, .inr (3, 187, 44, 3), 8)]),
  (8, [(8, .inl .ireturn, 9)])]
noncomputable def zc_Mod_addMember : zm_C := [(4, [(0, .inl (.aload_n 0), 1), (1, .inl (.iload_n 1), 2), (2, .inl (.iconst 4), 3), (3, .inl (.iload_n 2), 4), (4, .inl (.iload_n 3), 5)]),
  (11, [(5, .inl (.iconst 0), 6), (6, .inl (.iconst 0), 7), (7, .inl (.iload_n 2), 8), (8, .inr (3, 194, 45, 1), 11), (11, .inl (.ifCond .eq 14), 14)]),
  (22, [(14, .inl (.iload_n 3), 15), (15, .inr (3, 201, 79, 1), 18), (18, .inl (.ifCond .eq 7), 21), (21, .inl (.iconst 1), 22), (22, .inl (.goto 4), 25)]),
  (29, [(25, .inl (.iconst 0), 26), (26, .inr (5, 197, 65, 7), 29), (29, .inl .ireturn, 30)])]
noncomputable def zc_RR_removeMember : zm_C := [(3, [(0, .inl (.aload_n 0), 1), (1, .inl (.iload_n 1), 2), (2, .inl (.iconst 5), 3), (3, .inl (.iload_n 2), 4)]),
  (7, [(4, .inl (.iload_n 3), 5), (5, .inl (.iconst 0), 6), (6, .inl (.iconst 0), 7), (7, .inr (5, 68, 41, 6), 10)]),
  (10, [(10, .inl .ireturn, 11)])]
noncomputable def zc_Law_removeMember : zm_C := [(4, [(0, .inl (.aload 4), 2), (2, .inl (.iconst 0), 3), (3, .inl (.aload_n 0), 4), (4, .inl (.iload_n 1), 5)]),
  (10, [(5, .inl (.iload_n 2), 6), (6, .inl (.iload_n 3), 7), (7, .inr (5, 32, 81, 3), 10), (10, .inl .i2l, 11)]),
  (28, [(11, .inl .lastore, 12), (12, .inl (.goto 15), 15), (27, .inl (.iconst 0), 28), (28, .inl .ireturn, 29)])]
noncomputable def zc_Mod_removeMember : zm_C := [(4, [(0, .inl (.aload_n 0), 1), (1, .inl (.iload_n 1), 2), (2, .inl (.iconst 5), 3), (3, .inl (.iload_n 2), 4), (4, .inl (.iload_n 3), 5)]),
  (11, [(5, .inl (.iconst 0), 6), (6, .inl (.iconst 0), 7), (7, .inl (.iload_n 2), 8), (8, .inr (3, 194, 45, 1), 11), (11, .inl (.ifCond .eq 14), 14)]),
  (22, [(14, .inl (.iload_n 3), 15), (15, .inr (3, 201, 79, 1), 18), (18, .inl (.ifCond .eq 7), 21), (21, .inl (.iconst 1), 22), (22, .inl (.goto 4), 25)]),
  (29, [(25, .inl (.iconst 0), 26), (26, .inr (5, 197, 65, 7), 29), (29, .inl .ireturn, 30)])]
noncomputable def zc_RR_renameMember : zm_C := [(4, [(0, .inl (.aload_n 0), 1), (1, .inl (.iload_n 1), 2), (2, .inl (.bipush 6), 4), (4, .inl (.iload_n 2), 5)]),
  (9, [(5, .inl (.iload_n 3), 6), (6, .inl (.iconst 0), 7), (7, .inl (.iload 4), 9), (9, .inr (5, 68, 41, 6), 12)]),
  (12, [(12, .inl .ireturn, 13)])]
noncomputable def zc_Law_renameMember : zm_C := [(4, [(0, .inl (.aload 5), 2), (2, .inl (.iconst 0), 3), (3, .inl (.aload_n 0), 4), (4, .inl (.iload_n 1), 5)]),
  (9, [(5, .inl (.iload_n 2), 6), (6, .inl (.iload_n 3), 7), (7, .inl (.iload 4), 9), (9, .inr (5, 35, 84, 4), 12)]),
  (29, [(12, .inl .i2l, 13), (13, .inl .lastore, 14), (14, .inl (.goto 15), 17), (29, .inl (.iconst 0), 30)]),
  (30, [(30, .inl .ireturn, 31)])]
noncomputable def zc_Mod_renameMember : zm_C := [(5, [(0, .inl (.aload_n 0), 1), (1, .inl (.iload_n 1), 2), (2, .inl (.bipush 6), 4), (4, .inl (.iload_n 2), 5), (5, .inl (.iload_n 3), 6)]),
  (13, [(6, .inl (.iconst 0), 7), (7, .inl (.iload 4), 9), (9, .inl (.iload_n 2), 10), (10, .inr (3, 194, 45, 1), 13), (13, .inl (.ifCond .eq 22), 16)]),
  (25, [(16, .inl (.iload_n 3), 17), (17, .inr (3, 201, 79, 1), 20), (20, .inl (.ifCond .eq 15), 23), (23, .inl (.iload 4), 25), (25, .inr (3, 201, 79, 1), 28)]),
  (36, [(28, .inl (.ifCond .eq 7), 31), (31, .inl (.iconst 1), 32), (32, .inl (.goto 4), 35), (35, .inl (.iconst 0), 36), (36, .inr (5, 197, 65, 7), 39)]),
  (39, [(39, .inl .ireturn, 40)])]
noncomputable def zc_RR_moveMember : zm_C := [(4, [(0, .inl (.aload_n 0), 1), (1, .inl (.iload_n 1), 2), (2, .inl (.bipush 7), 4), (4, .inl (.iload_n 2), 5)]),
  (9, [(5, .inl (.iload_n 3), 6), (6, .inl (.iload 4), 8), (8, .inl (.iconst 0), 9), (9, .inr (5, 68, 41, 6), 12)]),
  (12, [(12, .inl .ireturn, 13)])]
noncomputable def zc_Law_moveMember : zm_C := [(4, [(0, .inl (.aload 5), 2), (2, .inl (.iconst 0), 3), (3, .inl (.aload_n 0), 4), (4, .inl (.iload_n 1), 5)]),
  (9, [(5, .inl (.iload_n 2), 6), (6, .inl (.iload_n 3), 7), (7, .inl (.iload 4), 9), (9, .inr (5, 39, 87, 4), 12)]),
  (29, [(12, .inl .i2l, 13), (13, .inl .lastore, 14), (14, .inl (.goto 15), 17), (29, .inl (.iconst 0), 30)]),
  (30, [(30, .inl .ireturn, 31)])]
noncomputable def zc_Mod_moveMember : zm_C := [(5, [(0, .inl (.aload_n 0), 1), (1, .inl (.iload_n 1), 2), (2, .inl (.bipush 7), 4), (4, .inl (.iload_n 2), 5), (5, .inl (.iload_n 3), 6)]),
  (13, [(6, .inl (.iload 4), 8), (8, .inl (.iconst 0), 9), (9, .inl (.iload_n 2), 10), (10, .inr (3, 194, 45, 1), 13), (13, .inl (.ifCond .eq 22), 16)]),
  (25, [(16, .inl (.iload_n 3), 17), (17, .inr (3, 201, 79, 1), 20), (20, .inl (.ifCond .eq 15), 23), (23, .inl (.iload 4), 25), (25, .inr (3, 194, 45, 1), 28)]),
  (36, [(28, .inl (.ifCond .eq 7), 31), (31, .inl (.iconst 1), 32), (32, .inl (.goto 4), 35), (35, .inl (.iconst 0), 36), (36, .inr (5, 197, 65, 7), 39)]),
  (39, [(39, .inl .ireturn, 40)])]
noncomputable def zc_RR_addUse : zm_C := [(4, [(0, .inl (.aload_n 0), 1), (1, .inl (.iload_n 1), 2), (2, .inl (.bipush 8), 4), (4, .inl (.iload_n 2), 5)]),
  (10, [(5, .inl (.iload_n 3), 6), (6, .inl (.iload 4), 8), (8, .inl (.iload 5), 10), (10, .inr (5, 68, 41, 6), 13)]),
  (13, [(13, .inl .ireturn, 14)])]
noncomputable def zc_Law_addUse : zm_C := [(4, [(0, .inl (.aload 6), 2), (2, .inl (.iconst 0), 3), (3, .inl (.aload_n 0), 4), (4, .inl (.iload_n 1), 5)]),
  (9, [(5, .inl (.iload_n 2), 6), (6, .inl (.iload_n 3), 7), (7, .inl (.iload 4), 9), (9, .inl (.iload 5), 11)]),
  (16, [(11, .inr (5, 42, 90, 5), 14), (14, .inl .i2l, 15), (15, .inl .lastore, 16), (16, .inl (.goto 15), 19)]),
  (32, [(31, .inl (.iconst 0), 32), (32, .inl .ireturn, 33)])]
noncomputable def zc_Mod_areFour : zm_C := [(8, [(0, .inl (.iload_n 0), 1), (1, .inr (3, 194, 45, 1), 4), (4, .inl (.ifCond .eq 28), 7), (7, .inl (.iload_n 1), 8), (8, .inr (3, 201, 79, 1), 11)]),
  (21, [(11, .inl (.ifCond .eq 21), 14), (14, .inl (.iload_n 2), 15), (15, .inr (3, 194, 45, 1), 18), (18, .inl (.ifCond .eq 14), 21), (21, .inl (.iload_n 3), 22)]),
  (32, [(22, .inr (3, 201, 79, 1), 25), (25, .inl (.ifCond .eq 7), 28), (28, .inl (.iconst 1), 29), (29, .inl (.goto 4), 32), (32, .inl (.iconst 0), 33)]),
  (33, [(33, .inl .ireturn, 34)])]
noncomputable def zc_Mod_addUse : zm_C := [(4, [(0, .inl (.aload_n 0), 1), (1, .inl (.iload_n 1), 2), (2, .inl (.bipush 8), 4), (4, .inl (.iload_n 2), 5)]),
  (10, [(5, .inl (.iload_n 3), 6), (6, .inl (.iload 4), 8), (8, .inl (.iload 5), 10), (10, .inl (.iload_n 2), 11)]),
  (16, [(11, .inl (.iload_n 3), 12), (12, .inl (.iload 4), 14), (14, .inl (.iload 5), 16), (16, .inr (3, 204, 92, 4), 19)]),
  (22, [(19, .inr (5, 197, 65, 7), 22), (22, .inl .ireturn, 23)])]
noncomputable def zc_RR_removeUse : zm_C := [(4, [(0, .inl (.aload_n 0), 1), (1, .inl (.iload_n 1), 2), (2, .inl (.bipush 9), 4), (4, .inl (.iload_n 2), 5)]),
  (10, [(5, .inl (.iload_n 3), 6), (6, .inl (.iload 4), 8), (8, .inl (.iload 5), 10), (10, .inr (5, 68, 41, 6), 13)]),
  (13, [(13, .inl .ireturn, 14)])]
noncomputable def zc_Law_removeUse : zm_C := [(4, [(0, .inl (.aload 6), 2), (2, .inl (.iconst 0), 3), (3, .inl (.aload_n 0), 4), (4, .inl (.iload_n 1), 5)]),
  (9, [(5, .inl (.iload_n 2), 6), (6, .inl (.iload_n 3), 7), (7, .inl (.iload 4), 9), (9, .inl (.iload 5), 11)]),
  (16, [(11, .inr (5, 46, 94, 5), 14), (14, .inl .i2l, 15), (15, .inl .lastore, 16), (16, .inl (.goto 15), 19)]),
  (32, [(31, .inl (.iconst 0), 32), (32, .inl .ireturn, 33)])]
noncomputable def zc_Mod_removeUse : zm_C := [(4, [(0, .inl (.aload_n 0), 1), (1, .inl (.iload_n 1), 2), (2, .inl (.bipush 9), 4), (4, .inl (.iload_n 2), 5)]),
  (10, [(5, .inl (.iload_n 3), 6), (6, .inl (.iload 4), 8), (8, .inl (.iload 5), 10), (10, .inl (.iload_n 2), 11)]),
  (16, [(11, .inl (.iload_n 3), 12), (12, .inl (.iload 4), 14), (14, .inl (.iload 5), 16), (16, .inr (3, 204, 92, 4), 19)]),
  (22, [(19, .inr (5, 197, 65, 7), 22), (22, .inl .ireturn, 23)])]
noncomputable def zc_Prog_classCount : zm_C := [(4, [(0, .inl (.iconst 0), 1), (1, .inl (.istore_n 1), 2), (2, .inl (.iconst 0), 3), (3, .inl (.istore_n 2), 4), (4, .inl (.iload_n 2), 5)]),
  (12, [(5, .inl (.bipush 12), 7), (7, .inl (.if_icmp .ge 26), 10), (10, .inl (.iload_n 1), 11), (11, .inl (.aload_n 0), 12), (12, .inr (0, 9, 4, 0), 15)]),
  (21, [(15, .inl (.iload_n 2), 16), (16, .inl .iaload, 17), (17, .inl (.ifCond .ne 7), 20), (20, .inl (.iconst 0), 21), (21, .inl (.goto 4), 24)]),
  (30, [(24, .inl (.iconst 1), 25), (25, .inl .iadd, 26), (26, .inl (.istore_n 1), 27), (27, .inl (.iinc 2 1), 30), (30, .inl (.goto (-26)), 33)]),
  (34, [(33, .inl (.iload_n 1), 34), (34, .inl .ireturn, 35)])]
noncomputable def zc_RR_classes : zm_C := [(5, [(0, .inl (.aload_n 0), 1), (1, .inl (.iload_n 1), 2), (2, .inr (5, 72, 9, 1), 5), (5, .inr (5, 76, 97, 0), 8)]),
  (8, [(8, .inl .ireturn, 9)])]
noncomputable def zc_Law_classes : zm_C := [(3, [(0, .inl (.aload_n 2), 1), (1, .inl (.iconst 0), 2), (2, .inl (.aload_n 0), 3), (3, .inl (.iload_n 1), 4)]),
  (9, [(4, .inr (5, 49, 98, 1), 7), (7, .inl .i2l, 8), (8, .inl .lastore, 9), (9, .inl (.goto 6), 12)]),
  (16, [(15, .inl (.iconst 0), 16), (16, .inl .ireturn, 17)])]
noncomputable def zc_Mod_lacksVersion : zm_C := [(4, [(0, .inl (.aload_n 0), 1), (1, .inl (.iload_n 1), 2), (2, .inl (.iconst 0), 3), (3, .inl (.iconst 1), 4), (4, .inr (3, 187, 44, 3), 7)]),
  (15, [(7, .inl (.ifCond .eq 7), 10), (10, .inl (.iconst 0), 11), (11, .inl (.goto 4), 14), (14, .inl (.iconst 1), 15), (15, .inr (1, 65, 7, 9), 18)]),
  (26, [(18, .inl (.aload_n 0), 19), (19, .inr (0, 65, 7, 9), 22), (22, .inl (.iconst 1), 23), (23, .inl (.if_icmp .ne 7), 26), (26, .inl (.iconst 1), 27)]),
  (31, [(27, .inl (.goto 4), 30), (30, .inl (.iconst 0), 31), (31, .inl .ireturn, 32)])]
noncomputable def zc_Mod_copies : zm_C := [(3, [(0, .inl (.iconst 0), 1), (1, .inl (.istore_n 2), 2), (2, .inl (.iload_n 2), 3), (3, .inl (.sipush 1704), 6)]),
  (11, [(6, .inl (.if_icmp .ge 15), 9), (9, .inl (.aload_n 1), 10), (10, .inl (.iload_n 2), 11), (11, .inl (.aload_n 0), 12)]),
  (15, [(12, .inl (.iload_n 2), 13), (13, .inl .iaload, 14), (14, .inl .iastore, 15), (15, .inl (.iinc 2 1), 18)]),
  (21, [(18, .inl (.goto (-16)), 21), (21, .inl .return_, 22)])]
noncomputable def zc_Mod_looks : zm_C := [(5, [(0, .inl (.iload_n 1), 1), (1, .inl (.ifCond .ne 10), 4), (4, .inl (.aload_n 0), 5), (5, .inr (0, 7, 7, 0), 8)]),
  (15, [(8, .inl (.goto 7), 11), (11, .inl (.aload_n 0), 12), (12, .inr (0, 13, 7, 1), 15), (15, .inl (.aload_n 0), 16)]),
  (22, [(16, .inr (0, 19, 7, 3), 19), (19, .inr (3, 157, 101, 2), 22), (22, .inl .return_, 23)])]
noncomputable def zc_Mod_classes : zm_C := [(5, [(0, .inl (.aload_n 0), 1), (1, .inl (.iload_n 1), 2), (2, .inr (5, 208, 100, 1), 5), (5, .inl (.ifCond .eq 5), 8)]),
  (11, [(8, .inl (.iconst 0), 9), (9, .inl .ireturn, 10), (10, .inl (.aload_n 0), 11), (11, .inl (.iload_n 1), 12)]),
  (19, [(12, .inr (5, 211, 102, 1), 15), (15, .inl (.aload_n 0), 16), (16, .inr (0, 19, 7, 3), 19), (19, .inl (.iconst 0), 20)]),
  (25, [(20, .inl (.bipush 12), 22), (22, .inr (3, 120, 47, 3), 25), (25, .inl .ireturn, 26)])]
noncomputable def zc_Prog_nameByOrder : zm_C := [(5, [(0, .inl (.iload_n 1), 1), (1, .inl (.istore_n 2), 2), (2, .inl (.bipush 65), 4), (4, .inl (.istore_n 3), 5), (5, .inl (.iload_n 3), 6)]),
  (15, [(6, .inl (.bipush 90), 8), (8, .inl (.if_icmp .gt 30), 11), (11, .inl (.iload_n 2), 12), (12, .inl (.ifCond .lt 26), 15), (15, .inl (.aload_n 0), 16)]),
  (24, [(16, .inl (.iload_n 3), 17), (17, .inr (5, 107, 15, 1), 20), (20, .inl (.ifCond .lt 12), 23), (23, .inl (.iload_n 2), 24), (24, .inl (.ifCond .ne 5), 27)]),
  (35, [(27, .inl (.iload_n 3), 28), (28, .inl .ireturn, 29), (29, .inl (.iinc 2 (-1)), 32), (32, .inl (.iinc 3 1), 35), (35, .inl (.goto (-30)), 38)]),
  (39, [(38, .inl (.iconst 0), 39), (39, .inl .ireturn, 40)])]
noncomputable def zc_RR_className : zm_C := [(5, [(0, .inl (.aload_n 0), 1), (1, .inl (.iload_n 1), 2), (2, .inr (5, 72, 9, 1), 5), (5, .inl (.iload_n 2), 6)]),
  (11, [(6, .inr (5, 80, 104, 1), 9), (9, .inl (.istore_n 3), 10), (10, .inl (.iload_n 3), 11), (11, .inl (.ifCond .ne 13), 14)]),
  (25, [(14, .inr (12, 84, 0, 3), 24), (24, .inl (.iload_n 3), 25), (25, .inl .ireturn, 26)])]
noncomputable def zc_Law_className : zm_C := [(3, [(0, .inl (.aload_n 3), 1), (1, .inl (.iconst 0), 2), (2, .inl (.aload_n 0), 3), (3, .inl (.iload_n 1), 4)]),
  (9, [(4, .inl (.iload_n 2), 5), (5, .inr (5, 53, 105, 2), 8), (8, .inl .i2l, 9), (9, .inl .lastore, 10)]),
  (18, [(10, .inl (.goto 7), 13), (17, .inl (.iconst 0), 18), (18, .inl .ireturn, 19)])]
noncomputable def zc_Mod_ordered : zm_C := [(6, [(0, .inl (.iload_n 1), 1), (1, .inl (.istore_n 2), 2), (2, .inl (.bipush 65), 4), (4, .inl (.istore_n 3), 5), (5, .inl (.iload_n 3), 6), (6, .inl (.bipush 90), 8)]),
  (18, [(8, .inl (.if_icmp .gt 41), 11), (11, .inl (.aload_n 0), 12), (12, .inl (.iload_n 3), 13), (13, .inr (3, 68, 46, 2), 16), (16, .inl (.istore 4), 18), (18, .inl (.iload 4), 20)]),
  (30, [(20, .inl (.ifCond .lt 10), 23), (23, .inl (.iload_n 2), 24), (24, .inl (.ifCond .ne 6), 27), (27, .inl (.iload 4), 29), (29, .inl .ireturn, 30), (30, .inl (.iload_n 2), 31)]),
  (41, [(31, .inl (.iload 4), 33), (33, .inl (.ifCond .lt 7), 36), (36, .inl (.iconst 1), 37), (37, .inl (.goto 4), 40), (40, .inl (.iconst 0), 41), (41, .inl .isub, 42)]),
  (50, [(42, .inl (.istore_n 2), 43), (43, .inl (.iinc 3 1), 46), (46, .inl (.goto (-41)), 49), (49, .inl (.iconst (-1)), 50), (50, .inl .ireturn, 51)])]
noncomputable def zc_Mod_fails : zm_C := [(5, [(0, .inl (.aload_n 0), 1), (1, .inl (.iload_n 1), 2), (2, .inr (1, 65, 7, 9), 5), (5, .inl (.iconst 0), 6)]),
  (6, [(6, .inl .ireturn, 7)])]
noncomputable def zc_Mod_className : zm_C := [(9, [(0, .inl (.aload_n 0), 1), (1, .inl (.iload_n 1), 2), (2, .inr (5, 208, 100, 1), 5), (5, .inl (.ifCond .eq 5), 8), (8, .inl (.iconst 0), 9), (9, .inl .ireturn, 10)]),
  (19, [(10, .inl (.aload_n 0), 11), (11, .inl (.iload_n 1), 12), (12, .inr (5, 211, 102, 1), 15), (15, .inl (.iload_n 2), 16), (16, .inl (.ifCond .ge 7), 19), (19, .inl (.iconst (-1)), 20)]),
  (31, [(20, .inl (.goto 11), 23), (23, .inl (.aload_n 0), 24), (24, .inr (0, 19, 7, 3), 27), (27, .inl (.iload_n 2), 28), (28, .inr (3, 215, 107, 2), 31), (31, .inl (.istore_n 3), 32)]),
  (41, [(32, .inl (.iload_n 3), 33), (33, .inl (.ifCond .ge 11), 36), (36, .inl (.aload_n 0), 37), (37, .inl (.iconst 1), 38), (38, .inr (5, 218, 108, 1), 41), (41, .inl (.goto 9), 44)]),
  (50, [(44, .inl (.aload_n 0), 45), (45, .inr (0, 19, 7, 3), 48), (48, .inl (.iload_n 3), 49), (49, .inl .iaload, 50), (50, .inl .ireturn, 51)])]
noncomputable def zc_RR_requireClassName : zm_C := [(7, [(0, .inl (.iload_n 0), 1), (1, .inr (3, 244, 11, 1), 4), (4, .inl (.ifCond .ne 13), 7), (7, .inr (12, 227, 1, 4), 17)]),
  (17, [(17, .inl .return_, 18)])]
noncomputable def zc_Prog_superNameOf : zm_C := [(7, [(0, .inl (.iload_n 1), 1), (1, .inl (.ifCond .lt 9), 4), (4, .inl (.iload_n 1), 5), (5, .inl (.bipush 12), 7), (7, .inl (.if_icmp .lt 7), 10)]),
  (18, [(10, .inl (.iconst (-1)), 11), (11, .inl (.goto 9), 14), (14, .inl (.aload_n 0), 15), (15, .inr (0, 15, 4, 1), 18), (18, .inl (.iload_n 1), 19)]),
  (25, [(19, .inl .iaload, 20), (20, .inl (.istore_n 2), 21), (21, .inl (.iload_n 2), 22), (22, .inl (.ifCond .lt 9), 25), (25, .inl (.iload_n 2), 26)]),
  (35, [(26, .inl (.bipush 12), 28), (28, .inl (.if_icmp .lt 7), 31), (31, .inl (.iconst 0), 32), (32, .inl (.goto 9), 35), (35, .inl (.aload_n 0), 36)]),
  (41, [(36, .inr (0, 9, 4, 0), 39), (39, .inl (.iload_n 2), 40), (40, .inl .iaload, 41), (41, .inl .ireturn, 42)])]
noncomputable def zc_RR_superOf : zm_C := [(6, [(0, .inl (.aload_n 0), 1), (1, .inl (.iload_n 1), 2), (2, .inr (5, 72, 9, 1), 5), (5, .inl (.astore_n 3), 6), (6, .inl (.iload_n 2), 7)]),
  (15, [(7, .inr (3, 91, 110, 1), 10), (10, .inl (.aload_n 3), 11), (11, .inl (.iload_n 2), 12), (12, .inr (5, 95, 15, 1), 15), (15, .inl (.istore 4), 17)]),
  (26, [(17, .inl (.iload 4), 19), (19, .inl (.ifCond .ge 7), 22), (22, .inl (.iconst (-1)), 23), (23, .inl (.goto 9), 26), (26, .inl (.aload_n 3), 27)]),
  (32, [(27, .inl (.iload 4), 29), (29, .inr (5, 98, 111, 1), 32), (32, .inl .ireturn, 33)])]
noncomputable def zc_Law_superOf : zm_C := [(3, [(0, .inl (.aload_n 3), 1), (1, .inl (.iconst 0), 2), (2, .inl (.aload_n 0), 3), (3, .inl (.iload_n 1), 4)]),
  (9, [(4, .inl (.iload_n 2), 5), (5, .inr (5, 56, 112, 2), 8), (8, .inl .i2l, 9), (9, .inl .lastore, 10)]),
  (22, [(10, .inl (.goto 11), 13), (21, .inl (.iconst 0), 22), (22, .inl .ireturn, 23)])]
noncomputable def zc_Mod_isWrong : zm_C := [(4, [(0, .inl (.aload_n 0), 1), (1, .inl (.iload_n 1), 2), (2, .inl (.iconst 0), 3), (3, .inl (.iconst 1), 4), (4, .inr (3, 187, 44, 3), 7)]),
  (15, [(7, .inl (.ifCond .ne 7), 10), (10, .inl (.iconst 1), 11), (11, .inl (.goto 12), 14), (14, .inl (.iload_n 2), 15), (15, .inl (.ifCond .eq 7), 18)]),
  (26, [(18, .inl (.iconst 0), 19), (19, .inl (.goto 4), 22), (22, .inl (.iconst 2), 23), (23, .inr (1, 65, 7, 9), 26), (26, .inl (.aload_n 0), 27)]),
  (37, [(27, .inr (0, 65, 7, 9), 30), (30, .inl (.ifCond .eq 7), 33), (33, .inl (.iconst 1), 34), (34, .inl (.goto 4), 37), (37, .inl (.iconst 0), 38)]),
  (38, [(38, .inl .ireturn, 39)])]
noncomputable def zc_Mod_nameOfSuper : zm_C := [(5, [(0, .inl (.aload_n 0), 1), (1, .inl (.bipush 12), 3), (3, .inl (.iload_n 1), 4), (4, .inl .iadd, 5), (5, .inl .iaload, 6)]),
  (14, [(6, .inl (.ifCond .ne 7), 9), (9, .inl (.iconst 0), 10), (10, .inl (.goto 13), 13), (13, .inl (.aload_n 0), 14), (14, .inl (.aload_n 0), 15)]),
  (20, [(15, .inl (.bipush 12), 17), (17, .inl (.iload_n 1), 18), (18, .inl .iadd, 19), (19, .inl .iaload, 20), (20, .inl (.iconst 1), 21)]),
  (23, [(21, .inl .isub, 22), (22, .inl .iaload, 23), (23, .inl .ireturn, 24)])]
noncomputable def zc_Mod_superOf : zm_C := [(9, [(0, .inl (.aload_n 0), 1), (1, .inl (.iload_n 1), 2), (2, .inl (.iload_n 2), 3), (3, .inr (3, 194, 45, 1), 6), (6, .inr (5, 222, 114, 2), 9), (9, .inl (.ifCond .eq 5), 12)]),
  (19, [(12, .inl (.iconst 0), 13), (13, .inl .ireturn, 14), (14, .inl (.aload_n 0), 15), (15, .inl (.iload_n 1), 16), (16, .inr (5, 211, 102, 1), 19), (19, .inl (.aload_n 0), 20)]),
  (29, [(20, .inr (0, 19, 7, 3), 23), (23, .inl (.iload_n 2), 24), (24, .inr (3, 68, 46, 2), 27), (27, .inl (.istore_n 3), 28), (28, .inl (.iload_n 3), 29), (29, .inl (.ifCond .ge 7), 32)]),
  (41, [(32, .inl (.iconst (-1)), 33), (33, .inl (.goto 11), 36), (36, .inl (.aload_n 0), 37), (37, .inr (0, 19, 7, 3), 40), (40, .inl (.iload_n 3), 41), (41, .inr (3, 130, 115, 2), 44)]),
  (44, [(44, .inl .ireturn, 45)])]
noncomputable def zc_RR_members : zm_C := [(6, [(0, .inl (.aload_n 0), 1), (1, .inl (.iload_n 1), 2), (2, .inr (5, 72, 9, 1), 5), (5, .inl (.astore_n 3), 6), (6, .inl (.iload_n 2), 7)]),
  (15, [(7, .inr (3, 91, 110, 1), 10), (10, .inl (.aload_n 3), 11), (11, .inl (.iload_n 2), 12), (12, .inr (5, 95, 15, 1), 15), (15, .inl (.istore 4), 17)]),
  (26, [(17, .inl (.iload 4), 19), (19, .inl (.ifCond .ge 7), 22), (22, .inl (.iconst (-1)), 23), (23, .inl (.goto 11), 26), (26, .inl (.aload_n 3), 27)]),
  (34, [(27, .inl (.iconst 1), 28), (28, .inl (.iload 4), 30), (30, .inl .ishl, 31), (31, .inr (5, 101, 18, 1), 34), (34, .inl .ireturn, 35)])]
noncomputable def zc_Law_members : zm_C := [(3, [(0, .inl (.aload_n 3), 1), (1, .inl (.iconst 0), 2), (2, .inl (.aload_n 0), 3), (3, .inl (.iload_n 1), 4)]),
  (9, [(4, .inl (.iload_n 2), 5), (5, .inr (5, 59, 117, 2), 8), (8, .inl .i2l, 9), (9, .inl .lastore, 10)]),
  (22, [(10, .inl (.goto 11), 13), (21, .inl (.iconst 0), 22), (22, .inl .ireturn, 23)])]
noncomputable def zc_Mod_membersOf : zm_C := [(7, [(0, .inl (.iconst 0), 1), (1, .inl (.istore_n 2), 2), (2, .inl (.iconst 0), 3), (3, .inl (.istore_n 3), 4), (4, .inl (.iload_n 3), 5), (5, .inl (.bipush 40), 7), (7, .inl (.if_icmp .ge 46), 10)]),
  (17, [(10, .inl (.iload_n 2), 11), (11, .inl (.aload_n 0), 12), (12, .inl (.bipush 24), 14), (14, .inl (.iload_n 3), 15), (15, .inl .iadd, 16), (16, .inl .iaload, 17), (17, .inl (.ifCond .eq 27), 20)]),
  (27, [(20, .inl (.aload_n 0), 21), (21, .inl (.bipush 64), 23), (23, .inl (.iload_n 3), 24), (24, .inl .iadd, 25), (25, .inl .iaload, 26), (26, .inl (.iload_n 1), 27), (27, .inl (.if_icmp .ne 17), 30)]),
  (37, [(30, .inl (.iconst 1), 31), (31, .inl (.aload_n 0), 32), (32, .inl (.bipush 24), 34), (34, .inl (.iload_n 3), 35), (35, .inl .iadd, 36), (36, .inl .iaload, 37), (37, .inl (.bipush 97), 39)]),
  (47, [(39, .inl .isub, 40), (40, .inl .ishl, 41), (41, .inl (.goto 4), 44), (44, .inl (.iconst 0), 45), (45, .inl .ior, 46), (46, .inl (.istore_n 2), 47), (47, .inl (.iinc 3 1), 50)]),
  (54, [(50, .inl (.goto (-46)), 53), (53, .inl (.iload_n 2), 54), (54, .inl .ireturn, 55)])]
noncomputable def zc_Mod_members : zm_C := [(9, [(0, .inl (.aload_n 0), 1), (1, .inl (.iload_n 1), 2), (2, .inl (.iload_n 2), 3), (3, .inr (3, 194, 45, 1), 6), (6, .inr (5, 222, 114, 2), 9), (9, .inl (.ifCond .eq 5), 12)]),
  (19, [(12, .inl (.iconst 0), 13), (13, .inl .ireturn, 14), (14, .inl (.aload_n 0), 15), (15, .inl (.iload_n 1), 16), (16, .inr (5, 211, 102, 1), 19), (19, .inl (.aload_n 0), 20)]),
  (29, [(20, .inr (0, 19, 7, 3), 23), (23, .inl (.iload_n 2), 24), (24, .inr (3, 68, 46, 2), 27), (27, .inl (.istore_n 3), 28), (28, .inl (.iload_n 3), 29), (29, .inl (.ifCond .ge 7), 32)]),
  (41, [(32, .inl (.iconst (-1)), 33), (33, .inl (.goto 11), 36), (36, .inl (.aload_n 0), 37), (37, .inr (0, 19, 7, 3), 40), (40, .inl (.iload_n 3), 41), (41, .inr (3, 226, 119, 2), 44)]),
  (44, [(44, .inl .ireturn, 45)])]
noncomputable def zc_RR_uses : zm_C := [(5, [(0, .inl (.aload_n 0), 1), (1, .inl (.iload_n 1), 2), (2, .inr (5, 72, 9, 1), 5), (5, .inr (5, 104, 35, 0), 8)]),
  (8, [(8, .inl .ireturn, 9)])]
noncomputable def zc_Law_uses : zm_C := [(3, [(0, .inl (.aload_n 2), 1), (1, .inl (.iconst 0), 2), (2, .inl (.aload_n 0), 3), (3, .inl (.iload_n 1), 4)]),
  (9, [(4, .inr (5, 62, 121, 1), 7), (7, .inl .i2l, 8), (8, .inl .lastore, 9), (9, .inl (.goto 6), 12)]),
  (16, [(15, .inl (.iconst 0), 16), (16, .inl .ireturn, 17)])]
noncomputable def zc_Mod_uses : zm_C := [(5, [(0, .inl (.aload_n 0), 1), (1, .inl (.iload_n 1), 2), (2, .inr (5, 208, 100, 1), 5), (5, .inl (.ifCond .eq 5), 8)]),
  (11, [(8, .inl (.iconst 0), 9), (9, .inl .ireturn, 10), (10, .inl (.aload_n 0), 11), (11, .inl (.iload_n 1), 12)]),
  (19, [(12, .inr (5, 211, 102, 1), 15), (15, .inl (.aload_n 0), 16), (16, .inr (0, 19, 7, 3), 19), (19, .inl (.bipush 104), 21)]),
  (27, [(21, .inl (.sipush 1600), 24), (24, .inr (3, 120, 47, 3), 27), (27, .inl .ireturn, 28)])]
noncomputable def zc_RR_requireMemberName : zm_C := [(7, [(0, .inl (.iload_n 0), 1), (1, .inr (3, 250, 12, 1), 4), (4, .inl (.ifCond .ne 13), 7), (7, .inr (12, 227, 1, 5), 17)]),
  (17, [(17, .inl .return_, 18)])]
noncomputable def zc_RR_hasUse : zm_C := [(7, [(0, .inl (.aload_n 0), 1), (1, .inl (.iload_n 1), 2), (2, .inr (5, 72, 9, 1), 5), (5, .inl (.astore 6), 7), (7, .inl (.iload_n 2), 8)]),
  (17, [(8, .inr (3, 91, 110, 1), 11), (11, .inl (.iload_n 3), 12), (12, .inr (3, 107, 124, 1), 15), (15, .inl (.iload 4), 17), (17, .inr (3, 91, 110, 1), 20)]),
  (29, [(20, .inl (.iload 5), 22), (22, .inr (3, 107, 124, 1), 25), (25, .inl (.aload 6), 27), (27, .inl (.aload 6), 29), (29, .inl (.iload_n 2), 30)]),
  (38, [(30, .inl (.iload_n 3), 31), (31, .inr (5, 110, 28, 2), 34), (34, .inl (.aload 6), 36), (36, .inl (.iload 4), 38), (38, .inl (.iload 5), 40)]),
  (46, [(40, .inr (5, 110, 28, 2), 43), (43, .inr (5, 114, 29, 2), 46), (46, .inl .ireturn, 47)])]
noncomputable def zc_Law_hasUse : zm_C := [(5, [(0, .inl (.aload 6), 2), (2, .inl (.iconst 0), 3), (3, .inl (.aload_n 0), 4), (4, .inl (.iload_n 1), 5), (5, .inl (.iload_n 2), 6)]),
  (14, [(6, .inl (.iload_n 3), 7), (7, .inl (.iload 4), 9), (9, .inl (.iload 5), 11), (11, .inr (5, 65, 125, 5), 14), (14, .inl (.ifCond .eq 7), 17)]),
  (23, [(17, .inl (.lconst 1), 18), (18, .inl (.goto 4), 21), (21, .inl (.lconst 0), 22), (22, .inl .lastore, 23), (23, .inl (.goto 11), 26)]),
  (35, [(34, .inl (.iconst 0), 35), (35, .inl .ireturn, 36)])]
noncomputable def zc_Mod_hasUse : zm_C := [(8, [(0, .inl (.aload_n 0), 1), (1, .inl (.iload_n 1), 2), (2, .inl (.iload_n 2), 3), (3, .inl (.iload_n 3), 4), (4, .inl (.iload 4), 6), (6, .inl (.iload 5), 8), (8, .inr (3, 204, 92, 4), 11)]),
  (21, [(11, .inr (5, 222, 114, 2), 14), (14, .inl (.ifCond .eq 5), 17), (17, .inl (.iconst 0), 18), (18, .inl .ireturn, 19), (19, .inl (.aload_n 0), 20), (20, .inl (.iload_n 1), 21), (21, .inr (5, 211, 102, 1), 24)]),
  (35, [(24, .inl (.aload_n 0), 25), (25, .inr (0, 19, 7, 3), 28), (28, .inl (.iload_n 2), 29), (29, .inl (.iload_n 3), 30), (30, .inr (3, 111, 61, 3), 33), (33, .inl (.istore 6), 35), (35, .inl (.aload_n 0), 36)]),
  (50, [(36, .inr (0, 19, 7, 3), 39), (39, .inl (.iload 4), 41), (41, .inl (.iload 5), 43), (43, .inr (3, 111, 61, 3), 46), (46, .inl (.istore 7), 48), (48, .inl (.iload 6), 50), (50, .inl (.ifCond .lt 32), 53)]),
  (66, [(53, .inl (.iload 7), 55), (55, .inl (.ifCond .lt 27), 58), (58, .inl (.aload_n 0), 59), (59, .inr (0, 19, 7, 3), 62), (62, .inl (.bipush 104), 64), (64, .inl (.bipush 40), 66), (66, .inl (.iload 6), 68)]),
  (75, [(68, .inl .imul, 69), (69, .inl .iadd, 70), (70, .inl (.iload 7), 72), (72, .inl .iadd, 73), (73, .inl .iaload, 74), (74, .inl (.iconst 1), 75), (75, .inl (.if_icmp .ne 7), 78)]),
  (83, [(78, .inl (.iconst 1), 79), (79, .inl (.goto 4), 82), (82, .inl (.iconst 0), 83), (83, .inl .ireturn, 84)])]
noncomputable def zc_Prog_copyFrom : zm_C := [(12, [(0, .inl (.aload_n 1), 1), (1, .inr (0, 9, 4, 0), 4), (4, .inl (.iconst 0), 5), (5, .inl (.aload_n 0), 6), (6, .inr (0, 9, 4, 0), 9), (9, .inl (.iconst 0), 10), (10, .inl (.bipush 12), 12), (12, .inr (11, 37, 0, 0), 15)]),
  (27, [(15, .inl (.aload_n 1), 16), (16, .inr (0, 15, 4, 1), 19), (19, .inl (.iconst 0), 20), (20, .inl (.aload_n 0), 21), (21, .inr (0, 15, 4, 1), 24), (24, .inl (.iconst 0), 25), (25, .inl (.bipush 12), 27), (27, .inr (11, 37, 0, 0), 30)]),
  (42, [(30, .inl (.aload_n 1), 31), (31, .inr (0, 18, 4, 2), 34), (34, .inl (.iconst 0), 35), (35, .inl (.aload_n 0), 36), (36, .inr (0, 18, 4, 2), 39), (39, .inl (.iconst 0), 40), (40, .inl (.bipush 12), 42), (42, .inr (11, 37, 0, 0), 45)]),
  (57, [(45, .inl (.aload_n 1), 46), (46, .inr (0, 21, 4, 3), 49), (49, .inl (.iconst 0), 50), (50, .inl (.aload_n 0), 51), (51, .inr (0, 21, 4, 3), 54), (54, .inl (.iconst 0), 55), (55, .inl (.bipush 40), 57), (57, .inr (11, 37, 0, 0), 60)]),
  (72, [(60, .inl (.aload_n 1), 61), (61, .inr (0, 24, 4, 4), 64), (64, .inl (.iconst 0), 65), (65, .inl (.aload_n 0), 66), (66, .inr (0, 24, 4, 4), 69), (69, .inl (.iconst 0), 70), (70, .inl (.bipush 40), 72), (72, .inr (11, 37, 0, 0), 75)]),
  (87, [(75, .inl (.aload_n 1), 76), (76, .inr (0, 27, 4, 5), 79), (79, .inl (.iconst 0), 80), (80, .inl (.aload_n 0), 81), (81, .inr (0, 27, 4, 5), 84), (84, .inl (.iconst 0), 85), (85, .inl (.bipush 40), 87), (87, .inr (11, 37, 0, 0), 90)]),
  (90, [(90, .inl .return_, 91)])]
noncomputable def zc_RR_copyVersion : zm_C := [(5, [(0, .inl (.aload_n 0), 1), (1, .inr (0, 19, 6, 2), 4), (4, .inl (.aload_n 0), 5), (5, .inr (0, 16, 6, 1), 8)]),
  (15, [(8, .inr (5, 118, 128, 1), 11), (11, .inl (.aload_n 0), 12), (12, .inr (0, 19, 6, 2), 15), (15, .inr (5, 76, 97, 0), 18)]),
  (18, [(18, .inl .ireturn, 19)])]
noncomputable def zc_Mod_copyVersion : zm_C := [(5, [(0, .inl (.aload_n 0), 1), (1, .inl (.iconst 0), 2), (2, .inr (1, 65, 7, 9), 5), (5, .inl (.aload_n 0), 6)]),
  (13, [(6, .inr (0, 7, 7, 0), 9), (9, .inl (.aload_n 0), 10), (10, .inr (0, 13, 7, 1), 13), (13, .inr (3, 157, 101, 2), 16)]),
  (21, [(16, .inl (.aload_n 0), 17), (17, .inr (0, 13, 7, 1), 20), (20, .inl (.iconst 0), 21), (21, .inl (.bipush 12), 23)]),
  (26, [(23, .inr (3, 120, 47, 3), 26), (26, .inl .ireturn, 27)])]
noncomputable def zc_Prog_memberCount : zm_C := [(4, [(0, .inl (.iconst 0), 1), (1, .inl (.istore_n 1), 2), (2, .inl (.iconst 0), 3), (3, .inl (.istore_n 2), 4), (4, .inl (.iload_n 2), 5)]),
  (12, [(5, .inl (.bipush 40), 7), (7, .inl (.if_icmp .ge 26), 10), (10, .inl (.iload_n 1), 11), (11, .inl (.aload_n 0), 12), (12, .inr (0, 21, 4, 3), 15)]),
  (21, [(15, .inl (.iload_n 2), 16), (16, .inl .iaload, 17), (17, .inl (.ifCond .ne 7), 20), (20, .inl (.iconst 0), 21), (21, .inl (.goto 4), 24)]),
  (30, [(24, .inl (.iconst 1), 25), (25, .inl .iadd, 26), (26, .inl (.istore_n 1), 27), (27, .inl (.iinc 2 1), 30), (30, .inl (.goto (-26)), 33)]),
  (34, [(33, .inl (.iload_n 1), 34), (34, .inl .ireturn, 35)])]
noncomputable def zc_Prog_hasClassesIn : zm_C := [(8, [(0, .inl (.iconst 0), 1), (1, .inl (.istore_n 2), 2), (2, .inl (.iload_n 2), 3), (3, .inl (.bipush 12), 5), (5, .inl (.if_icmp .ge 48), 8), (8, .inl (.aload_n 0), 9)]),
  (18, [(9, .inr (0, 9, 4, 0), 12), (12, .inl (.iload_n 2), 13), (13, .inl .iaload, 14), (14, .inl (.ifCond .eq 33), 17), (17, .inl (.aload_n 1), 18), (18, .inl (.aload_n 0), 19)]),
  (28, [(19, .inr (0, 9, 4, 0), 22), (22, .inl (.iload_n 2), 23), (23, .inl .iaload, 24), (24, .inr (5, 107, 15, 1), 27), (27, .inl (.istore_n 3), 28), (28, .inl (.iload_n 3), 29)]),
  (38, [(29, .inl (.ifCond .lt 16), 32), (32, .inl (.aload_n 0), 33), (33, .inl (.iload_n 2), 34), (34, .inr (5, 168, 111, 1), 37), (37, .inl (.aload_n 1), 38), (38, .inl (.iload_n 3), 39)]),
  (50, [(39, .inr (5, 168, 111, 1), 42), (42, .inl (.if_icmp .eq 5), 45), (45, .inl (.iconst 0), 46), (46, .inl .ireturn, 47), (47, .inl (.iinc 2 1), 50), (50, .inl (.goto (-48)), 53)]),
  (54, [(53, .inl (.iconst 1), 54), (54, .inl .ireturn, 55)])]
noncomputable def zc_Prog_ownerNameOf : zm_C := [(7, [(0, .inl (.iload_n 1), 1), (1, .inl (.ifCond .lt 9), 4), (4, .inl (.iload_n 1), 5), (5, .inl (.bipush 40), 7), (7, .inl (.if_icmp .lt 7), 10)]),
  (18, [(10, .inl (.iconst (-1)), 11), (11, .inl (.goto 9), 14), (14, .inl (.aload_n 0), 15), (15, .inr (0, 24, 4, 4), 18), (18, .inl (.iload_n 1), 19)]),
  (25, [(19, .inl .iaload, 20), (20, .inl (.istore_n 2), 21), (21, .inl (.iload_n 2), 22), (22, .inl (.ifCond .lt 9), 25), (25, .inl (.iload_n 2), 26)]),
  (35, [(26, .inl (.bipush 12), 28), (28, .inl (.if_icmp .lt 7), 31), (31, .inl (.iconst 0), 32), (32, .inl (.goto 9), 35), (35, .inl (.aload_n 0), 36)]),
  (41, [(36, .inr (0, 9, 4, 0), 39), (39, .inl (.iload_n 2), 40), (40, .inl .iaload, 41), (41, .inl .ireturn, 42)])]
noncomputable def zc_Prog_twinOf : zm_C := [(6, [(0, .inl (.aload_n 2), 1), (1, .inl (.aload_n 0), 2), (2, .inl (.iload_n 1), 3), (3, .inr (5, 175, 133, 1), 6), (6, .inr (5, 107, 15, 1), 9)]),
  (15, [(9, .inl (.istore_n 3), 10), (10, .inl (.iload_n 3), 11), (11, .inl (.ifCond .ge 7), 14), (14, .inl (.iconst (-1)), 15), (15, .inl (.goto 14), 18)]),
  (24, [(18, .inl (.aload_n 2), 19), (19, .inl (.iload_n 3), 20), (20, .inl (.aload_n 0), 21), (21, .inr (0, 21, 4, 3), 24), (24, .inl (.iload_n 1), 25)]),
  (29, [(25, .inl .iaload, 26), (26, .inr (5, 143, 27, 2), 29), (29, .inl .ireturn, 30)])]
noncomputable def zc_Prog_hasMembersIn : zm_C := [(5, [(0, .inl (.iconst 0), 1), (1, .inl (.istore_n 2), 2), (2, .inl (.iload_n 2), 3), (3, .inl (.bipush 40), 5), (5, .inl (.if_icmp .ge 29), 8)]),
  (14, [(8, .inl (.aload_n 0), 9), (9, .inr (0, 21, 4, 3), 12), (12, .inl (.iload_n 2), 13), (13, .inl .iaload, 14), (14, .inl (.ifCond .eq 14), 17)]),
  (23, [(17, .inl (.aload_n 0), 18), (18, .inl (.iload_n 2), 19), (19, .inl (.aload_n 1), 20), (20, .inr (5, 171, 134, 2), 23), (23, .inl (.ifCond .ge 5), 26)]),
  (34, [(26, .inl (.iconst 0), 27), (27, .inl .ireturn, 28), (28, .inl (.iinc 2 1), 31), (31, .inl (.goto (-29)), 34), (34, .inl (.iconst 1), 35)]),
  (35, [(35, .inl .ireturn, 36)])]
noncomputable def zc_Prog_hasUsesIn : zm_C := [(9, [(0, .inl (.iconst 0), 1), (1, .inl (.istore_n 2), 2), (2, .inl (.iload_n 2), 3), (3, .inl (.bipush 40), 5), (5, .inl (.if_icmp .ge 64), 8), (8, .inl (.iconst 0), 9), (9, .inl (.istore_n 3), 10)]),
  (21, [(10, .inl (.iload_n 3), 11), (11, .inl (.bipush 40), 13), (13, .inl (.if_icmp .ge 50), 16), (16, .inl (.aload_n 0), 17), (17, .inr (0, 27, 4, 5), 20), (20, .inl (.iload_n 2), 21), (21, .inl .laload, 22)]),
  (30, [(22, .inl (.lconst 0), 23), (23, .inl .lcmp, 24), (24, .inl (.ifCond .eq 39), 27), (27, .inl (.aload_n 0), 28), (28, .inl (.iload_n 2), 29), (29, .inl (.iload_n 3), 30), (30, .inr (5, 130, 29, 2), 33)]),
  (43, [(33, .inl (.ifCond .eq 24), 36), (36, .inl (.aload_n 1), 37), (37, .inl (.aload_n 0), 38), (38, .inl (.iload_n 2), 39), (39, .inl (.aload_n 1), 40), (40, .inr (5, 171, 134, 2), 43), (43, .inl (.aload_n 0), 44)]),
  (56, [(44, .inl (.iload_n 3), 45), (45, .inl (.aload_n 1), 46), (46, .inr (5, 171, 134, 2), 49), (49, .inr (5, 130, 29, 2), 52), (52, .inl (.ifCond .ne 5), 55), (55, .inl (.iconst 0), 56), (56, .inl .ireturn, 57)]),
  (70, [(57, .inl (.iinc 3 1), 60), (60, .inl (.goto (-50)), 63), (63, .inl (.iinc 2 1), 66), (66, .inl (.goto (-64)), 69), (69, .inl (.iconst 1), 70), (70, .inl .ireturn, 71)])]
noncomputable def zc_Prog_isSameAs : zm_C := [(11, [(0, .inl (.aload_n 0), 1), (1, .inr (5, 152, 97, 0), 4), (4, .inl (.aload_n 1), 5), (5, .inr (5, 152, 97, 0), 8), (8, .inl (.if_icmp .ne 53), 11), (11, .inl (.aload_n 0), 12)]),
  (23, [(12, .inr (5, 155, 131, 0), 15), (15, .inl (.aload_n 1), 16), (16, .inr (5, 155, 131, 0), 19), (19, .inl (.if_icmp .ne 42), 22), (22, .inl (.aload_n 0), 23), (23, .inr (5, 137, 35, 0), 26)]),
  (35, [(26, .inl (.aload_n 1), 27), (27, .inr (5, 137, 35, 0), 30), (30, .inl (.if_icmp .ne 31), 33), (33, .inl (.aload_n 0), 34), (34, .inl (.aload_n 1), 35), (35, .inr (5, 158, 132, 1), 38)]),
  (49, [(38, .inl (.ifCond .eq 23), 41), (41, .inl (.aload_n 0), 42), (42, .inl (.aload_n 1), 43), (43, .inr (5, 162, 135, 1), 46), (46, .inl (.ifCond .eq 15), 49), (49, .inl (.aload_n 0), 50)]),
  (61, [(50, .inl (.aload_n 1), 51), (51, .inr (5, 165, 136, 1), 54), (54, .inl (.ifCond .eq 7), 57), (57, .inl (.iconst 1), 58), (58, .inl (.goto 4), 61), (61, .inl (.iconst 0), 62)]),
  (62, [(62, .inl .ireturn, 63)])]
noncomputable def zc_RR_areSame : zm_C := [(5, [(0, .inl (.aload_n 0), 1), (1, .inr (0, 16, 6, 1), 4), (4, .inl (.aload_n 0), 5), (5, .inr (0, 19, 6, 2), 8)]),
  (11, [(8, .inr (5, 122, 137, 1), 11), (11, .inl .ireturn, 12)])]
noncomputable def zc_Mod_twin : zm_C := [(3, [(0, .inl (.aload_n 2), 1), (1, .inl (.aload_n 0), 2), (2, .inl (.aload_n 0), 3), (3, .inl (.bipush 64), 5)]),
  (8, [(5, .inl (.iload_n 1), 6), (6, .inl .iadd, 7), (7, .inl .iaload, 8), (8, .inl .iaload, 9)]),
  (13, [(9, .inl (.aload_n 0), 10), (10, .inl (.bipush 24), 12), (12, .inl (.iload_n 1), 13), (13, .inl .iadd, 14)]),
  (18, [(14, .inl .iaload, 15), (15, .inr (3, 111, 61, 3), 18), (18, .inl .ireturn, 19)])]
noncomputable def zc_Mod_isPart : zm_C := [(14, [(0, .inl (.iconst 0), 1), (1, .inl (.istore_n 2), 2), (2, .inl (.iload_n 2), 3), (3, .inl (.bipush 12), 5), (5, .inl (.if_icmp .ge 52), 8), (8, .inl (.aload_n 0), 9), (9, .inl (.iload_n 2), 10), (10, .inl .iaload, 11), (11, .inl (.ifCond .ne 7), 14), (14, .inl (.iload_n 2), 15)]),
  (28, [(15, .inl (.goto 10), 18), (18, .inl (.aload_n 1), 19), (19, .inl (.aload_n 0), 20), (20, .inl (.iload_n 2), 21), (21, .inl .iaload, 22), (22, .inr (3, 68, 46, 2), 25), (25, .inl (.istore_n 3), 26), (26, .inl (.aload_n 0), 27), (27, .inl (.iload_n 2), 28), (28, .inl .iaload, 29)]),
  (46, [(29, .inl (.ifCond .eq 22), 32), (32, .inl (.iload_n 3), 33), (33, .inl (.ifCond .lt 16), 36), (36, .inl (.aload_n 0), 37), (37, .inl (.iload_n 2), 38), (38, .inr (3, 130, 115, 2), 41), (41, .inl (.aload_n 1), 42), (42, .inl (.iload_n 3), 43), (43, .inr (3, 130, 115, 2), 46), (46, .inl (.if_icmp .eq 5), 49)]),
  (65, [(49, .inl (.iconst 0), 50), (50, .inl .ireturn, 51), (51, .inl (.iinc 2 1), 54), (54, .inl (.goto (-52)), 57), (57, .inl (.iconst 0), 58), (58, .inl (.istore_n 2), 59), (59, .inl (.iload_n 2), 60), (60, .inl (.bipush 40), 62), (62, .inl (.if_icmp .ge 29), 65), (65, .inl (.aload_n 0), 66)]),
  (80, [(66, .inl (.bipush 24), 68), (68, .inl (.iload_n 2), 69), (69, .inl .iadd, 70), (70, .inl .iaload, 71), (71, .inl (.ifCond .eq 14), 74), (74, .inl (.aload_n 0), 75), (75, .inl (.iload_n 2), 76), (76, .inl (.aload_n 1), 77), (77, .inr (3, 133, 139, 3), 80), (80, .inl (.ifCond .ge 5), 83)]),
  (100, [(83, .inl (.iconst 0), 84), (84, .inl .ireturn, 85), (85, .inl (.iinc 2 1), 88), (88, .inl (.goto (-29)), 91), (91, .inl (.iconst 0), 92), (92, .inl (.istore_n 2), 93), (93, .inl (.iload_n 2), 94), (94, .inl (.sipush 1600), 97), (97, .inl (.if_icmp .ge 51), 100), (100, .inl (.aload_n 0), 101)]),
  (115, [(101, .inl (.bipush 104), 103), (103, .inl (.iload_n 2), 104), (104, .inl .iadd, 105), (105, .inl .iaload, 106), (106, .inl (.iconst 1), 107), (107, .inl (.if_icmp .ne 35), 110), (110, .inl (.aload_n 1), 111), (111, .inl (.bipush 104), 113), (113, .inl (.bipush 40), 115), (115, .inl (.aload_n 0), 116)]),
  (128, [(116, .inl (.iload_n 2), 117), (117, .inl (.bipush 40), 119), (119, .inl .idiv, 120), (120, .inl (.aload_n 1), 121), (121, .inr (3, 133, 139, 3), 124), (124, .inl .imul, 125), (125, .inl .iadd, 126), (126, .inl (.aload_n 0), 127), (127, .inl (.iload_n 2), 128), (128, .inl (.bipush 40), 130)]),
  (145, [(130, .inl .irem, 131), (131, .inl (.aload_n 1), 132), (132, .inr (3, 133, 139, 3), 135), (135, .inl .iadd, 136), (136, .inl .iaload, 137), (137, .inl (.ifCond .ne 5), 140), (140, .inl (.iconst 0), 141), (141, .inl .ireturn, 142), (142, .inl (.iinc 2 1), 145), (145, .inl (.goto (-52)), 148)]),
  (149, [(148, .inl (.iconst 1), 149), (149, .inl .ireturn, 150)])]
noncomputable def zc_Mod_areOne : zm_C := [(5, [(0, .inl (.aload_n 0), 1), (1, .inl (.aload_n 1), 2), (2, .inr (3, 137, 140, 2), 5), (5, .inl (.ifCond .eq 15), 8)]),
  (13, [(8, .inl (.aload_n 1), 9), (9, .inl (.aload_n 0), 10), (10, .inr (3, 137, 140, 2), 13), (13, .inl (.ifCond .eq 7), 16)]),
  (21, [(16, .inl (.iconst 1), 17), (17, .inl (.goto 4), 20), (20, .inl (.iconst 0), 21), (21, .inl .ireturn, 22)])]
noncomputable def zc_Mod_areSame : zm_C := [(5, [(0, .inl (.aload_n 0), 1), (1, .inl (.iconst 0), 2), (2, .inr (1, 65, 7, 9), 5), (5, .inl (.aload_n 0), 6)]),
  (13, [(6, .inr (0, 7, 7, 0), 9), (9, .inl (.aload_n 0), 10), (10, .inr (0, 13, 7, 1), 13), (13, .inr (3, 173, 141, 2), 16)]),
  (16, [(16, .inl .ireturn, 17)])]
noncomputable def zc_RR_log : zm_C := [(7, [(0, .inl (.aload_n 0), 1), (1, .inr (0, 28, 6, 4), 4), (4, .inr (0, 126, 1, 1), 7), (7, .inl .ireturn, 8)])]
noncomputable def zc_Mod_log : zm_C := [(5, [(0, .inl (.aload_n 0), 1), (1, .inl (.iconst 0), 2), (2, .inr (1, 65, 7, 9), 5), (5, .inl (.aload_n 0), 6)]),
  (9, [(6, .inr (0, 191, 7, 8), 9), (9, .inl .ireturn, 10)])]
noncomputable def zc_RR_requireChange : zm_C := [(5, [(0, .inl (.iload_n 1), 1), (1, .inl (.ifCond .lt 14), 4), (4, .inl (.iload_n 1), 5), (5, .inl (.aload_n 0), 6)]),
  (15, [(6, .inr (0, 28, 6, 4), 9), (9, .inr (0, 126, 1, 1), 12), (12, .inl (.if_icmp .lt 13), 15), (15, .inr (12, 84, 0, 6), 25)]),
  (25, [(25, .inl .return_, 26)])]
noncomputable def zc_List_at : zm_C := [(5, [(0, .inl (.aload_n 0), 1), (1, .inr (0, 11, 1, 0), 4), (4, .inl (.iconst 0), 5), (5, .inl (.iload_n 1), 6)]),
  (14, [(6, .inl (.bipush 29), 8), (8, .inr (16, 22, 1, 0), 11), (11, .inr (16, 28, 0, 0), 14), (14, .inl .aaload, 15)]),
  (15, [(15, .inl .areturn, 16)])]
noncomputable def zc_RR_kindOf : zm_C := [(5, [(0, .inl (.aload_n 0), 1), (1, .inl (.iload_n 1), 2), (2, .inr (5, 129, 145, 1), 5), (5, .inl (.aload_n 0), 6)]),
  (13, [(6, .inr (0, 28, 6, 4), 9), (9, .inl (.iload_n 1), 10), (10, .inr (5, 132, 146, 1), 13), (13, .inr (0, 136, 0, 0), 16)]),
  (16, [(16, .inl .ireturn, 17)])]
noncomputable def zc_Law_kindOf : zm_C := [(3, [(0, .inl (.aload_n 2), 1), (1, .inl (.iconst 0), 2), (2, .inl (.aload_n 0), 3), (3, .inl (.iload_n 1), 4)]),
  (9, [(4, .inr (5, 69, 147, 1), 7), (7, .inl .i2l, 8), (8, .inl .lastore, 9), (9, .inl (.goto 6), 12)]),
  (16, [(15, .inl (.iconst 0), 16), (16, .inl .ireturn, 17)])]
noncomputable def zc_Mod_kindOf : zm_C := [(6, [(0, .inl (.aload_n 0), 1), (1, .inl (.iconst 0), 2), (2, .inr (1, 65, 7, 9), 5), (5, .inl (.iload_n 1), 6), (6, .inl (.iconst 0), 7)]),
  (13, [(7, .inl (.aload_n 0), 8), (8, .inr (0, 191, 7, 8), 11), (11, .inl (.iconst 1), 12), (12, .inl .isub, 13), (13, .inr (3, 187, 44, 3), 16)]),
  (24, [(16, .inl (.ifCond .eq 14), 19), (19, .inl (.aload_n 0), 20), (20, .inr (0, 28, 7, 6), 23), (23, .inl (.iconst 5), 24), (24, .inl (.iload_n 1), 25)]),
  (31, [(25, .inl .imul, 26), (26, .inl .iaload, 27), (27, .inl (.goto 8), 30), (30, .inl (.aload_n 0), 31), (31, .inl (.iconst 1), 32)]),
  (35, [(32, .inr (5, 218, 108, 1), 35), (35, .inl .ireturn, 36)])]
noncomputable def zc_RR_nameOf : zm_C := [(6, [(0, .inl (.aload_n 0), 1), (1, .inl (.iload_n 1), 2), (2, .inr (5, 129, 145, 1), 5), (5, .inl (.aload_n 0), 6), (6, .inr (0, 28, 6, 4), 9)]),
  (15, [(9, .inl (.iload_n 1), 10), (10, .inr (5, 132, 146, 1), 13), (13, .inl (.astore_n 3), 14), (14, .inl (.iload_n 2), 15), (15, .inl (.tableswitch 49 0 3 #[29, 34, 39, 44]), 44)]),
  (50, [(44, .inl (.aload_n 3), 45), (45, .inr (0, 139, 0, 1), 48), (48, .inl .ireturn, 49), (49, .inl (.aload_n 3), 50), (50, .inr (0, 142, 0, 2), 53)]),
  (59, [(53, .inl .ireturn, 54), (54, .inl (.aload_n 3), 55), (55, .inr (0, 145, 0, 3), 58), (58, .inl .ireturn, 59), (59, .inl (.aload_n 3), 60)]),
  (64, [(60, .inr (0, 148, 0, 4), 63), (63, .inl .ireturn, 64), (64, .inr (12, 84, 0, 7), 74)])]
noncomputable def zc_Law_nameOf : zm_C := [(3, [(0, .inl (.aload_n 3), 1), (1, .inl (.iconst 0), 2), (2, .inl (.aload_n 0), 3), (3, .inl (.iload_n 1), 4)]),
  (9, [(4, .inl (.iload_n 2), 5), (5, .inr (5, 72, 150, 2), 8), (8, .inl .i2l, 9), (9, .inl .lastore, 10)]),
  (18, [(10, .inl (.goto 7), 13), (17, .inl (.iconst 0), 18), (18, .inl .ireturn, 19)])]
noncomputable def zc_Mod_nameOf : zm_C := [(7, [(0, .inl (.aload_n 0), 1), (1, .inl (.iconst 0), 2), (2, .inr (1, 65, 7, 9), 5), (5, .inl (.iload_n 1), 6), (6, .inl (.iconst 0), 7), (7, .inl (.aload_n 0), 8)]),
  (19, [(8, .inr (0, 191, 7, 8), 11), (11, .inl (.iconst 1), 12), (12, .inl .isub, 13), (13, .inr (3, 187, 44, 3), 16), (16, .inl (.ifCond .eq 27), 19), (19, .inl (.iload_n 2), 20)]),
  (29, [(20, .inl (.iconst 0), 21), (21, .inl (.iconst 3), 22), (22, .inr (3, 187, 44, 3), 25), (25, .inl (.ifCond .eq 18), 28), (28, .inl (.aload_n 0), 29), (29, .inr (0, 28, 7, 6), 32)]),
  (37, [(32, .inl (.iconst 5), 33), (33, .inl (.iload_n 1), 34), (34, .inl .imul, 35), (35, .inl (.iconst 1), 36), (36, .inl .iadd, 37), (37, .inl (.iload_n 2), 38)]),
  (45, [(38, .inl .iadd, 39), (39, .inl .iaload, 40), (40, .inl (.goto 8), 43), (43, .inl (.aload_n 0), 44), (44, .inl (.iconst 1), 45), (45, .inr (5, 218, 108, 1), 48)]),
  (48, [(48, .inl .ireturn, 49)])]
noncomputable def zc_RR_clearLog : zm_C := [(7, [(0, .inl (.aload_n 0), 1), (1, .inr (0, 28, 6, 4), 4), (4, .inr (0, 126, 1, 1), 7), (7, .inl (.istore_n 1), 8)]),
  (13, [(8, .inl (.aload_n 0), 9), (9, .inr (0, 28, 6, 4), 12), (12, .inl (.iconst 0), 13), (13, .inr (1, 126, 1, 1), 16)]),
  (21, [(16, .inl (.aload_n 0), 17), (17, .inr (0, 10, 6, 0), 20), (20, .inl (.aload_n 0), 21), (21, .inr (0, 16, 6, 1), 24)]),
  (28, [(24, .inr (5, 118, 128, 1), 27), (27, .inl (.iload_n 1), 28), (28, .inl .ireturn, 29)])]
noncomputable def zc_Mod_clearLog : zm_C := [(6, [(0, .inl (.aload_n 0), 1), (1, .inl (.iconst 0), 2), (2, .inr (1, 65, 7, 9), 5), (5, .inl (.aload_n 0), 6), (6, .inr (0, 191, 7, 8), 9)]),
  (15, [(9, .inl (.istore_n 1), 10), (10, .inl (.aload_n 0), 11), (11, .inl (.iconst 0), 12), (12, .inr (1, 191, 7, 8), 15), (15, .inl (.aload_n 0), 16)]),
  (26, [(16, .inr (0, 7, 7, 0), 19), (19, .inl (.aload_n 0), 20), (20, .inr (0, 16, 7, 2), 23), (23, .inr (3, 157, 101, 2), 26), (26, .inl (.iload_n 1), 27)]),
  (27, [(27, .inl .ireturn, 28)])]
noncomputable def zc_Prog_makeFirst : zm_C := [(4, [(0, .inl (.iconst 0), 1), (1, .inl (.istore_n 3), 2), (2, .inl (.iload_n 3), 3), (3, .inl (.iload_n 2), 4), (4, .inl (.if_icmp .ge 25), 7)]),
  (14, [(7, .inl (.iload_n 3), 8), (8, .inl (.bipush 30), 10), (10, .inl (.if_icmp .ge 19), 13), (13, .inl (.aload_n 0), 14), (14, .inl (.aload_n 1), 15)]),
  (23, [(15, .inl (.iload_n 3), 16), (16, .inr (5, 97, 146, 1), 19), (19, .inr (5, 103, 38, 1), 22), (22, .inl .pop, 23), (23, .inl (.iinc 3 1), 26)]),
  (29, [(26, .inl (.goto (-24)), 29), (29, .inl .return_, 30)])]
noncomputable def zc_RR_undo : zm_C := [(20, [(0, .inl (.aload_n 0), 1), (1, .inr (0, 28, 6, 4), 4), (4, .inr (0, 126, 1, 1), 7), (7, .inl (.ifCond .ne 13), 10), (10, .inr (12, 153, 2, 8), 20), (20, .inl (.aload_n 0), 21)]),
  (30, [(21, .inr (0, 28, 6, 4), 24), (24, .inl .dup, 25), (25, .inr (0, 126, 1, 1), 28), (28, .inl (.iconst 1), 29), (29, .inl .isub, 30), (30, .inr (1, 126, 1, 1), 33)]),
  (44, [(33, .inl (.aload_n 0), 34), (34, .inr (0, 16, 6, 1), 37), (37, .inl (.aload_n 0), 38), (38, .inr (0, 10, 6, 0), 41), (41, .inr (5, 118, 128, 1), 44), (44, .inl (.aload_n 0), 45)]),
  (56, [(45, .inr (0, 16, 6, 1), 48), (48, .inl (.aload_n 0), 49), (49, .inr (0, 28, 6, 4), 52), (52, .inl (.aload_n 0), 53), (53, .inr (0, 28, 6, 4), 56), (56, .inr (0, 126, 1, 1), 59)]),
  (69, [(59, .inr (5, 158, 155, 2), 62), (62, .inl (.aload_n 0), 63), (63, .inr (0, 28, 6, 4), 66), (66, .inr (0, 126, 1, 1), 69), (69, .inl .ireturn, 70)])]
noncomputable def zc_Law_undo : zm_C := [(3, [(0, .inl (.aload_n 1), 1), (1, .inl (.iconst 0), 2), (2, .inl (.aload_n 0), 3), (3, .inr (5, 75, 156, 0), 6)]),
  (14, [(6, .inl .i2l, 7), (7, .inl .lastore, 8), (8, .inl (.goto 6), 11), (14, .inl (.iconst 0), 15)]),
  (15, [(15, .inl .ireturn, 16)])]
noncomputable def zc_Mod_makesOf : zm_C := [(6, [(0, .inl (.iconst 5), 1), (1, .inl (.iload_n 3), 2), (2, .inl .imul, 3), (3, .inl (.istore 4), 5), (5, .inl (.aload_n 0), 6), (6, .inl (.aload_n 1), 7)]),
  (14, [(7, .inl (.aload_n 2), 8), (8, .inl (.iload 4), 10), (10, .inl .iaload, 11), (11, .inl (.aload_n 2), 12), (12, .inl (.iload 4), 14), (14, .inl (.iconst 1), 15)]),
  (21, [(15, .inl .iadd, 16), (16, .inl .iaload, 17), (17, .inl (.aload_n 2), 18), (18, .inl (.iload 4), 20), (20, .inl (.iconst 2), 21), (21, .inl .iadd, 22)]),
  (28, [(22, .inl .iaload, 23), (23, .inl (.aload_n 2), 24), (24, .inl (.iload 4), 26), (26, .inl (.iconst 3), 27), (27, .inl .iadd, 28), (28, .inl .iaload, 29)]),
  (35, [(29, .inl (.aload_n 2), 30), (30, .inl (.iload 4), 32), (32, .inl (.iconst 4), 33), (33, .inl .iadd, 34), (34, .inl .iaload, 35), (35, .inr (5, 153, 64, 6), 38)]),
  (38, [(38, .inl .ireturn, 39)])]
noncomputable def zc_Mod_goesTo : zm_C := [(8, [(0, .inl (.aload_n 0), 1), (1, .inr (0, 16, 7, 2), 4), (4, .inl (.aload_n 1), 5), (5, .inr (3, 157, 101, 2), 8), (8, .inl (.iconst 0), 9)]),
  (17, [(9, .inl (.istore 4), 11), (11, .inl (.iload 4), 13), (13, .inl (.iload_n 3), 14), (14, .inl (.if_icmp .ge 19), 17), (17, .inl (.aload_n 0), 18)]),
  (25, [(18, .inl (.aload_n 1), 19), (19, .inl (.aload_n 2), 20), (20, .inl (.iload 4), 22), (22, .inr (5, 161, 158, 3), 25), (25, .inl (.istore 5), 27)]),
  (33, [(27, .inl (.iinc 4 1), 30), (30, .inl (.goto (-19)), 33), (33, .inl .return_, 34)])]
noncomputable def zc_Mod_undo : zm_C := [(9, [(0, .inl (.aload_n 0), 1), (1, .inl (.iconst 0), 2), (2, .inr (1, 65, 7, 9), 5), (5, .inl (.aload_n 0), 6), (6, .inr (0, 191, 7, 8), 9), (9, .inl (.ifCond .ne 9), 12)]),
  (19, [(12, .inl (.aload_n 0), 13), (13, .inl (.iconst 1), 14), (14, .inr (5, 218, 108, 1), 17), (17, .inl .ireturn, 18), (18, .inl (.aload_n 0), 19), (19, .inl .dup, 20)]),
  (29, [(20, .inr (0, 191, 7, 8), 23), (23, .inl (.iconst 1), 24), (24, .inl .isub, 25), (25, .inr (1, 191, 7, 8), 28), (28, .inl (.aload_n 0), 29), (29, .inl (.aload_n 0), 30)]),
  (41, [(30, .inr (0, 7, 7, 0), 33), (33, .inl (.aload_n 0), 34), (34, .inr (0, 28, 7, 6), 37), (37, .inl (.aload_n 0), 38), (38, .inr (0, 191, 7, 8), 41), (41, .inr (5, 165, 159, 3), 44)]),
  (48, [(44, .inl (.aload_n 0), 45), (45, .inr (0, 191, 7, 8), 48), (48, .inl .ireturn, 49)])]
noncomputable def zc_RR_requireNeighbours : zm_C := [(5, [(0, .inl (.iload_n 1), 1), (1, .inl (.ifCond .lt 16), 4), (4, .inl (.iload_n 1), 5), (5, .inl (.aload_n 0), 6)]),
  (13, [(6, .inr (0, 28, 6, 4), 9), (9, .inr (0, 126, 1, 1), 12), (12, .inl (.iconst 1), 13), (13, .inl .isub, 14)]),
  (28, [(14, .inl (.if_icmp .lt 14), 17), (17, .inr (12, 84, 0, 9), 28), (28, .inl .return_, 29)])]
noncomputable def zc_Change_replaceClass : zm_C := [(8, [(0, .inl (.aload_n 0), 1), (1, .inr (0, 9, 0, 0), 4), (4, .inl (.ifCond .eq 16), 7), (7, .inl (.aload_n 0), 8), (8, .inr (0, 15, 0, 1), 11)]),
  (17, [(11, .inl (.iload_n 1), 12), (12, .inl (.if_icmp .ne 8), 15), (15, .inl (.aload_n 0), 16), (16, .inl (.iload_n 2), 17), (17, .inr (1, 15, 0, 1), 20)]),
  (28, [(20, .inl (.aload_n 0), 21), (21, .inr (0, 9, 0, 0), 24), (24, .inl (.iconst 2), 25), (25, .inl (.if_icmp .eq 16), 28), (28, .inl (.aload_n 0), 29)]),
  (37, [(29, .inr (0, 21, 0, 3), 32), (32, .inl (.iload_n 1), 33), (33, .inl (.if_icmp .ne 8), 36), (36, .inl (.aload_n 0), 37), (37, .inl (.iload_n 2), 38)]),
  (41, [(38, .inr (1, 21, 0, 3), 41), (41, .inl .return_, 42)])]
noncomputable def zc_Change_replaceMember : zm_C := [(12, [(0, .inl (.aload_n 0), 1), (1, .inr (0, 9, 0, 0), 4), (4, .inl (.iconst 4), 5), (5, .inl (.if_icmp .eq 30), 8), (8, .inl (.aload_n 0), 9), (9, .inr (0, 15, 0, 1), 12), (12, .inl (.iload_n 1), 13)]),
  (25, [(13, .inl (.if_icmp .ne 22), 16), (16, .inl (.aload_n 0), 17), (17, .inr (0, 18, 0, 2), 20), (20, .inl (.iload_n 2), 21), (21, .inl (.if_icmp .ne 14), 24), (24, .inl (.aload_n 0), 25), (25, .inl (.iload_n 3), 26)]),
  (39, [(26, .inr (1, 15, 0, 1), 29), (29, .inl (.aload_n 0), 30), (30, .inl (.iload 4), 32), (32, .inr (1, 18, 0, 2), 35), (35, .inl (.aload_n 0), 36), (36, .inr (5, 38, 13, 0), 39), (39, .inl (.ifCond .eq 30), 42)]),
  (54, [(42, .inl (.aload_n 0), 43), (43, .inr (0, 21, 0, 3), 46), (46, .inl (.iload_n 1), 47), (47, .inl (.if_icmp .ne 22), 50), (50, .inl (.aload_n 0), 51), (51, .inr (0, 24, 0, 4), 54), (54, .inl (.iload_n 2), 55)]),
  (66, [(55, .inl (.if_icmp .ne 14), 58), (58, .inl (.aload_n 0), 59), (59, .inl (.iload_n 3), 60), (60, .inr (1, 21, 0, 3), 63), (63, .inl (.aload_n 0), 64), (64, .inl (.iload 4), 66), (66, .inr (1, 24, 0, 4), 69)]),
  (69, [(69, .inl .return_, 70)])]
noncomputable def zc_Change_carryBack : zm_C := [(10, [(0, .inl (.aload_n 1), 1), (1, .inr (0, 9, 0, 0), 4), (4, .inl (.iconst 2), 5), (5, .inl (.if_icmp .ne 18), 8), (8, .inl (.aload_n 0), 9), (9, .inl (.aload_n 1), 10), (10, .inr (0, 21, 0, 3), 13)]),
  (27, [(13, .inl (.aload_n 1), 14), (14, .inr (0, 15, 0, 1), 17), (17, .inr (5, 42, 162, 2), 20), (20, .inl (.goto 64), 23), (23, .inl (.aload_n 1), 24), (24, .inr (0, 9, 0, 0), 27), (27, .inl (.bipush 6), 29)]),
  (41, [(29, .inl (.if_icmp .ne 26), 32), (32, .inl (.aload_n 0), 33), (33, .inl (.aload_n 1), 34), (34, .inr (0, 15, 0, 1), 37), (37, .inl (.aload_n 1), 38), (38, .inr (0, 24, 0, 4), 41), (41, .inl (.aload_n 1), 42)]),
  (56, [(42, .inr (0, 15, 0, 1), 45), (45, .inl (.aload_n 1), 46), (46, .inr (0, 18, 0, 2), 49), (49, .inr (5, 46, 163, 4), 52), (52, .inl (.goto 32), 55), (55, .inl (.aload_n 1), 56), (56, .inr (0, 9, 0, 0), 59)]),
  (70, [(59, .inl (.bipush 7), 61), (61, .inl (.if_icmp .ne 23), 64), (64, .inl (.aload_n 0), 65), (65, .inl (.aload_n 1), 66), (66, .inr (0, 21, 0, 3), 69), (69, .inl (.aload_n 1), 70), (70, .inr (0, 18, 0, 2), 73)]),
  (84, [(73, .inl (.aload_n 1), 74), (74, .inr (0, 15, 0, 1), 77), (77, .inl (.aload_n 1), 78), (78, .inr (0, 18, 0, 2), 81), (81, .inr (5, 46, 163, 4), 84), (84, .inl .return_, 85)])]
noncomputable def zc_Change_carryForward : zm_C := [(10, [(0, .inl (.aload_n 1), 1), (1, .inr (0, 9, 0, 0), 4), (4, .inl (.iconst 2), 5), (5, .inl (.if_icmp .ne 18), 8), (8, .inl (.aload_n 0), 9), (9, .inl (.aload_n 1), 10), (10, .inr (0, 15, 0, 1), 13)]),
  (27, [(13, .inl (.aload_n 1), 14), (14, .inr (0, 21, 0, 3), 17), (17, .inr (5, 42, 162, 2), 20), (20, .inl (.goto 64), 23), (23, .inl (.aload_n 1), 24), (24, .inr (0, 9, 0, 0), 27), (27, .inl (.bipush 6), 29)]),
  (41, [(29, .inl (.if_icmp .ne 26), 32), (32, .inl (.aload_n 0), 33), (33, .inl (.aload_n 1), 34), (34, .inr (0, 15, 0, 1), 37), (37, .inl (.aload_n 1), 38), (38, .inr (0, 18, 0, 2), 41), (41, .inl (.aload_n 1), 42)]),
  (56, [(42, .inr (0, 15, 0, 1), 45), (45, .inl (.aload_n 1), 46), (46, .inr (0, 24, 0, 4), 49), (49, .inr (5, 46, 163, 4), 52), (52, .inl (.goto 32), 55), (55, .inl (.aload_n 1), 56), (56, .inr (0, 9, 0, 0), 59)]),
  (70, [(59, .inl (.bipush 7), 61), (61, .inl (.if_icmp .ne 23), 64), (64, .inl (.aload_n 0), 65), (65, .inl (.aload_n 1), 66), (66, .inr (0, 15, 0, 1), 69), (69, .inl (.aload_n 1), 70), (70, .inr (0, 18, 0, 2), 73)]),
  (84, [(73, .inl (.aload_n 1), 74), (74, .inr (0, 21, 0, 3), 77), (77, .inl (.aload_n 1), 78), (78, .inr (0, 18, 0, 2), 81), (81, .inr (5, 46, 163, 4), 84), (84, .inl .return_, 85)])]
noncomputable def zc_Comm_test : zm_C := [(10, [(0, .inl (.aload_n 1), 1), (1, .inl (.iload_n 2), 2), (2, .inr (5, 56, 146, 1), 5), (5, .inl (.astore_n 3), 6), (6, .inl (.aload_n 1), 7), (7, .inl (.iload_n 2), 8), (8, .inl (.iconst 1), 9), (9, .inl .iadd, 10), (10, .inr (5, 56, 146, 1), 13)]),
  (29, [(13, .inl (.astore 4), 15), (15, .inl (.aload_n 0), 16), (16, .inr (0, 27, 2, 3), 19), (19, .inl (.aload 4), 21), (21, .inr (5, 60, 39, 1), 24), (24, .inl (.aload_n 0), 25), (25, .inr (0, 27, 2, 3), 28), (28, .inl (.aload_n 3), 29), (29, .inr (5, 63, 164, 1), 32)]),
  (48, [(32, .inl (.aload_n 0), 33), (33, .inr (0, 31, 2, 4), 36), (36, .inl (.aload_n 3), 37), (37, .inr (5, 60, 39, 1), 40), (40, .inl (.aload_n 0), 41), (41, .inr (0, 31, 2, 4), 44), (44, .inl (.aload_n 0), 45), (45, .inr (0, 27, 2, 3), 48), (48, .inr (5, 66, 165, 1), 51)]),
  (67, [(51, .inl (.aload_n 0), 52), (52, .inr (0, 21, 2, 2), 55), (55, .inl (.aload_n 0), 56), (56, .inr (0, 12, 2, 0), 59), (59, .inr (5, 44, 128, 1), 62), (62, .inl (.aload_n 0), 63), (63, .inr (0, 21, 2, 2), 66), (66, .inl (.aload_n 0), 67), (67, .inr (0, 27, 2, 3), 70)]),
  (90, [(70, .inr (5, 69, 38, 1), 73), (73, .inl (.ifCond .ne 17), 76), (76, .inl (.aload_n 0), 77), (77, .inr (0, 21, 2, 2), 80), (80, .inl (.aload_n 0), 81), (81, .inr (0, 31, 2, 4), 84), (84, .inr (5, 69, 38, 1), 87), (87, .inl (.ifCond .eq 5), 90), (90, .inl (.iconst 0), 91)]),
  (107, [(91, .inl .ireturn, 92), (92, .inl (.aload_n 0), 93), (93, .inr (0, 18, 2, 1), 96), (96, .inl (.aload_n 0), 97), (97, .inr (0, 12, 2, 0), 100), (100, .inr (5, 44, 128, 1), 103), (103, .inl (.aload_n 0), 104), (104, .inr (0, 18, 2, 1), 107), (107, .inl (.aload_n 3), 108)]),
  (123, [(108, .inr (5, 69, 38, 1), 111), (111, .inl .pop, 112), (112, .inl (.aload_n 0), 113), (113, .inr (0, 18, 2, 1), 116), (116, .inl (.aload 4), 118), (118, .inr (5, 69, 38, 1), 121), (121, .inl .pop, 122), (122, .inl (.aload_n 0), 123), (123, .inr (0, 21, 2, 2), 126)]),
  (133, [(126, .inl (.aload_n 0), 127), (127, .inr (0, 18, 2, 1), 130), (130, .inr (5, 73, 137, 1), 133), (133, .inl .ireturn, 134)])]
noncomputable def zc_Comm_testAt : zm_C := [(5, [(0, .inl (.aload_n 0), 1), (1, .inr (0, 12, 2, 0), 4), (4, .inl (.aload_n 1), 5), (5, .inr (5, 44, 128, 1), 8)]),
  (13, [(8, .inl (.aload_n 0), 9), (9, .inr (0, 12, 2, 0), 12), (12, .inl (.aload_n 2), 13), (13, .inl (.iload_n 3), 14)]),
  (19, [(14, .inr (5, 48, 155, 2), 17), (17, .inl (.aload_n 0), 18), (18, .inl (.aload_n 2), 19), (19, .inl (.iload_n 3), 20)]),
  (23, [(20, .inr (5, 52, 166, 2), 23), (23, .inl .ireturn, 24)])]
noncomputable def zc_RR_commutes : zm_C := [(5, [(0, .inl (.aload_n 0), 1), (1, .inl (.iload_n 1), 2), (2, .inr (5, 162, 161, 1), 5), (5, .inl (.aload_n 0), 6)]),
  (13, [(6, .inr (0, 42, 6, 6), 9), (9, .inl (.aload_n 0), 10), (10, .inr (0, 10, 6, 0), 13), (13, .inl (.aload_n 0), 14)]),
  (21, [(14, .inr (0, 28, 6, 4), 17), (17, .inl (.iload_n 1), 18), (18, .inr (5, 165, 167, 3), 21), (21, .inl .ireturn, 22)])]
noncomputable def zc_Law_commutes : zm_C := [(3, [(0, .inl (.aload_n 2), 1), (1, .inl (.iconst 0), 2), (2, .inl (.aload_n 0), 3), (3, .inl (.iload_n 1), 4)]),
  (11, [(4, .inr (5, 79, 168, 1), 7), (7, .inl (.ifCond .eq 7), 10), (10, .inl (.lconst 1), 11), (11, .inl (.goto 4), 14)]),
  (22, [(14, .inl (.lconst 0), 15), (15, .inl .lastore, 16), (16, .inl (.goto 6), 19), (22, .inl (.iconst 0), 23)]),
  (23, [(23, .inl .ireturn, 24)])]
noncomputable def zc_Mod_renames : zm_C := [(6, [(0, .inl (.aload_n 0), 1), (1, .inl (.iconst 0), 2), (2, .inl .iaload, 3), (3, .inl (.istore_n 3), 4), (4, .inl (.aload_n 0), 5), (5, .inl (.iconst 1), 6), (6, .inl (.iload_n 3), 7)]),
  (17, [(7, .inl (.ifCond .eq 14), 10), (10, .inl (.aload_n 0), 11), (11, .inl (.iconst 1), 12), (12, .inl .iaload, 13), (13, .inl (.iload_n 1), 14), (14, .inl (.if_icmp .ne 7), 17), (17, .inl (.iload_n 2), 18)]),
  (26, [(18, .inl (.goto 6), 21), (21, .inl (.aload_n 0), 22), (22, .inl (.iconst 1), 23), (23, .inl .iaload, 24), (24, .inl .iastore, 25), (25, .inl (.aload_n 0), 26), (26, .inl (.iconst 3), 27)]),
  (38, [(27, .inl (.iload_n 3), 28), (28, .inl (.iconst 3), 29), (29, .inl (.if_icmp .eq 9), 32), (32, .inl (.iload_n 3), 33), (33, .inl (.bipush 7), 35), (35, .inl (.if_icmp .lt 14), 38), (38, .inl (.aload_n 0), 39)]),
  (49, [(39, .inl (.iconst 3), 40), (40, .inl .iaload, 41), (41, .inl (.iload_n 1), 42), (42, .inl (.if_icmp .ne 7), 45), (45, .inl (.iload_n 2), 46), (46, .inl (.goto 6), 49), (49, .inl (.aload_n 0), 50)]),
  (53, [(50, .inl (.iconst 3), 51), (51, .inl .iaload, 52), (52, .inl .iastore, 53), (53, .inl .return_, 54)])]
noncomputable def zc_Mod_hasMember : zm_C := [(5, [(0, .inl (.iload_n 0), 1), (1, .inl (.iconst 5), 2), (2, .inl (.if_icmp .lt 7), 5), (5, .inl (.iconst 1), 6)]),
  (10, [(6, .inl (.goto 4), 9), (9, .inl (.iconst 0), 10), (10, .inl .ireturn, 11)])]
noncomputable def zc_Mod_renamesPair : zm_C := [(10, [(0, .inl (.aload_n 0), 1), (1, .inl (.iconst 0), 2), (2, .inl .iaload, 3), (3, .inl (.istore 5), 5), (5, .inl (.iload 5), 7), (7, .inr (3, 141, 171, 1), 10), (10, .inl (.ifCond .eq 26), 13)]),
  (21, [(13, .inl (.aload_n 0), 14), (14, .inl (.iconst 1), 15), (15, .inl .iaload, 16), (16, .inl (.iload_n 1), 17), (17, .inl (.if_icmp .ne 19), 20), (20, .inl (.aload_n 0), 21), (21, .inl (.iconst 2), 22)]),
  (30, [(22, .inl .iaload, 23), (23, .inl (.iload_n 2), 24), (24, .inl (.if_icmp .ne 12), 27), (27, .inl (.aload_n 0), 28), (28, .inl (.iconst 1), 29), (29, .inl (.iload_n 3), 30), (30, .inl .iastore, 31)]),
  (40, [(31, .inl (.aload_n 0), 32), (32, .inl (.iconst 2), 33), (33, .inl (.iload 4), 35), (35, .inl .iastore, 36), (36, .inl (.iload 5), 38), (38, .inl (.bipush 8), 40), (40, .inl (.if_icmp .lt 26), 43)]),
  (51, [(43, .inl (.aload_n 0), 44), (44, .inl (.iconst 3), 45), (45, .inl .iaload, 46), (46, .inl (.iload_n 1), 47), (47, .inl (.if_icmp .ne 19), 50), (50, .inl (.aload_n 0), 51), (51, .inl (.iconst 4), 52)]),
  (60, [(52, .inl .iaload, 53), (53, .inl (.iload_n 2), 54), (54, .inl (.if_icmp .ne 12), 57), (57, .inl (.aload_n 0), 58), (58, .inl (.iconst 3), 59), (59, .inl (.iload_n 3), 60), (60, .inl .iastore, 61)]),
  (66, [(61, .inl (.aload_n 0), 62), (62, .inl (.iconst 4), 63), (63, .inl (.iload 4), 65), (65, .inl .iastore, 66), (66, .inl .return_, 67)])]
noncomputable def zc_Mod_carries : zm_C := [(13, [(0, .inl (.iload_n 1), 1), (1, .inl (.iconst 2), 2), (2, .inl (.if_icmp .ne 32), 5), (5, .inl (.aload_n 0), 6), (6, .inl (.iload 6), 8), (8, .inl (.ifCond .eq 8), 11), (11, .inl (.iload 4), 13), (13, .inl (.goto 4), 16)]),
  (31, [(16, .inl (.iload_n 2), 17), (17, .inl (.iload 6), 19), (19, .inl (.ifCond .eq 7), 22), (22, .inl (.iload_n 2), 23), (23, .inl (.goto 5), 26), (26, .inl (.iload 4), 28), (28, .inr (3, 145, 170, 3), 31), (31, .inl (.goto 74), 34)]),
  (47, [(34, .inl (.iload_n 1), 35), (35, .inl (.bipush 6), 37), (37, .inl (.if_icmp .ne 34), 40), (40, .inl (.aload_n 0), 41), (41, .inl (.iload_n 2), 42), (42, .inl (.iload 6), 44), (44, .inl (.ifCond .eq 8), 47), (47, .inl (.iload 5), 49)]),
  (63, [(49, .inl (.goto 4), 52), (52, .inl (.iload_n 3), 53), (53, .inl (.iload_n 2), 54), (54, .inl (.iload 6), 56), (56, .inl (.ifCond .eq 7), 59), (59, .inl (.iload_n 3), 60), (60, .inl (.goto 5), 63), (63, .inl (.iload 5), 65)]),
  (80, [(65, .inr (3, 149, 172, 5), 68), (68, .inl (.goto 37), 71), (71, .inl (.iload_n 1), 72), (72, .inl (.bipush 7), 74), (74, .inl (.if_icmp .ne 31), 77), (77, .inl (.aload_n 0), 78), (78, .inl (.iload 6), 80), (80, .inl (.ifCond .eq 8), 83)]),
  (96, [(83, .inl (.iload 4), 85), (85, .inl (.goto 4), 88), (88, .inl (.iload_n 2), 89), (89, .inl (.iload_n 3), 90), (90, .inl (.iload 6), 92), (92, .inl (.ifCond .eq 7), 95), (95, .inl (.iload_n 2), 96), (96, .inl (.goto 5), 99)]),
  (105, [(99, .inl (.iload 4), 101), (101, .inl (.iload_n 3), 102), (102, .inr (3, 149, 172, 5), 105), (105, .inl .return_, 106)])]
noncomputable def zc_Mod_commute : zm_C := [(18, [(0, .inl (.aload_n 0), 1), (1, .inl (.aload_n 0), 2), (2, .inr (0, 22, 7, 4), 5), (5, .inl (.aload_n 1), 6), (6, .inl (.iload_n 2), 7), (7, .inr (5, 165, 159, 3), 10), (10, .inl (.aload_n 0), 11), (11, .inl (.aload_n 0), 12), (12, .inr (0, 25, 7, 5), 15), (15, .inl (.aload_n 1), 16), (16, .inl (.iload_n 2), 17), (17, .inl (.iconst 2), 18), (18, .inl .iadd, 19)]),
  (39, [(19, .inr (5, 165, 159, 3), 22), (22, .inl (.iconst 5), 23), (23, .inl (.iload_n 2), 24), (24, .inl .imul, 25), (25, .inl (.istore_n 3), 26), (26, .inl (.iconst 0), 27), (27, .inl (.istore 4), 29), (29, .inl (.iload 4), 31), (31, .inl (.iconst 5), 32), (32, .inl (.if_icmp .ge 37), 35), (35, .inl (.aload_n 0), 36), (36, .inr (0, 37, 7, 12), 39), (39, .inl (.iload 4), 41)]),
  (57, [(41, .inl (.aload_n 1), 42), (42, .inl (.iload_n 3), 43), (43, .inl (.iload 4), 45), (45, .inl .iadd, 46), (46, .inl .iaload, 47), (47, .inl .iastore, 48), (48, .inl (.aload_n 0), 49), (49, .inr (0, 34, 7, 11), 52), (52, .inl (.iload 4), 54), (54, .inl (.aload_n 1), 55), (55, .inl (.iload_n 3), 56), (56, .inl (.iconst 5), 57), (57, .inl .iadd, 58)]),
  (77, [(58, .inl (.iload 4), 60), (60, .inl .iadd, 61), (61, .inl .iaload, 62), (62, .inl .iastore, 63), (63, .inl (.iinc 4 1), 66), (66, .inl (.goto (-37)), 69), (69, .inl (.aload_n 0), 70), (70, .inr (0, 34, 7, 11), 73), (73, .inl (.aload_n 1), 74), (74, .inl (.iload_n 3), 75), (75, .inl .iaload, 76), (76, .inl (.aload_n 1), 77), (77, .inl (.iload_n 3), 78)]),
  (90, [(78, .inl (.iconst 1), 79), (79, .inl .iadd, 80), (80, .inl .iaload, 81), (81, .inl (.aload_n 1), 82), (82, .inl (.iload_n 3), 83), (83, .inl (.iconst 2), 84), (84, .inl .iadd, 85), (85, .inl .iaload, 86), (86, .inl (.aload_n 1), 87), (87, .inl (.iload_n 3), 88), (88, .inl (.iconst 3), 89), (89, .inl .iadd, 90), (90, .inl .iaload, 91)]),
  (109, [(91, .inl (.aload_n 1), 92), (92, .inl (.iload_n 3), 93), (93, .inl (.iconst 4), 94), (94, .inl .iadd, 95), (95, .inl .iaload, 96), (96, .inl (.iconst 1), 97), (97, .inr (3, 169, 173, 7), 100), (100, .inl (.aload_n 0), 101), (101, .inr (0, 37, 7, 12), 104), (104, .inl (.aload_n 0), 105), (105, .inr (0, 34, 7, 11), 108), (108, .inl (.iconst 0), 109), (109, .inl .iaload, 110)]),
  (128, [(110, .inl (.aload_n 0), 111), (111, .inr (0, 34, 7, 11), 114), (114, .inl (.iconst 1), 115), (115, .inl .iaload, 116), (116, .inl (.aload_n 0), 117), (117, .inr (0, 34, 7, 11), 120), (120, .inl (.iconst 2), 121), (121, .inl .iaload, 122), (122, .inl (.aload_n 0), 123), (123, .inr (0, 34, 7, 11), 126), (126, .inl (.iconst 3), 127), (127, .inl .iaload, 128), (128, .inl (.aload_n 0), 129)]),
  (149, [(129, .inr (0, 34, 7, 11), 132), (132, .inl (.iconst 4), 133), (133, .inl .iaload, 134), (134, .inl (.iconst 0), 135), (135, .inr (3, 169, 173, 7), 138), (138, .inl (.aload_n 0), 139), (139, .inl (.aload_n 0), 140), (140, .inr (0, 22, 7, 4), 143), (143, .inl (.aload_n 0), 144), (144, .inr (0, 34, 7, 11), 147), (147, .inl (.iconst 0), 148), (148, .inl .iaload, 149), (149, .inl (.aload_n 0), 150)]),
  (168, [(150, .inr (0, 34, 7, 11), 153), (153, .inl (.iconst 1), 154), (154, .inl .iaload, 155), (155, .inl (.aload_n 0), 156), (156, .inr (0, 34, 7, 11), 159), (159, .inl (.iconst 2), 160), (160, .inl .iaload, 161), (161, .inl (.aload_n 0), 162), (162, .inr (0, 34, 7, 11), 165), (165, .inl (.iconst 3), 166), (166, .inl .iaload, 167), (167, .inl (.aload_n 0), 168), (168, .inr (0, 34, 7, 11), 171)]),
  (193, [(171, .inl (.iconst 4), 172), (172, .inl .iaload, 173), (173, .inr (5, 153, 64, 6), 176), (176, .inl (.ifCond .ne 7), 179), (179, .inl (.iconst 1), 180), (180, .inl (.goto 4), 183), (183, .inl (.iconst 0), 184), (184, .inl (.istore 4), 186), (186, .inl (.iload 4), 188), (188, .inl (.ifCond .eq 48), 191), (191, .inl (.aload_n 0), 192), (192, .inl (.aload_n 0), 193), (193, .inr (0, 22, 7, 4), 196)]),
  (214, [(196, .inl (.aload_n 0), 197), (197, .inr (0, 37, 7, 12), 200), (200, .inl (.iconst 0), 201), (201, .inl .iaload, 202), (202, .inl (.aload_n 0), 203), (203, .inr (0, 37, 7, 12), 206), (206, .inl (.iconst 1), 207), (207, .inl .iaload, 208), (208, .inl (.aload_n 0), 209), (209, .inr (0, 37, 7, 12), 212), (212, .inl (.iconst 2), 213), (213, .inl .iaload, 214), (214, .inl (.aload_n 0), 215)]),
  (237, [(215, .inr (0, 37, 7, 12), 218), (218, .inl (.iconst 3), 219), (219, .inl .iaload, 220), (220, .inl (.aload_n 0), 221), (221, .inr (0, 37, 7, 12), 224), (224, .inl (.iconst 4), 225), (225, .inl .iaload, 226), (226, .inr (5, 153, 64, 6), 229), (229, .inl (.ifCond .ne 7), 232), (232, .inl (.iconst 1), 233), (233, .inl (.goto 4), 236), (236, .inl (.iconst 0), 237), (237, .inl (.istore 4), 239)]),
  (263, [(239, .inl (.iload 4), 241), (241, .inl (.ifCond .eq 21), 244), (244, .inl (.aload_n 0), 245), (245, .inr (0, 22, 7, 4), 248), (248, .inl (.aload_n 0), 249), (249, .inr (0, 25, 7, 5), 252), (252, .inr (3, 173, 141, 2), 255), (255, .inl (.ifCond .eq 7), 258), (258, .inl (.iconst 1), 259), (259, .inl (.goto 4), 262), (262, .inl (.iconst 0), 263), (263, .inl .ireturn, 264)])]
noncomputable def zc_Mod_commutes : zm_C := [(7, [(0, .inl (.aload_n 0), 1), (1, .inl (.iload_n 1), 2), (2, .inl (.iconst 0), 3), (3, .inl (.aload_n 0), 4), (4, .inr (0, 191, 7, 8), 7), (7, .inl (.iconst 2), 8)]),
  (19, [(8, .inl .isub, 9), (9, .inr (3, 187, 44, 3), 12), (12, .inl (.ifCond .eq 7), 15), (15, .inl (.iconst 0), 16), (16, .inl (.goto 4), 19), (19, .inl (.iconst 1), 20)]),
  (31, [(20, .inr (1, 65, 7, 9), 23), (23, .inl (.aload_n 0), 24), (24, .inr (0, 65, 7, 9), 27), (27, .inl (.ifCond .ne 19), 30), (30, .inl (.aload_n 0), 31), (31, .inl (.aload_n 0), 32)]),
  (43, [(32, .inr (0, 28, 7, 6), 35), (35, .inl (.iload_n 1), 36), (36, .inr (5, 179, 174, 2), 39), (39, .inl (.ifCond .eq 7), 42), (42, .inl (.iconst 1), 43), (43, .inl (.goto 4), 46)]),
  (47, [(46, .inl (.iconst 0), 47), (47, .inl .ireturn, 48)])]
noncomputable def zc_Comm_storeAt : zm_C := [(5, [(0, .inl (.aload_n 1), 1), (1, .inl (.iload_n 2), 2), (2, .inr (5, 56, 146, 1), 5), (5, .inl (.aload_n 0), 6)]),
  (13, [(6, .inr (0, 27, 2, 3), 9), (9, .inr (5, 60, 39, 1), 12), (12, .inl (.aload_n 1), 13), (13, .inl (.iload_n 2), 14)]),
  (19, [(14, .inl (.iconst 1), 15), (15, .inl .iadd, 16), (16, .inr (5, 56, 146, 1), 19), (19, .inl (.aload_n 0), 20)]),
  (26, [(20, .inr (0, 31, 2, 4), 23), (23, .inr (5, 60, 39, 1), 26), (26, .inl .return_, 27)])]
noncomputable def zc_RR_exchange : zm_C := [(6, [(0, .inl (.aload_n 0), 1), (1, .inl (.iload_n 1), 2), (2, .inr (5, 162, 161, 1), 5), (5, .inl (.aload_n 0), 6), (6, .inr (0, 42, 6, 6), 9)]),
  (17, [(9, .inl (.aload_n 0), 10), (10, .inr (0, 10, 6, 0), 13), (13, .inl (.aload_n 0), 14), (14, .inr (0, 28, 6, 4), 17), (17, .inl (.iload_n 1), 18)]),
  (26, [(18, .inr (5, 165, 167, 3), 21), (21, .inl (.ifCond .ne 5), 24), (24, .inl (.iconst 0), 25), (25, .inl .ireturn, 26), (26, .inl (.aload_n 0), 27)]),
  (35, [(27, .inr (0, 42, 6, 6), 30), (30, .inl (.aload_n 0), 31), (31, .inr (0, 28, 6, 4), 34), (34, .inl (.iload_n 1), 35), (35, .inr (5, 169, 176, 2), 38)]),
  (39, [(38, .inl (.iconst 1), 39), (39, .inl .ireturn, 40)])]
noncomputable def zc_Law_exchange : zm_C := [(3, [(0, .inl (.aload_n 2), 1), (1, .inl (.iconst 0), 2), (2, .inl (.aload_n 0), 3), (3, .inl (.iload_n 1), 4)]),
  (11, [(4, .inr (5, 83, 177, 1), 7), (7, .inl (.ifCond .eq 7), 10), (10, .inl (.lconst 1), 11), (11, .inl (.goto 4), 14)]),
  (22, [(14, .inl (.lconst 0), 15), (15, .inl .lastore, 16), (16, .inl (.goto 6), 19), (22, .inl (.iconst 0), 23)]),
  (23, [(23, .inl .ireturn, 24)])]
noncomputable def zc_Mod_exchanges : zm_C := [(7, [(0, .inl (.iconst 0), 1), (1, .inl (.istore_n 3), 2), (2, .inl (.iload_n 3), 3), (3, .inl (.iconst 5), 4), (4, .inl (.if_icmp .ge 37), 7), (7, .inl (.aload_n 1), 8)]),
  (13, [(8, .inl (.iconst 5), 9), (9, .inl (.iload_n 2), 10), (10, .inl .imul, 11), (11, .inl (.iload_n 3), 12), (12, .inl .iadd, 13), (13, .inl (.aload_n 0), 14)]),
  (21, [(14, .inr (0, 34, 7, 11), 17), (17, .inl (.iload_n 3), 18), (18, .inl .iaload, 19), (19, .inl .iastore, 20), (20, .inl (.aload_n 1), 21), (21, .inl (.iconst 5), 22)]),
  (27, [(22, .inl (.iload_n 2), 23), (23, .inl .imul, 24), (24, .inl (.iconst 5), 25), (25, .inl .iadd, 26), (26, .inl (.iload_n 3), 27), (27, .inl .iadd, 28)]),
  (35, [(28, .inl (.aload_n 0), 29), (29, .inr (0, 37, 7, 12), 32), (32, .inl (.iload_n 3), 33), (33, .inl .iaload, 34), (34, .inl .iastore, 35), (35, .inl (.iinc 3 1), 38)]),
  (41, [(38, .inl (.goto (-36)), 41), (41, .inl .return_, 42)])]
noncomputable def zc_Mod_exchange : zm_C := [(7, [(0, .inl (.aload_n 0), 1), (1, .inl (.iload_n 1), 2), (2, .inl (.iconst 0), 3), (3, .inl (.aload_n 0), 4), (4, .inr (0, 191, 7, 8), 7), (7, .inl (.iconst 2), 8)]),
  (19, [(8, .inl .isub, 9), (9, .inr (3, 187, 44, 3), 12), (12, .inl (.ifCond .eq 7), 15), (15, .inl (.iconst 0), 16), (16, .inl (.goto 4), 19), (19, .inl (.iconst 1), 20)]),
  (31, [(20, .inr (1, 65, 7, 9), 23), (23, .inl (.aload_n 0), 24), (24, .inr (0, 65, 7, 9), 27), (27, .inl (.ifCond .ne 19), 30), (30, .inl (.aload_n 0), 31), (31, .inl (.aload_n 0), 32)]),
  (43, [(32, .inr (0, 28, 7, 6), 35), (35, .inl (.iload_n 1), 36), (36, .inr (5, 179, 174, 2), 39), (39, .inl (.ifCond .eq 7), 42), (42, .inl (.iconst 1), 43), (43, .inl (.goto 4), 46)]),
  (53, [(46, .inl (.iconst 0), 47), (47, .inl (.istore_n 2), 48), (48, .inl (.iload_n 2), 49), (49, .inl (.ifCond .eq 12), 52), (52, .inl (.aload_n 0), 53), (53, .inl (.aload_n 0), 54)]),
  (62, [(54, .inr (0, 28, 7, 6), 57), (57, .inl (.iload_n 1), 58), (58, .inr (5, 183, 179, 2), 61), (61, .inl (.iload_n 2), 62), (62, .inl .ireturn, 63)])]
noncomputable def zc_List_copyFrom : zm_C := [(8, [(0, .inl (.aload_n 0), 1), (1, .inl (.aload_n 1), 2), (2, .inr (0, 18, 1, 1), 5), (5, .inr (1, 18, 1, 1), 8), (8, .inl (.iconst 0), 9)]),
  (16, [(9, .inl (.istore_n 2), 10), (10, .inl (.iload_n 2), 11), (11, .inl (.bipush 30), 13), (13, .inl (.if_icmp .ge 24), 16), (16, .inl (.aload_n 0), 17)]),
  (23, [(17, .inr (0, 11, 1, 0), 20), (20, .inl (.iload_n 2), 21), (21, .inl .aaload, 22), (22, .inl (.aload_n 1), 23), (23, .inr (0, 11, 1, 0), 26)]),
  (34, [(26, .inl (.iload_n 2), 27), (27, .inl .aaload, 28), (28, .inr (5, 31, 39, 1), 31), (31, .inl (.iinc 2 1), 34), (34, .inl (.goto (-24)), 37)]),
  (37, [(37, .inl .return_, 38)])]
noncomputable def zc_Comm_movesBehind : zm_C := [(15, [(0, .inl (.aload_n 0), 1), (1, .inr (0, 41, 2, 6), 4), (4, .inl (.aload_n 0), 5), (5, .inr (0, 37, 2, 5), 8), (8, .inr (5, 77, 181, 1), 11), (11, .inl (.aload_n 0), 12), (12, .inr (0, 12, 2, 0), 15), (15, .inl (.aload_n 1), 16)]),
  (31, [(16, .inr (5, 44, 128, 1), 19), (19, .inl (.aload_n 0), 20), (20, .inr (0, 12, 2, 0), 23), (23, .inl (.aload_n 0), 24), (24, .inr (0, 41, 2, 6), 27), (27, .inl (.iload_n 2), 28), (28, .inr (5, 48, 155, 2), 31), (31, .inl (.iload_n 2), 32)]),
  (43, [(32, .inl (.istore 4), 34), (34, .inl (.iload 4), 36), (36, .inl (.iload_n 2), 37), (37, .inl (.iload_n 3), 38), (38, .inl .iadd, 39), (39, .inl (.if_icmp .ge 46), 42), (42, .inl (.aload_n 0), 43), (43, .inl (.aload_n 0), 44)]),
  (58, [(44, .inr (0, 41, 2, 6), 47), (47, .inl (.iload 4), 49), (49, .inr (5, 52, 166, 2), 52), (52, .inl (.ifCond .ne 5), 55), (55, .inl (.iconst 0), 56), (56, .inl .ireturn, 57), (57, .inl (.aload_n 0), 58), (58, .inl (.aload_n 0), 59)]),
  (75, [(59, .inr (0, 41, 2, 6), 62), (62, .inl (.iload 4), 64), (64, .inr (5, 84, 176, 2), 67), (67, .inl (.aload_n 0), 68), (68, .inr (0, 12, 2, 0), 71), (71, .inl (.aload_n 0), 72), (72, .inr (0, 27, 2, 3), 75), (75, .inr (5, 69, 38, 1), 78)]),
  (93, [(78, .inl .pop, 79), (79, .inl (.iinc 4 1), 82), (82, .inl (.goto (-48)), 85), (85, .inl (.aload_n 0), 86), (86, .inr (0, 37, 2, 5), 89), (89, .inl (.aload_n 0), 90), (90, .inr (0, 41, 2, 6), 93), (93, .inr (5, 77, 181, 1), 96)]),
  (97, [(96, .inl (.iconst 1), 97), (97, .inl .ireturn, 98)])]
noncomputable def zc_Comm_needsOf : zm_C := [(7, [(0, .inl (.iconst 0), 1), (1, .inl (.istore 4), 3), (3, .inl (.iconst 1), 4), (4, .inl (.istore 5), 6), (6, .inl (.aload_n 0), 7), (7, .inr (0, 37, 2, 5), 10)]),
  (17, [(10, .inl (.aload_n 2), 11), (11, .inr (5, 77, 181, 1), 14), (14, .inl (.iload_n 3), 15), (15, .inl (.iconst 1), 16), (16, .inl .isub, 17), (17, .inl (.istore 6), 19)]),
  (28, [(19, .inl (.iload 6), 21), (21, .inl (.ifCond .lt 33), 24), (24, .inl (.aload_n 0), 25), (25, .inl (.aload_n 1), 26), (26, .inl (.iload 6), 28), (28, .inl (.iload 5), 30)]),
  (41, [(30, .inr (5, 80, 182, 3), 33), (33, .inl (.ifCond .ne 15), 36), (36, .inl (.iload 4), 38), (38, .inl (.iconst 1), 39), (39, .inl (.iload 6), 41), (41, .inl .ishl, 42)]),
  (54, [(42, .inl .ior, 43), (43, .inl (.istore 4), 45), (45, .inl (.iinc 5 1), 48), (48, .inl (.iinc 6 (-1)), 51), (51, .inl (.goto (-32)), 54), (54, .inl (.iload 4), 56)]),
  (56, [(56, .inl .ireturn, 57)])]
noncomputable def zc_RR_needs : zm_C := [(5, [(0, .inl (.aload_n 0), 1), (1, .inl (.iload_n 1), 2), (2, .inr (5, 129, 145, 1), 5), (5, .inl (.aload_n 0), 6)]),
  (13, [(6, .inr (0, 42, 6, 6), 9), (9, .inl (.aload_n 0), 10), (10, .inr (0, 10, 6, 0), 13), (13, .inl (.aload_n 0), 14)]),
  (21, [(14, .inr (0, 28, 6, 4), 17), (17, .inl (.iload_n 1), 18), (18, .inr (5, 172, 183, 3), 21), (21, .inl .ireturn, 22)])]
noncomputable def zc_Law_needs : zm_C := [(3, [(0, .inl (.aload_n 2), 1), (1, .inl (.iconst 0), 2), (2, .inl (.aload_n 0), 3), (3, .inl (.iload_n 1), 4)]),
  (9, [(4, .inr (5, 86, 184, 1), 7), (7, .inl .i2l, 8), (8, .inl .lastore, 9), (9, .inl (.goto 6), 12)]),
  (16, [(15, .inl (.iconst 0), 16), (16, .inl .ireturn, 17)])]
noncomputable def zc_Mod_copiesLog : zm_C := [(3, [(0, .inl (.iconst 0), 1), (1, .inl (.istore_n 2), 2), (2, .inl (.iload_n 2), 3), (3, .inl (.sipush 150), 6)]),
  (11, [(6, .inl (.if_icmp .ge 15), 9), (9, .inl (.aload_n 1), 10), (10, .inl (.iload_n 2), 11), (11, .inl (.aload_n 0), 12)]),
  (15, [(12, .inl (.iload_n 2), 13), (13, .inl .iaload, 14), (14, .inl .iastore, 15), (15, .inl (.iinc 2 1), 18)]),
  (21, [(18, .inl (.goto (-16)), 21), (21, .inl .return_, 22)])]
noncomputable def zc_Mod_needsOf : zm_C := [(12, [(0, .inl (.iconst 0), 1), (1, .inl (.istore_n 2), 2), (2, .inl (.iconst 1), 3), (3, .inl (.istore_n 3), 4), (4, .inl (.aload_n 0), 5), (5, .inr (0, 28, 7, 6), 8), (8, .inl (.aload_n 0), 9), (9, .inr (0, 31, 7, 7), 12), (12, .inr (3, 176, 186, 2), 15)]),
  (29, [(15, .inl (.iload_n 1), 16), (16, .inl (.iconst 1), 17), (17, .inl .isub, 18), (18, .inl (.istore 4), 20), (20, .inl (.iload 4), 22), (22, .inl (.ifCond .lt 105), 25), (25, .inl (.aload_n 0), 26), (26, .inr (0, 31, 7, 7), 29), (29, .inl (.aload_n 0), 30)]),
  (45, [(30, .inr (0, 40, 7, 13), 33), (33, .inr (3, 176, 186, 2), 36), (36, .inl (.iconst 1), 37), (37, .inl (.istore 5), 39), (39, .inl (.iconst 0), 40), (40, .inl (.istore 6), 42), (42, .inl (.iload 6), 44), (44, .inl (.iload_n 3), 45), (45, .inl (.if_icmp .ge 47), 48)]),
  (63, [(48, .inl (.iload 5), 50), (50, .inl (.ifCond .eq 42), 53), (53, .inl (.aload_n 0), 54), (54, .inl (.aload_n 0), 55), (55, .inr (0, 40, 7, 13), 58), (58, .inl (.iload 4), 60), (60, .inl (.iload 6), 62), (62, .inl .iadd, 63), (63, .inr (5, 179, 174, 2), 66)]),
  (82, [(66, .inl (.istore 5), 68), (68, .inl (.iload 5), 70), (70, .inl (.ifCond .eq 16), 73), (73, .inl (.aload_n 0), 74), (74, .inl (.aload_n 0), 75), (75, .inr (0, 40, 7, 13), 78), (78, .inl (.iload 4), 80), (80, .inl (.iload 6), 82), (82, .inl .iadd, 83)]),
  (102, [(83, .inr (5, 183, 179, 2), 86), (86, .inl (.iinc 6 1), 89), (89, .inl (.goto (-47)), 92), (92, .inl (.iload 5), 94), (94, .inl (.ifCond .eq 17), 97), (97, .inl (.aload_n 0), 98), (98, .inr (0, 40, 7, 13), 101), (101, .inl (.aload_n 0), 102), (102, .inr (0, 31, 7, 7), 105)]),
  (118, [(105, .inr (3, 176, 186, 2), 108), (108, .inl (.goto 13), 111), (111, .inl (.iload_n 2), 112), (112, .inl (.iconst 1), 113), (113, .inl (.iload 4), 115), (115, .inl .ishl, 116), (116, .inl .ior, 117), (117, .inl (.istore_n 2), 118), (118, .inl (.iinc 3 1), 121)]),
  (128, [(121, .inl (.iinc 4 (-1)), 124), (124, .inl (.goto (-104)), 127), (127, .inl (.iload_n 2), 128), (128, .inl .ireturn, 129)])]
noncomputable def zc_Mod_needs : zm_C := [(6, [(0, .inl (.aload_n 0), 1), (1, .inl (.iconst 0), 2), (2, .inr (1, 65, 7, 9), 5), (5, .inl (.iload_n 1), 6), (6, .inl (.iconst 0), 7)]),
  (13, [(7, .inl (.aload_n 0), 8), (8, .inr (0, 191, 7, 8), 11), (11, .inl (.iconst 1), 12), (12, .inl .isub, 13), (13, .inr (3, 187, 44, 3), 16)]),
  (24, [(16, .inl (.ifCond .eq 11), 19), (19, .inl (.aload_n 0), 20), (20, .inl (.iload_n 1), 21), (21, .inr (5, 229, 187, 1), 24), (24, .inl (.goto 8), 27)]),
  (32, [(27, .inl (.aload_n 0), 28), (28, .inl (.iconst 1), 29), (29, .inr (5, 218, 108, 1), 32), (32, .inl .ireturn, 33)])]
noncomputable def zc_Match_joinClasses : zm_C := [(7, [(0, .inl (.iload_n 1), 1), (1, .inl (.ifCond .lt 33), 4), (4, .inl (.iload_n 1), 5), (5, .inl (.bipush 12), 7), (7, .inl (.if_icmp .ge 27), 10)]),
  (17, [(10, .inl (.iload_n 2), 11), (11, .inl (.ifCond .lt 23), 14), (14, .inl (.iload_n 2), 15), (15, .inl (.bipush 12), 17), (17, .inl (.if_icmp .ge 17), 20)]),
  (26, [(20, .inl (.aload_n 0), 21), (21, .inr (0, 9, 3, 0), 24), (24, .inl (.iload_n 1), 25), (25, .inl (.iload_n 2), 26), (26, .inl .iastore, 27)]),
  (33, [(27, .inl (.aload_n 0), 28), (28, .inr (0, 15, 3, 1), 31), (31, .inl (.iload_n 2), 32), (32, .inl (.iload_n 1), 33), (33, .inl .iastore, 34)]),
  (34, [(34, .inl .return_, 35)])]
noncomputable def zc_Match_joinClassesByName : zm_C := [(5, [(0, .inl (.iconst 0), 1), (1, .inl (.istore_n 3), 2), (2, .inl (.iload_n 3), 3), (3, .inl (.bipush 12), 5), (5, .inl (.if_icmp .ge 24), 8)]),
  (12, [(8, .inl (.aload_n 0), 9), (9, .inl (.iload_n 3), 10), (10, .inl (.aload_n 2), 11), (11, .inl (.aload_n 1), 12), (12, .inr (0, 43, 4, 0), 15)]),
  (23, [(15, .inl (.iload_n 3), 16), (16, .inl .iaload, 17), (17, .inr (5, 48, 15, 1), 20), (20, .inr (5, 52, 189, 2), 23), (23, .inl (.iinc 3 1), 26)]),
  (29, [(26, .inl (.goto (-24)), 29), (29, .inl .return_, 30)])]
noncomputable def zc_Integer_bitCount : zm_C := [(8, [(0, .inl (.iload_n 0), 1), (1, .inl (.iload_n 0), 2), (2, .inl (.iconst 1), 3), (3, .inl .iushr, 4), (4, .inr (13, 265, 1431655765, 0), 7), (7, .inl .iand, 8), (8, .inl .isub, 9)]),
  (17, [(9, .inl (.istore_n 0), 10), (10, .inl (.iload_n 0), 11), (11, .inr (13, 266, 858993459, 0), 14), (14, .inl .iand, 15), (15, .inl (.iload_n 0), 16), (16, .inl (.iconst 2), 17), (17, .inl .iushr, 18)]),
  (26, [(18, .inr (13, 266, 858993459, 0), 21), (21, .inl .iand, 22), (22, .inl .iadd, 23), (23, .inl (.istore_n 0), 24), (24, .inl (.iload_n 0), 25), (25, .inl (.iload_n 0), 26), (26, .inl (.iconst 4), 27)]),
  (35, [(27, .inl .iushr, 28), (28, .inl .iadd, 29), (29, .inr (13, 267, 252645135, 0), 32), (32, .inl .iand, 33), (33, .inl (.istore_n 0), 34), (34, .inl (.iload_n 0), 35), (35, .inl (.iload_n 0), 36)]),
  (43, [(36, .inl (.bipush 8), 38), (38, .inl .iushr, 39), (39, .inl .iadd, 40), (40, .inl (.istore_n 0), 41), (41, .inl (.iload_n 0), 42), (42, .inl (.iload_n 0), 43), (43, .inl (.bipush 16), 45)]),
  (52, [(45, .inl .iushr, 46), (46, .inl .iadd, 47), (47, .inl (.istore_n 0), 48), (48, .inl (.iload_n 0), 49), (49, .inl (.bipush 63), 51), (51, .inl .iand, 52), (52, .inl .ireturn, 53)])]
noncomputable def zc_Match_closestTo : zm_C := [(9, [(0, .inl (.iconst (-1)), 1), (1, .inl (.istore_n 3), 2), (2, .inl (.iconst 0), 3), (3, .inl (.istore 4), 5), (5, .inl (.bipush 65), 7), (7, .inl (.istore 5), 9), (9, .inl (.iload 5), 11)]),
  (24, [(11, .inl (.bipush 90), 13), (13, .inl (.if_icmp .gt 61), 16), (16, .inl (.aload_n 2), 17), (17, .inl (.iload 5), 19), (19, .inr (5, 48, 15, 1), 22), (22, .inl (.istore 6), 24), (24, .inl (.iload 6), 26)]),
  (39, [(26, .inl (.ifCond .lt 42), 29), (29, .inl (.aload_n 0), 30), (30, .inr (0, 15, 3, 1), 33), (33, .inl (.iload 6), 35), (35, .inl .iaload, 36), (36, .inl (.ifCond .ge 32), 39), (39, .inl (.iload_n 1), 40)]),
  (49, [(40, .inl (.aload_n 2), 41), (41, .inl (.iconst 1), 42), (42, .inl (.iload 6), 44), (44, .inl .ishl, 45), (45, .inr (5, 56, 18, 1), 48), (48, .inl .iand, 49), (49, .inr (3, 63, 191, 1), 52)]),
  (65, [(52, .inl (.istore 7), 54), (54, .inl (.iload 7), 56), (56, .inl (.iload 4), 58), (58, .inl (.if_icmp .le 10), 61), (61, .inl (.iload 7), 63), (63, .inl (.istore 4), 65), (65, .inl (.iload 6), 67)]),
  (78, [(67, .inl (.istore_n 3), 68), (68, .inl (.iinc 5 1), 71), (71, .inl (.goto (-62)), 74), (74, .inl (.iconst 2), 75), (75, .inl (.iload 4), 77), (77, .inl .imul, 78), (78, .inl (.iload_n 1), 79)]),
  (90, [(79, .inr (3, 63, 191, 1), 82), (82, .inl (.if_icmp .lt 7), 85), (85, .inl (.iload_n 3), 86), (86, .inl (.goto 4), 89), (89, .inl (.iconst (-1)), 90), (90, .inl .ireturn, 91)])]
noncomputable def zc_Match_joinClassesByMembers : zm_C := [(9, [(0, .inl (.bipush 65), 2), (2, .inl (.istore_n 3), 3), (3, .inl (.iload_n 3), 4), (4, .inl (.bipush 90), 6), (6, .inl (.if_icmp .gt 50), 9), (9, .inl (.aload_n 1), 10)]),
  (21, [(10, .inl (.iload_n 3), 11), (11, .inr (5, 48, 15, 1), 14), (14, .inl (.istore 4), 16), (16, .inl (.iload 4), 18), (18, .inl (.ifCond .lt 32), 21), (21, .inl (.aload_n 0), 22)]),
  (32, [(22, .inr (0, 9, 3, 0), 25), (25, .inl (.iload 4), 27), (27, .inl .iaload, 28), (28, .inl (.ifCond .ge 22), 31), (31, .inl (.aload_n 0), 32), (32, .inl (.iload 4), 34)]),
  (40, [(34, .inl (.aload_n 0), 35), (35, .inl (.aload_n 1), 36), (36, .inl (.iconst 1), 37), (37, .inl (.iload 4), 39), (39, .inl .ishl, 40), (40, .inr (5, 56, 18, 1), 43)]),
  (56, [(43, .inl (.aload_n 2), 44), (44, .inr (5, 59, 192, 2), 47), (47, .inr (5, 52, 189, 2), 50), (50, .inl (.iinc 3 1), 53), (53, .inl (.goto (-50)), 56), (56, .inl .return_, 57)])]
noncomputable def zc_Match_joinMembers : zm_C := [(7, [(0, .inl (.iload_n 1), 1), (1, .inl (.ifCond .lt 33), 4), (4, .inl (.iload_n 1), 5), (5, .inl (.bipush 40), 7), (7, .inl (.if_icmp .ge 27), 10)]),
  (17, [(10, .inl (.iload_n 2), 11), (11, .inl (.ifCond .lt 23), 14), (14, .inl (.iload_n 2), 15), (15, .inl (.bipush 40), 17), (17, .inl (.if_icmp .ge 17), 20)]),
  (26, [(20, .inl (.aload_n 0), 21), (21, .inr (0, 18, 3, 2), 24), (24, .inl (.iload_n 1), 25), (25, .inl (.iload_n 2), 26), (26, .inl .iastore, 27)]),
  (33, [(27, .inl (.aload_n 0), 28), (28, .inr (0, 21, 3, 3), 31), (31, .inl (.iload_n 2), 32), (32, .inl (.iload_n 1), 33), (33, .inl .iastore, 34)]),
  (34, [(34, .inl .return_, 35)])]
noncomputable def zc_Match_joinMembersOfClasses : zm_C := [(8, [(0, .inl (.iconst 0), 1), (1, .inl (.istore_n 3), 2), (2, .inl (.iload_n 3), 3), (3, .inl (.bipush 40), 5), (5, .inl (.if_icmp .ge 57), 8), (8, .inl (.aload_n 1), 9)]),
  (18, [(9, .inr (0, 68, 4, 4), 12), (12, .inl (.iload_n 3), 13), (13, .inl .iaload, 14), (14, .inl (.istore 4), 16), (16, .inl (.iload 4), 18), (18, .inl (.ifCond .ge 7), 21)]),
  (31, [(21, .inl (.iconst (-1)), 22), (22, .inl (.goto 10), 25), (25, .inl (.aload_n 0), 26), (26, .inr (0, 9, 3, 0), 29), (29, .inl (.iload 4), 31), (31, .inl .iaload, 32)]),
  (41, [(32, .inl (.istore 5), 34), (34, .inl (.iload 5), 36), (36, .inl (.ifCond .lt 20), 39), (39, .inl (.aload_n 0), 40), (40, .inl (.iload_n 3), 41), (41, .inl (.aload_n 2), 42)]),
  (50, [(42, .inl (.iload 5), 44), (44, .inl (.aload_n 1), 45), (45, .inr (0, 71, 4, 3), 48), (48, .inl (.iload_n 3), 49), (49, .inl .iaload, 50), (50, .inr (5, 74, 27, 2), 53)]),
  (62, [(53, .inr (5, 78, 194, 2), 56), (56, .inl (.iinc 3 1), 59), (59, .inl (.goto (-57)), 62), (62, .inl .return_, 63)])]
noncomputable def zc_Match_onlyFree : zm_C := [(6, [(0, .inl (.iconst (-1)), 1), (1, .inl (.istore_n 3), 2), (2, .inl (.iconst 0), 3), (3, .inl (.istore 4), 5), (5, .inl (.iconst 0), 6), (6, .inl (.istore 5), 8)]),
  (19, [(8, .inl (.iload 5), 10), (10, .inl (.bipush 40), 12), (12, .inl (.if_icmp .ge 36), 15), (15, .inl (.aload_n 1), 16), (16, .inr (0, 71, 4, 3), 19), (19, .inl (.iload 5), 21)]),
  (30, [(21, .inl .iaload, 22), (22, .inl (.iload_n 2), 23), (23, .inl (.if_icmp .ne 19), 26), (26, .inl (.aload_n 0), 27), (27, .inr (0, 21, 3, 3), 30), (30, .inl (.iload 5), 32)]),
  (42, [(32, .inl .iaload, 33), (33, .inl (.ifCond .ge 9), 36), (36, .inl (.iload 5), 38), (38, .inl (.istore_n 3), 39), (39, .inl (.iinc 4 1), 42), (42, .inl (.iinc 5 1), 45)]),
  (55, [(45, .inl (.goto (-37)), 48), (48, .inl (.iload 4), 50), (50, .inl (.iconst 1), 51), (51, .inl (.if_icmp .ne 7), 54), (54, .inl (.iload_n 3), 55), (55, .inl (.goto 4), 58)]),
  (59, [(58, .inl (.iconst (-1)), 59), (59, .inl .ireturn, 60)])]
noncomputable def zc_Match_joinLoneMembers : zm_C := [(10, [(0, .inl (.bipush 65), 2), (2, .inl (.istore_n 3), 3), (3, .inl (.iload_n 3), 4), (4, .inl (.bipush 90), 6), (6, .inl (.if_icmp .gt 76), 9), (9, .inl (.aload_n 1), 10), (10, .inl (.iload_n 3), 11)]),
  (24, [(11, .inr (5, 48, 15, 1), 14), (14, .inl (.istore 4), 16), (16, .inl (.bipush 97), 18), (18, .inl (.istore 5), 20), (20, .inl (.iload 5), 22), (22, .inl (.bipush 122), 24), (24, .inl (.if_icmp .gt 52), 27)]),
  (40, [(27, .inl (.iload 4), 29), (29, .inl (.ifCond .lt 47), 32), (32, .inl (.aload_n 1), 33), (33, .inl (.iload 4), 35), (35, .inl (.iload 5), 37), (37, .inr (5, 74, 27, 2), 40), (40, .inl (.istore 6), 42)]),
  (54, [(42, .inl (.iload 6), 44), (44, .inl (.ifCond .lt 26), 47), (47, .inl (.aload_n 0), 48), (48, .inr (0, 18, 3, 2), 51), (51, .inl (.iload 6), 53), (53, .inl .iaload, 54), (54, .inl (.ifCond .ge 16), 57)]),
  (67, [(57, .inl (.aload_n 0), 58), (58, .inl (.iload 6), 60), (60, .inl (.aload_n 0), 61), (61, .inl (.aload_n 2), 62), (62, .inl (.iload 5), 64), (64, .inr (5, 81, 196, 2), 67), (67, .inr (5, 78, 194, 2), 70)]),
  (82, [(70, .inl (.iinc 5 1), 73), (73, .inl (.goto (-53)), 76), (76, .inl (.iinc 3 1), 79), (79, .inl (.goto (-76)), 82), (82, .inl .return_, 83)])]
noncomputable def zc_Match_find : zm_C := [(9, [(0, .inl (.aload_n 0), 1), (1, .inr (0, 9, 3, 0), 4), (4, .inl (.iconst (-1)), 5), (5, .inr (3, 24, 0, 2), 8), (8, .inl (.aload_n 0), 9), (9, .inr (0, 15, 3, 1), 12)]),
  (21, [(12, .inl (.iconst (-1)), 13), (13, .inr (3, 24, 0, 2), 16), (16, .inl (.aload_n 0), 17), (17, .inr (0, 18, 3, 2), 20), (20, .inl (.iconst (-1)), 21), (21, .inr (3, 24, 0, 2), 24)]),
  (33, [(24, .inl (.aload_n 0), 25), (25, .inr (0, 21, 3, 3), 28), (28, .inl (.iconst (-1)), 29), (29, .inr (3, 24, 0, 2), 32), (32, .inl (.aload_n 0), 33), (33, .inl (.aload_n 1), 34)]),
  (41, [(34, .inl (.aload_n 2), 35), (35, .inr (5, 30, 190, 2), 38), (38, .inl (.aload_n 0), 39), (39, .inl (.aload_n 1), 40), (40, .inl (.aload_n 2), 41), (41, .inr (5, 34, 193, 2), 44)]),
  (51, [(44, .inl (.aload_n 0), 45), (45, .inl (.aload_n 1), 46), (46, .inl (.aload_n 2), 47), (47, .inr (5, 37, 195, 2), 50), (50, .inl (.aload_n 0), 51), (51, .inl (.aload_n 1), 52)]),
  (56, [(52, .inl (.aload_n 2), 53), (53, .inr (5, 40, 197, 2), 56), (56, .inl .return_, 57)])]
noncomputable def zc_RR_matchOfClass : zm_C := [(9, [(0, .inl (.iload_n 1), 1), (1, .inr (3, 91, 110, 1), 4), (4, .inl (.aload_n 0), 5), (5, .inr (0, 10, 6, 0), 8), (8, .inl (.iload_n 1), 9), (9, .inr (5, 95, 15, 1), 12)]),
  (19, [(12, .inl (.istore_n 2), 13), (13, .inl (.iload_n 2), 14), (14, .inl (.ifCond .ge 5), 17), (17, .inl (.iconst (-1)), 18), (18, .inl .ireturn, 19), (19, .inl (.aload_n 0), 20)]),
  (31, [(20, .inr (0, 49, 6, 7), 23), (23, .inl (.aload_n 0), 24), (24, .inr (0, 10, 6, 0), 27), (27, .inl (.aload_n 0), 28), (28, .inr (0, 19, 6, 2), 31), (31, .inr (5, 176, 198, 2), 34)]),
  (43, [(34, .inl (.aload_n 0), 35), (35, .inr (0, 49, 6, 7), 38), (38, .inr (0, 180, 3, 0), 41), (41, .inl (.iload_n 2), 42), (42, .inl .iaload, 43), (43, .inl (.istore_n 3), 44)]),
  (53, [(44, .inl (.iload_n 3), 45), (45, .inl (.ifCond .ge 7), 48), (48, .inl (.iconst 0), 49), (49, .inl (.goto 12), 52), (52, .inl (.aload_n 0), 53), (53, .inr (0, 19, 6, 2), 56)]),
  (61, [(56, .inr (0, 183, 4, 0), 59), (59, .inl (.iload_n 3), 60), (60, .inl .iaload, 61), (61, .inl .ireturn, 62)])]
noncomputable def zc_Law_matchOfClass : zm_C := [(3, [(0, .inl (.aload_n 2), 1), (1, .inl (.iconst 0), 2), (2, .inl (.aload_n 0), 3), (3, .inl (.iload_n 1), 4)]),
  (9, [(4, .inr (5, 89, 199, 1), 7), (7, .inl .i2l, 8), (8, .inl .lastore, 9), (9, .inl (.goto 6), 12)]),
  (16, [(15, .inl (.iconst 0), 16), (16, .inl .ireturn, 17)])]
noncomputable def zc_Mod_isMatched : zm_C := [(6, [(0, .inl (.iconst 0), 1), (1, .inl (.istore 4), 3), (3, .inl (.iconst 0), 4), (4, .inl (.istore 5), 6), (6, .inl (.iload 5), 8)]),
  (17, [(8, .inl (.iload_n 2), 9), (9, .inl (.if_icmp .ge 29), 12), (12, .inl (.iload 4), 14), (14, .inl (.ifCond .ne 11), 17), (17, .inl (.aload_n 1), 18)]),
  (25, [(18, .inl (.iload 5), 20), (20, .inl .iaload, 21), (21, .inl (.iload_n 3), 22), (22, .inl (.if_icmp .ne 7), 25), (25, .inl (.iconst 1), 26)]),
  (35, [(26, .inl (.goto 4), 29), (29, .inl (.iconst 0), 30), (30, .inl (.istore 4), 32), (32, .inl (.iinc 5 1), 35), (35, .inl (.goto (-29)), 38)]),
  (40, [(38, .inl (.iload 4), 40), (40, .inl .ireturn, 41)])]
noncomputable def zc_Mod_bits : zm_C := [(4, [(0, .inl (.iconst 0), 1), (1, .inl (.istore_n 1), 2), (2, .inl (.iconst 0), 3), (3, .inl (.istore_n 2), 4), (4, .inl (.iload_n 2), 5)]),
  (12, [(5, .inl (.bipush 26), 7), (7, .inl (.if_icmp .ge 17), 10), (10, .inl (.iload_n 1), 11), (11, .inl (.iload_n 0), 12), (12, .inl (.iload_n 2), 13)]),
  (17, [(13, .inl .ishr, 14), (14, .inl (.iconst 1), 15), (15, .inl .iand, 16), (16, .inl .iadd, 17), (17, .inl (.istore_n 1), 18)]),
  (25, [(18, .inl (.iinc 2 1), 21), (21, .inl (.goto (-17)), 24), (24, .inl (.iload_n 1), 25), (25, .inl .ireturn, 26)])]
noncomputable def zc_Mod_likest : zm_C := [(12, [(0, .inl (.aload_n 0), 1), (1, .inr (0, 16, 7, 2), 4), (4, .inl (.iload_n 1), 5), (5, .inr (3, 226, 119, 2), 8), (8, .inl (.istore_n 3), 9), (9, .inl (.iconst (-1)), 10), (10, .inl (.istore 4), 12), (12, .inl (.iconst 0), 13)]),
  (26, [(13, .inl (.istore 5), 15), (15, .inl (.iconst 0), 16), (16, .inl (.istore 6), 18), (18, .inl (.iload 6), 20), (20, .inl (.bipush 12), 22), (22, .inl (.if_icmp .ge 86), 25), (25, .inl (.aload_n 2), 26), (26, .inl (.iload 6), 28)]),
  (43, [(28, .inr (3, 215, 107, 2), 31), (31, .inl (.istore 7), 33), (33, .inl (.iload 7), 35), (35, .inl (.ifCond .lt 18), 38), (38, .inl (.aload_n 0), 39), (39, .inl (.aload_n 0), 40), (40, .inr (0, 43, 7, 14), 43), (43, .inl (.bipush 12), 45)]),
  (60, [(45, .inl (.iload 7), 47), (47, .inr (5, 232, 201, 3), 50), (50, .inl (.ifCond .eq 7), 53), (53, .inl (.iconst 0), 54), (54, .inl (.goto 14), 57), (57, .inl (.aload_n 2), 58), (58, .inl (.iload 7), 60), (60, .inr (3, 226, 119, 2), 63)]),
  (77, [(63, .inl (.iload_n 3), 64), (64, .inl .iand, 65), (65, .inr (3, 235, 202, 1), 68), (68, .inl (.istore 8), 70), (70, .inl (.iload 8), 72), (72, .inl (.iload 5), 74), (74, .inl (.if_icmp .le 8), 77), (77, .inl (.iload 7), 79)]),
  (95, [(79, .inl (.goto 5), 82), (82, .inl (.iload 4), 84), (84, .inl (.istore 4), 86), (86, .inl (.iload 8), 88), (88, .inl (.iload 5), 90), (90, .inl (.if_icmp .le 8), 93), (93, .inl (.iload 8), 95), (95, .inl (.goto 5), 98)]),
  (112, [(98, .inl (.iload 5), 100), (100, .inl (.istore 5), 102), (102, .inl (.iinc 6 1), 105), (105, .inl (.goto (-87)), 108), (108, .inl (.iconst 2), 109), (109, .inl (.iload 5), 111), (111, .inl .imul, 112), (112, .inl (.iload_n 3), 113)]),
  (125, [(113, .inr (3, 235, 202, 1), 116), (116, .inl (.if_icmp .lt 8), 119), (119, .inl (.iload 4), 121), (121, .inl (.goto 4), 124), (124, .inl (.iconst (-1)), 125), (125, .inl .ireturn, 126)])]
noncomputable def zc_Mod_lonely : zm_C := [(6, [(0, .inl (.iconst (-1)), 1), (1, .inl (.istore_n 3), 2), (2, .inl (.iconst 0), 3), (3, .inl (.istore 4), 5), (5, .inl (.iconst 0), 6), (6, .inl (.istore 5), 8)]),
  (18, [(8, .inl (.iload 5), 10), (10, .inl (.bipush 40), 12), (12, .inl (.if_icmp .ge 41), 15), (15, .inl (.aload_n 1), 16), (16, .inl (.bipush 24), 18), (18, .inl (.iload 5), 20)]),
  (27, [(20, .inl .iadd, 21), (21, .inl .iaload, 22), (22, .inl (.iload_n 2), 23), (23, .inl (.if_icmp .ne 24), 26), (26, .inl (.aload_n 0), 27), (27, .inl (.aload_n 0), 28)]),
  (41, [(28, .inr (0, 46, 7, 15), 31), (31, .inl (.bipush 40), 33), (33, .inl (.iload 5), 35), (35, .inr (5, 232, 201, 3), 38), (38, .inl (.ifCond .ne 9), 41), (41, .inl (.iload 5), 43)]),
  (55, [(43, .inl (.istore_n 3), 44), (44, .inl (.iinc 4 1), 47), (47, .inl (.iinc 5 1), 50), (50, .inl (.goto (-42)), 53), (53, .inl (.iload 4), 55), (55, .inl (.iconst 1), 56)]),
  (64, [(56, .inl (.if_icmp .ne 7), 59), (59, .inl (.iload_n 3), 60), (60, .inl (.goto 4), 63), (63, .inl (.iconst (-1)), 64), (64, .inl .ireturn, 65)])]
noncomputable def zc_Mod_matches : zm_C := [(18, [(0, .inl (.iconst 0), 1), (1, .inl (.istore_n 2), 2), (2, .inl (.iload_n 2), 3), (3, .inl (.bipush 12), 5), (5, .inl (.if_icmp .ge 25), 8), (8, .inl (.aload_n 0), 9), (9, .inr (0, 43, 7, 14), 12), (12, .inl (.iload_n 2), 13), (13, .inl (.aload_n 1), 14), (14, .inl (.aload_n 0), 15), (15, .inr (0, 16, 7, 2), 18), (18, .inl (.iload_n 2), 19)]),
  (39, [(19, .inl .iaload, 20), (20, .inr (3, 68, 46, 2), 23), (23, .inl .iastore, 24), (24, .inl (.iinc 2 1), 27), (27, .inl (.goto (-25)), 30), (30, .inl (.iconst 0), 31), (31, .inl (.istore_n 2), 32), (32, .inl (.iload_n 2), 33), (33, .inl (.bipush 12), 35), (35, .inl (.if_icmp .ge 43), 38), (38, .inl (.aload_n 0), 39), (39, .inr (0, 16, 7, 2), 42)]),
  (61, [(42, .inl (.iload_n 2), 43), (43, .inr (3, 215, 107, 2), 46), (46, .inl (.istore_n 3), 47), (47, .inl (.iload_n 3), 48), (48, .inl (.ifCond .lt 24), 51), (51, .inl (.aload_n 0), 52), (52, .inr (0, 43, 7, 14), 55), (55, .inl (.iload_n 3), 56), (56, .inl .iaload, 57), (57, .inl (.ifCond .ge 15), 60), (60, .inl (.aload_n 0), 61), (61, .inr (0, 43, 7, 14), 64)]),
  (81, [(64, .inl (.iload_n 3), 65), (65, .inl (.aload_n 0), 66), (66, .inl (.iload_n 3), 67), (67, .inl (.aload_n 1), 68), (68, .inr (5, 238, 203, 2), 71), (71, .inl .iastore, 72), (72, .inl (.iinc 2 1), 75), (75, .inl (.goto (-43)), 78), (78, .inl (.iconst 0), 79), (79, .inl (.istore_n 2), 80), (80, .inl (.iload_n 2), 81), (81, .inl (.bipush 40), 83)]),
  (103, [(83, .inl (.if_icmp .ge 68), 86), (86, .inl (.aload_n 0), 87), (87, .inr (0, 16, 7, 2), 90), (90, .inl (.bipush 24), 92), (92, .inl (.iload_n 2), 93), (93, .inl .iadd, 94), (94, .inl .iaload, 95), (95, .inl (.ifCond .eq 7), 98), (98, .inl (.iconst 1), 99), (99, .inl (.goto 4), 102), (102, .inl (.iconst 0), 103), (103, .inl (.istore_n 3), 104)]),
  (124, [(104, .inl (.aload_n 0), 105), (105, .inr (0, 46, 7, 15), 108), (108, .inl (.iload_n 2), 109), (109, .inl (.iload_n 3), 110), (110, .inl (.ifCond .eq 33), 113), (113, .inl (.aload_n 1), 114), (114, .inl (.aload_n 0), 115), (115, .inr (0, 43, 7, 14), 118), (118, .inl (.aload_n 0), 119), (119, .inr (0, 16, 7, 2), 122), (122, .inl (.bipush 64), 124), (124, .inl (.iload_n 2), 125)]),
  (143, [(125, .inl .iadd, 126), (126, .inl .iaload, 127), (127, .inl .iaload, 128), (128, .inl (.aload_n 0), 129), (129, .inr (0, 16, 7, 2), 132), (132, .inl (.bipush 24), 134), (134, .inl (.iload_n 2), 135), (135, .inl .iadd, 136), (136, .inl .iaload, 137), (137, .inr (3, 72, 54, 3), 140), (140, .inl (.goto 4), 143), (143, .inl (.iconst (-1)), 144)]),
  (163, [(144, .inl .iastore, 145), (145, .inl (.iinc 2 1), 148), (148, .inl (.goto (-68)), 151), (151, .inl (.iconst 0), 152), (152, .inl (.istore_n 2), 153), (153, .inl (.iload_n 2), 154), (154, .inl (.bipush 12), 156), (156, .inl (.if_icmp .ge 70), 159), (159, .inl (.bipush 97), 161), (161, .inl (.istore_n 3), 162), (162, .inl (.iload_n 3), 163), (163, .inl (.bipush 122), 165)]),
  (188, [(165, .inl (.if_icmp .gt 55), 168), (168, .inl (.aload_n 0), 169), (169, .inr (0, 16, 7, 2), 172), (172, .inl (.aload_n 0), 173), (173, .inr (0, 16, 7, 2), 176), (176, .inl (.iload_n 2), 177), (177, .inr (3, 215, 107, 2), 180), (180, .inl (.iload_n 3), 181), (181, .inr (3, 72, 54, 3), 184), (184, .inl (.istore 4), 186), (186, .inl (.iload 4), 188), (188, .inl (.ifCond .lt 26), 191)]),
  (210, [(191, .inl (.aload_n 0), 192), (192, .inr (0, 46, 7, 15), 195), (195, .inl (.iload 4), 197), (197, .inl .iaload, 198), (198, .inl (.ifCond .ge 16), 201), (201, .inl (.aload_n 0), 202), (202, .inr (0, 46, 7, 15), 205), (205, .inl (.iload 4), 207), (207, .inl (.aload_n 0), 208), (208, .inl (.aload_n 1), 209), (209, .inl (.iload_n 3), 210), (210, .inr (5, 242, 204, 2), 213)]),
  (226, [(213, .inl .iastore, 214), (214, .inl (.iinc 3 1), 217), (217, .inl (.goto (-55)), 220), (220, .inl (.iinc 2 1), 223), (223, .inl (.goto (-70)), 226), (226, .inl .return_, 227)])]
noncomputable def zc_Mod_matchOfClass : zm_C := [(12, [(0, .inl (.aload_n 0), 1), (1, .inl (.iconst 0), 2), (2, .inr (1, 65, 7, 9), 5), (5, .inl (.iload_n 1), 6), (6, .inr (3, 194, 45, 1), 9), (9, .inl (.ifCond .ne 9), 12), (12, .inl (.aload_n 0), 13)]),
  (23, [(13, .inl (.iconst 1), 14), (14, .inr (5, 218, 108, 1), 17), (17, .inl .ireturn, 18), (18, .inl (.aload_n 0), 19), (19, .inr (0, 16, 7, 2), 22), (22, .inl (.iload_n 1), 23), (23, .inr (3, 68, 46, 2), 26)]),
  (34, [(26, .inl (.istore_n 2), 27), (27, .inl (.iload_n 2), 28), (28, .inl (.ifCond .ge 5), 31), (31, .inl (.iconst (-1)), 32), (32, .inl .ireturn, 33), (33, .inl (.aload_n 0), 34), (34, .inl (.aload_n 0), 35)]),
  (47, [(35, .inr (0, 13, 7, 1), 38), (38, .inr (5, 245, 205, 1), 41), (41, .inl (.aload_n 0), 42), (42, .inr (0, 43, 7, 14), 45), (45, .inl (.iload_n 2), 46), (46, .inl .iaload, 47), (47, .inl (.ifCond .ge 7), 50)]),
  (62, [(50, .inl (.iconst 0), 51), (51, .inl (.goto 14), 54), (54, .inl (.aload_n 0), 55), (55, .inr (0, 13, 7, 1), 58), (58, .inl (.aload_n 0), 59), (59, .inr (0, 43, 7, 14), 62), (62, .inl (.iload_n 2), 63)]),
  (65, [(63, .inl .iaload, 64), (64, .inl .iaload, 65), (65, .inl .ireturn, 66)])]
noncomputable def zc_RR_matchOfMember : zm_C := [(12, [(0, .inl (.iload_n 1), 1), (1, .inr (3, 91, 110, 1), 4), (4, .inl (.iload_n 2), 5), (5, .inr (3, 107, 124, 1), 8), (8, .inl (.aload_n 0), 9), (9, .inr (0, 10, 6, 0), 12), (12, .inl (.iload_n 1), 13)]),
  (23, [(13, .inl (.iload_n 2), 14), (14, .inr (5, 110, 28, 2), 17), (17, .inl (.istore_n 3), 18), (18, .inl (.iload_n 3), 19), (19, .inl (.ifCond .ge 5), 22), (22, .inl (.iconst (-1)), 23), (23, .inl .ireturn, 24)]),
  (36, [(24, .inl (.aload_n 0), 25), (25, .inr (0, 49, 6, 7), 28), (28, .inl (.aload_n 0), 29), (29, .inr (0, 10, 6, 0), 32), (32, .inl (.aload_n 0), 33), (33, .inr (0, 19, 6, 2), 36), (36, .inr (5, 176, 198, 2), 39)]),
  (50, [(39, .inl (.aload_n 0), 40), (40, .inr (0, 49, 6, 7), 43), (43, .inr (0, 186, 3, 2), 46), (46, .inl (.iload_n 3), 47), (47, .inl .iaload, 48), (48, .inl (.istore 4), 50), (50, .inl (.iload 4), 52)]),
  (66, [(52, .inl (.ifCond .ge 7), 55), (55, .inl (.iconst 0), 56), (56, .inl (.goto 27), 59), (59, .inl (.sipush 256), 62), (62, .inl (.aload_n 0), 63), (63, .inr (0, 19, 6, 2), 66), (66, .inl (.iload 4), 68)]),
  (81, [(68, .inr (5, 189, 133, 1), 71), (71, .inl .imul, 72), (72, .inl (.aload_n 0), 73), (73, .inr (0, 19, 6, 2), 76), (76, .inr (0, 192, 4, 3), 79), (79, .inl (.iload 4), 81), (81, .inl .iaload, 82)]),
  (83, [(82, .inl .iadd, 83), (83, .inl .ireturn, 84)])]
noncomputable def zc_Law_matchOfMember : zm_C := [(3, [(0, .inl (.aload_n 3), 1), (1, .inl (.iconst 0), 2), (2, .inl (.aload_n 0), 3), (3, .inl (.iload_n 1), 4)]),
  (9, [(4, .inl (.iload_n 2), 5), (5, .inr (5, 92, 207, 2), 8), (8, .inl .i2l, 9), (9, .inl .lastore, 10)]),
  (18, [(10, .inl (.goto 7), 13), (17, .inl (.iconst 0), 18), (18, .inl .ireturn, 19)])]
noncomputable def zc_Mod_matchOfMember : zm_C := [(13, [(0, .inl (.aload_n 0), 1), (1, .inl (.iconst 0), 2), (2, .inr (1, 65, 7, 9), 5), (5, .inl (.iload_n 1), 6), (6, .inr (3, 194, 45, 1), 9), (9, .inl (.ifCond .eq 10), 12), (12, .inl (.iload_n 2), 13), (13, .inr (3, 201, 79, 1), 16)]),
  (29, [(16, .inl (.ifCond .ne 9), 19), (19, .inl (.aload_n 0), 20), (20, .inl (.iconst 1), 21), (21, .inr (5, 218, 108, 1), 24), (24, .inl .ireturn, 25), (25, .inl (.aload_n 0), 26), (26, .inr (0, 16, 7, 2), 29), (29, .inl (.iload_n 1), 30)]),
  (41, [(30, .inl (.iload_n 2), 31), (31, .inr (3, 111, 61, 3), 34), (34, .inl (.istore_n 3), 35), (35, .inl (.iload_n 3), 36), (36, .inl (.ifCond .ge 5), 39), (39, .inl (.iconst (-1)), 40), (40, .inl .ireturn, 41), (41, .inl (.aload_n 0), 42)]),
  (55, [(42, .inl (.aload_n 0), 43), (43, .inr (0, 13, 7, 1), 46), (46, .inr (5, 245, 205, 1), 49), (49, .inl (.aload_n 0), 50), (50, .inr (0, 46, 7, 15), 53), (53, .inl (.iload_n 3), 54), (54, .inl .iaload, 55), (55, .inl (.istore 4), 57)]),
  (73, [(57, .inl (.iload 4), 59), (59, .inl (.ifCond .ge 7), 62), (62, .inl (.iconst 0), 63), (63, .inl (.goto 33), 66), (66, .inl (.sipush 256), 69), (69, .inl (.aload_n 0), 70), (70, .inr (0, 13, 7, 1), 73), (73, .inl (.aload_n 0), 74)]),
  (85, [(74, .inr (0, 13, 7, 1), 77), (77, .inl (.bipush 64), 79), (79, .inl (.iload 4), 81), (81, .inl .iadd, 82), (82, .inl .iaload, 83), (83, .inl .iaload, 84), (84, .inl .imul, 85), (85, .inl (.aload_n 0), 86)]),
  (96, [(86, .inr (0, 13, 7, 1), 89), (89, .inl (.bipush 24), 91), (91, .inl (.iload 4), 93), (93, .inl .iadd, 94), (94, .inl .iaload, 95), (95, .inl .iadd, 96), (96, .inl .ireturn, 97)])]
noncomputable def zc_RR_requireSelection : zm_C := [(8, [(0, .inl (.iconst 1), 1), (1, .inl (.aload_n 0), 2), (2, .inr (0, 28, 6, 4), 5), (5, .inr (0, 126, 1, 1), 8), (8, .inl .ishl, 9)]),
  (13, [(9, .inl (.iconst 1), 10), (10, .inl .isub, 11), (11, .inl (.istore_n 2), 12), (12, .inl (.iload_n 1), 13), (13, .inl (.iconst (-1)), 14)]),
  (20, [(14, .inl (.if_icmp .eq 22), 17), (17, .inl (.iload_n 1), 18), (18, .inl (.iload_n 2), 19), (19, .inl (.iconst (-1)), 20), (20, .inl .ixor, 21)]),
  (36, [(21, .inl .iand, 22), (22, .inl (.ifCond .eq 14), 25), (25, .inr (12, 227, 1, 10), 36), (36, .inl .return_, 37)])]
noncomputable def zc_Repl_classNameOf : zm_C := [(8, [(0, .inl (.aload_n 0), 1), (1, .inr (0, 12, 5, 0), 4), (4, .inl (.iload_n 1), 5), (5, .inr (5, 105, 15, 1), 8), (8, .inl (.istore_n 3), 9)]),
  (17, [(9, .inl (.iload_n 3), 10), (10, .inl (.ifCond .ge 7), 13), (13, .inl (.iconst (-1)), 14), (14, .inl (.goto 12), 17), (17, .inl (.aload_n 0), 18)]),
  (26, [(18, .inr (0, 21, 5, 1), 21), (21, .inr (0, 108, 3, 0), 24), (24, .inl (.iload_n 3), 25), (25, .inl .iaload, 26), (26, .inl (.istore 4), 28)]),
  (37, [(28, .inl (.iload 4), 30), (30, .inl (.ifCond .ge 7), 33), (33, .inl (.iconst 0), 34), (34, .inl (.goto 10), 37), (37, .inl (.aload_n 2), 38)]),
  (44, [(38, .inr (0, 111, 4, 0), 41), (41, .inl (.iload 4), 43), (43, .inl .iaload, 44), (44, .inl .ireturn, 45)])]
noncomputable def zc_Repl_memberPartner : zm_C := [(6, [(0, .inl (.aload_n 0), 1), (1, .inr (0, 12, 5, 0), 4), (4, .inl (.iload_n 1), 5), (5, .inl (.iload_n 2), 6), (6, .inr (5, 114, 28, 2), 9)]),
  (15, [(9, .inl (.istore_n 3), 10), (10, .inl (.iload_n 3), 11), (11, .inl (.ifCond .ge 7), 14), (14, .inl (.iconst (-1)), 15), (15, .inl (.goto 12), 18)]),
  (26, [(18, .inl (.aload_n 0), 19), (19, .inr (0, 21, 5, 1), 22), (22, .inr (0, 117, 3, 2), 25), (25, .inl (.iload_n 3), 26), (26, .inl .iaload, 27)]),
  (27, [(27, .inl .ireturn, 28)])]
noncomputable def zc_Repl_translateUser : zm_C := [(9, [(0, .inl (.aload_n 0), 1), (1, .inl (.aload_n 1), 2), (2, .inr (0, 72, 0, 1), 5), (5, .inl (.aload_n 1), 6), (6, .inr (0, 88, 0, 2), 9), (9, .inr (5, 91, 212, 2), 12)]),
  (19, [(12, .inl (.istore_n 3), 13), (13, .inl (.aload_n 0), 14), (14, .inr (0, 28, 5, 2), 17), (17, .inl (.aload_n 2), 18), (18, .inl (.iload_n 3), 19), (19, .inr (5, 95, 133, 1), 22)]),
  (33, [(22, .inr (1, 72, 0, 1), 25), (25, .inl (.aload_n 0), 26), (26, .inr (0, 28, 5, 2), 29), (29, .inl (.iload_n 3), 30), (30, .inl (.ifCond .ge 7), 33), (33, .inl (.iconst 0), 34)]),
  (43, [(34, .inl (.goto 9), 37), (37, .inl (.aload_n 2), 38), (38, .inr (0, 99, 4, 3), 41), (41, .inl (.iload_n 3), 42), (42, .inl .iaload, 43), (43, .inr (1, 88, 0, 2), 46)]),
  (55, [(46, .inl (.iload_n 3), 47), (47, .inl (.ifCond .lt 7), 50), (50, .inl (.iconst 1), 51), (51, .inl (.goto 4), 54), (54, .inl (.iconst 0), 55), (55, .inl .ireturn, 56)])]
noncomputable def zc_Repl_translateUsed : zm_C := [(9, [(0, .inl (.aload_n 0), 1), (1, .inl (.aload_n 1), 2), (2, .inr (0, 79, 0, 3), 5), (5, .inl (.aload_n 1), 6), (6, .inr (0, 102, 0, 4), 9), (9, .inr (5, 91, 212, 2), 12)]),
  (19, [(12, .inl (.istore_n 3), 13), (13, .inl (.aload_n 0), 14), (14, .inr (0, 28, 5, 2), 17), (17, .inl (.aload_n 2), 18), (18, .inl (.iload_n 3), 19), (19, .inr (5, 95, 133, 1), 22)]),
  (33, [(22, .inr (1, 79, 0, 3), 25), (25, .inl (.aload_n 0), 26), (26, .inr (0, 28, 5, 2), 29), (29, .inl (.iload_n 3), 30), (30, .inl (.ifCond .ge 7), 33), (33, .inl (.iconst 0), 34)]),
  (43, [(34, .inl (.goto 9), 37), (37, .inl (.aload_n 2), 38), (38, .inr (0, 99, 4, 3), 41), (41, .inl (.iload_n 3), 42), (42, .inl .iaload, 43), (43, .inr (1, 102, 0, 4), 46)]),
  (55, [(46, .inl (.iload_n 3), 47), (47, .inl (.ifCond .lt 7), 50), (50, .inl (.iconst 1), 51), (51, .inl (.goto 4), 54), (54, .inl (.iconst 0), 55), (55, .inl .ireturn, 56)])]
noncomputable def zc_Repl_translate : zm_C := [(62, [(0, .inl (.aload_n 0), 1), (1, .inr (0, 28, 5, 2), 4), (4, .inl (.aload_n 1), 5), (5, .inr (5, 66, 39, 1), 8), (8, .inl (.aload_n 1), 9), (9, .inr (0, 69, 0, 0), 12), (12, .inl (.tableswitch 195 0 7 #[48, 50, 50, 82, 50, 147, 147, 154]), 60), (60, .inl (.iconst 1), 61), (61, .inl .ireturn, 62), (62, .inl (.aload_n 0), 63)]),
  (82, [(63, .inr (0, 28, 5, 2), 66), (66, .inl (.aload_n 0), 67), (67, .inl (.aload_n 1), 68), (68, .inr (0, 72, 0, 1), 71), (71, .inl (.aload_n 2), 72), (72, .inr (5, 75, 211, 2), 75), (75, .inr (1, 72, 0, 1), 78), (78, .inl (.aload_n 0), 79), (79, .inr (0, 28, 5, 2), 82), (82, .inr (0, 72, 0, 1), 85)]),
  (100, [(85, .inl (.ifCond .eq 7), 88), (88, .inl (.iconst 1), 89), (89, .inl (.goto 4), 92), (92, .inl (.iconst 0), 93), (93, .inl .ireturn, 94), (94, .inl (.aload_n 0), 95), (95, .inr (0, 28, 5, 2), 98), (98, .inl (.aload_n 0), 99), (99, .inl (.aload_n 1), 100), (100, .inr (0, 72, 0, 1), 103)]),
  (120, [(103, .inl (.aload_n 2), 104), (104, .inr (5, 75, 211, 2), 107), (107, .inr (1, 72, 0, 1), 110), (110, .inl (.aload_n 0), 111), (111, .inr (0, 28, 5, 2), 114), (114, .inl (.aload_n 0), 115), (115, .inl (.aload_n 1), 116), (116, .inr (0, 79, 0, 3), 119), (119, .inl (.aload_n 2), 120), (120, .inr (5, 75, 211, 2), 123)]),
  (144, [(123, .inr (1, 79, 0, 3), 126), (126, .inl (.aload_n 0), 127), (127, .inr (0, 28, 5, 2), 130), (130, .inr (0, 72, 0, 1), 133), (133, .inl (.ifCond .eq 24), 136), (136, .inl (.aload_n 1), 137), (137, .inr (0, 79, 0, 3), 140), (140, .inl (.ifCond .eq 13), 143), (143, .inl (.aload_n 0), 144), (144, .inr (0, 28, 5, 2), 147)]),
  (162, [(147, .inr (0, 79, 0, 3), 150), (150, .inl (.ifCond .eq 7), 153), (153, .inl (.iconst 1), 154), (154, .inl (.goto 4), 157), (157, .inl (.iconst 0), 158), (158, .inl .ireturn, 159), (159, .inl (.aload_n 0), 160), (160, .inl (.aload_n 1), 161), (161, .inl (.aload_n 2), 162), (162, .inr (5, 82, 213, 2), 165)]),
  (182, [(165, .inl .ireturn, 166), (166, .inl (.aload_n 0), 167), (167, .inr (0, 28, 5, 2), 170), (170, .inl (.aload_n 0), 171), (171, .inl (.aload_n 1), 172), (172, .inr (0, 79, 0, 3), 175), (175, .inl (.aload_n 2), 176), (176, .inr (5, 75, 211, 2), 179), (179, .inr (1, 79, 0, 3), 182), (182, .inl (.aload_n 0), 183)]),
  (202, [(183, .inr (0, 28, 5, 2), 186), (186, .inr (0, 79, 0, 3), 189), (189, .inl (.ifCond .eq 16), 192), (192, .inl (.aload_n 0), 193), (193, .inl (.aload_n 1), 194), (194, .inl (.aload_n 2), 195), (195, .inr (5, 82, 213, 2), 198), (198, .inl (.ifCond .eq 7), 201), (201, .inl (.iconst 1), 202), (202, .inl (.goto 4), 205)]),
  (218, [(205, .inl (.iconst 0), 206), (206, .inl .ireturn, 207), (207, .inl (.aload_n 0), 208), (208, .inl (.aload_n 1), 209), (209, .inl (.aload_n 2), 210), (210, .inr (5, 82, 213, 2), 213), (213, .inl (.ifCond .eq 16), 216), (216, .inl (.aload_n 0), 217), (217, .inl (.aload_n 1), 218), (218, .inl (.aload_n 2), 219)]),
  (230, [(219, .inr (5, 85, 214, 2), 222), (222, .inl (.ifCond .eq 7), 225), (225, .inl (.iconst 1), 226), (226, .inl (.goto 4), 229), (229, .inl (.iconst 0), 230), (230, .inl .ireturn, 231)])]
noncomputable def zc_Repl_countsAsMade : zm_C := [(57, [(0, .inl (.aload_n 0), 1), (1, .inr (0, 28, 5, 2), 4), (4, .inr (0, 69, 0, 0), 7), (7, .inl (.tableswitch 106 0 8 #[49, 106, 60, 106, 49, 106, 83, 49, 49]), 56), (56, .inl (.iload_n 1), 57), (57, .inl (.iconst 1), 58)]),
  (67, [(58, .inl (.if_icmp .ne 7), 61), (61, .inl (.iconst 1), 62), (62, .inl (.goto 4), 65), (65, .inl (.iconst 0), 66), (66, .inl .ireturn, 67), (67, .inl (.aload_n 0), 68)]),
  (81, [(68, .inr (0, 28, 5, 2), 71), (71, .inr (0, 72, 0, 1), 74), (74, .inl (.aload_n 0), 75), (75, .inr (0, 28, 5, 2), 78), (78, .inr (0, 79, 0, 3), 81), (81, .inl (.if_icmp .ne 7), 84)]),
  (91, [(84, .inl (.iconst 1), 85), (85, .inl (.goto 4), 88), (88, .inl (.iconst 0), 89), (89, .inl .ireturn, 90), (90, .inl (.aload_n 0), 91), (91, .inr (0, 28, 5, 2), 94)]),
  (107, [(94, .inr (0, 88, 0, 2), 97), (97, .inl (.aload_n 0), 98), (98, .inr (0, 28, 5, 2), 101), (101, .inr (0, 102, 0, 4), 104), (104, .inl (.if_icmp .ne 7), 107), (107, .inl (.iconst 1), 108)]),
  (114, [(108, .inl (.goto 4), 111), (111, .inl (.iconst 0), 112), (112, .inl .ireturn, 113), (113, .inl (.iconst 0), 114), (114, .inl .ireturn, 115)])]
noncomputable def zc_Repl_isTaken : zm_C := [(15, [(0, .inl (.aload_n 0), 1), (1, .inr (0, 28, 5, 2), 4), (4, .inr (0, 69, 0, 0), 7), (7, .inl (.ifCond .ne 37), 10), (10, .inl (.aload_n 1), 11), (11, .inl (.aload_n 0), 12), (12, .inr (0, 28, 5, 2), 15), (15, .inr (0, 72, 0, 1), 18)]),
  (33, [(18, .inr (5, 105, 15, 1), 21), (21, .inl (.istore_n 2), 22), (22, .inl (.iload_n 2), 23), (23, .inl (.ifCond .lt 19), 26), (26, .inl (.aload_n 0), 27), (27, .inr (0, 21, 5, 1), 30), (30, .inr (0, 139, 3, 1), 33), (33, .inl (.iload_n 2), 34)]),
  (45, [(34, .inl .iaload, 35), (35, .inl (.ifCond .lt 7), 38), (38, .inl (.iconst 1), 39), (39, .inl (.goto 4), 42), (42, .inl (.iconst 0), 43), (43, .inl .ireturn, 44), (44, .inl (.aload_n 0), 45), (45, .inr (0, 28, 5, 2), 48)]),
  (63, [(48, .inr (0, 69, 0, 0), 51), (51, .inl (.iconst 4), 52), (52, .inl (.if_icmp .ne 44), 55), (55, .inl (.aload_n 1), 56), (56, .inl (.aload_n 0), 57), (57, .inr (0, 28, 5, 2), 60), (60, .inr (0, 72, 0, 1), 63), (63, .inl (.aload_n 0), 64)]),
  (79, [(64, .inr (0, 28, 5, 2), 67), (67, .inr (0, 88, 0, 2), 70), (70, .inr (5, 114, 28, 2), 73), (73, .inl (.istore_n 2), 74), (74, .inl (.iload_n 2), 75), (75, .inl (.ifCond .lt 19), 78), (78, .inl (.aload_n 0), 79), (79, .inr (0, 21, 5, 1), 82)]),
  (95, [(82, .inr (0, 142, 3, 3), 85), (85, .inl (.iload_n 2), 86), (86, .inl .iaload, 87), (87, .inl (.ifCond .lt 7), 90), (90, .inl (.iconst 1), 91), (91, .inl (.goto 4), 94), (94, .inl (.iconst 0), 95), (95, .inl .ireturn, 96)]),
  (97, [(96, .inl (.iconst 0), 97), (97, .inl .ireturn, 98)])]
noncomputable def zc_Repl_isMendable : zm_C := [(11, [(0, .inl (.aload_n 0), 1), (1, .inr (0, 28, 5, 2), 4), (4, .inr (0, 69, 0, 0), 7), (7, .inl (.iconst 2), 8), (8, .inl (.if_icmp .ne 8), 11), (11, .inl (.iload_n 1), 12)]),
  (23, [(12, .inl (.iconst 1), 13), (13, .inl (.if_icmp .eq 31), 16), (16, .inl (.aload_n 0), 17), (17, .inr (0, 28, 5, 2), 20), (20, .inr (0, 69, 0, 0), 23), (23, .inl (.iconst 4), 24)]),
  (36, [(24, .inl (.if_icmp .eq 15), 27), (27, .inl (.aload_n 0), 28), (28, .inr (0, 28, 5, 2), 31), (31, .inr (0, 69, 0, 0), 34), (34, .inl (.bipush 6), 36), (36, .inl (.if_icmp .ne 12), 39)]),
  (48, [(39, .inl (.iload_n 1), 40), (40, .inl (.iconst 5), 41), (41, .inl (.if_icmp .ne 7), 44), (44, .inl (.iconst 1), 45), (45, .inl (.goto 4), 48), (48, .inl (.iconst 0), 49)]),
  (49, [(49, .inl .ireturn, 50)])]
noncomputable def zc_Change_advanceNewName : zm_C := [(13, [(0, .inl (.aload_n 0), 1), (1, .inr (0, 9, 0, 0), 4), (4, .inl (.iconst 2), 5), (5, .inl (.if_icmp .ne 30), 8), (8, .inl (.aload_n 0), 9), (9, .inl (.aload_n 0), 10), (10, .inr (0, 21, 0, 3), 13), (13, .inl (.bipush 90), 15)]),
  (29, [(15, .inl (.if_icmp .ne 8), 18), (18, .inl (.bipush 65), 20), (20, .inl (.goto 9), 23), (23, .inl (.aload_n 0), 24), (24, .inr (0, 21, 0, 3), 27), (27, .inl (.iconst 1), 28), (28, .inl .iadd, 29), (29, .inr (1, 21, 0, 3), 32)]),
  (45, [(32, .inl (.goto 71), 35), (35, .inl (.aload_n 0), 36), (36, .inr (0, 9, 0, 0), 39), (39, .inl (.iconst 4), 40), (40, .inl (.if_icmp .ne 30), 43), (43, .inl (.aload_n 0), 44), (44, .inl (.aload_n 0), 45), (45, .inr (0, 18, 0, 2), 48)]),
  (63, [(48, .inl (.bipush 122), 50), (50, .inl (.if_icmp .ne 8), 53), (53, .inl (.bipush 97), 55), (55, .inl (.goto 9), 58), (58, .inl (.aload_n 0), 59), (59, .inr (0, 18, 0, 2), 62), (62, .inl (.iconst 1), 63), (63, .inl .iadd, 64)]),
  (80, [(64, .inr (1, 18, 0, 2), 67), (67, .inl (.goto 36), 70), (70, .inl (.aload_n 0), 71), (71, .inr (0, 9, 0, 0), 74), (74, .inl (.bipush 6), 76), (76, .inl (.if_icmp .ne 27), 79), (79, .inl (.aload_n 0), 80), (80, .inl (.aload_n 0), 81)]),
  (98, [(81, .inr (0, 24, 0, 4), 84), (84, .inl (.bipush 122), 86), (86, .inl (.if_icmp .ne 8), 89), (89, .inl (.bipush 97), 91), (91, .inl (.goto 9), 94), (94, .inl (.aload_n 0), 95), (95, .inr (0, 24, 0, 4), 98), (98, .inl (.iconst 1), 99)]),
  (103, [(99, .inl .iadd, 100), (100, .inr (1, 24, 0, 4), 103), (103, .inl .return_, 104)])]
noncomputable def zc_Repl_tryOtherNames : zm_C := [(8, [(0, .inl (.iconst 0), 1), (1, .inl (.istore_n 3), 2), (2, .inl (.iload_n 3), 3), (3, .inl (.bipush 25), 5), (5, .inl (.if_icmp .ge 49), 8), (8, .inl (.aload_n 0), 9)]),
  (20, [(9, .inr (0, 28, 5, 2), 12), (12, .inr (5, 145, 219, 0), 15), (15, .inl (.aload_n 1), 16), (16, .inl (.aload_n 0), 17), (17, .inr (0, 28, 5, 2), 20), (20, .inr (5, 120, 38, 1), 23)]),
  (33, [(23, .inl (.istore 4), 25), (25, .inl (.iload 4), 27), (27, .inl (.ifCond .ne 6), 30), (30, .inl (.bipush 100), 32), (32, .inl .ireturn, 33), (33, .inl (.iload 4), 35)]),
  (45, [(35, .inl (.iconst 1), 36), (36, .inl (.if_icmp .eq 12), 39), (39, .inl (.iload 4), 41), (41, .inl (.iconst 5), 42), (42, .inl (.if_icmp .eq 6), 45), (45, .inl (.iload 4), 47)]),
  (55, [(47, .inl .ireturn, 48), (48, .inl (.iinc 3 1), 51), (51, .inl (.goto (-49)), 54), (54, .inl (.iload_n 2), 55), (55, .inl .ireturn, 56)])]
noncomputable def zc_Repl_tryPlan : zm_C := [(9, [(0, .inl (.aload_n 1), 1), (1, .inl (.aload_n 0), 2), (2, .inr (0, 28, 5, 2), 5), (5, .inr (5, 120, 38, 1), 8), (8, .inl (.istore_n 3), 9), (9, .inl (.iload_n 3), 10)]),
  (17, [(10, .inl (.ifCond .ne 5), 13), (13, .inl (.iconst 0), 14), (14, .inl .ireturn, 15), (15, .inl (.aload_n 0), 16), (16, .inl (.iload_n 3), 17), (17, .inr (5, 124, 216, 1), 20)]),
  (31, [(20, .inl (.ifCond .eq 18), 23), (23, .inl (.aload_n 0), 24), (24, .inl (.aload_n 1), 25), (25, .inr (5, 128, 217, 1), 28), (28, .inl (.ifCond .eq 8), 31), (31, .inl (.bipush 6), 33)]),
  (42, [(33, .inl (.goto 4), 36), (36, .inl (.iconst 0), 37), (37, .inl .ireturn, 38), (38, .inl (.iload_n 2), 39), (39, .inl (.ifCond .eq 20), 42), (42, .inl (.aload_n 0), 43)]),
  (52, [(43, .inl (.iload_n 3), 44), (44, .inr (5, 132, 218, 1), 47), (47, .inl (.ifCond .eq 12), 50), (50, .inl (.aload_n 0), 51), (51, .inl (.aload_n 1), 52), (52, .inl (.iload_n 3), 53)]),
  (60, [(53, .inr (5, 135, 220, 2), 56), (56, .inl (.goto 4), 59), (59, .inl (.iload_n 3), 60), (60, .inl .ireturn, 61)])]
noncomputable def zc_Match_partClass : zm_C := [(7, [(0, .inl (.iload_n 1), 1), (1, .inl (.ifCond .lt 37), 4), (4, .inl (.iload_n 1), 5), (5, .inl (.bipush 12), 7), (7, .inl (.if_icmp .ge 31), 10)]),
  (16, [(10, .inl (.aload_n 0), 11), (11, .inr (0, 9, 3, 0), 14), (14, .inl (.iload_n 1), 15), (15, .inl .iaload, 16), (16, .inl (.ifCond .lt 15), 19)]),
  (27, [(19, .inl (.aload_n 0), 20), (20, .inr (0, 15, 3, 1), 23), (23, .inl (.aload_n 0), 24), (24, .inr (0, 9, 3, 0), 27), (27, .inl (.iload_n 1), 28)]),
  (32, [(28, .inl .iaload, 29), (29, .inl (.iconst (-1)), 30), (30, .inl .iastore, 31), (31, .inl (.aload_n 0), 32), (32, .inr (0, 9, 3, 0), 35)]),
  (38, [(35, .inl (.iload_n 1), 36), (36, .inl (.iconst (-1)), 37), (37, .inl .iastore, 38), (38, .inl .return_, 39)])]
noncomputable def zc_Match_partMember : zm_C := [(7, [(0, .inl (.iload_n 1), 1), (1, .inl (.ifCond .lt 37), 4), (4, .inl (.iload_n 1), 5), (5, .inl (.bipush 40), 7), (7, .inl (.if_icmp .ge 31), 10)]),
  (16, [(10, .inl (.aload_n 0), 11), (11, .inr (0, 18, 3, 2), 14), (14, .inl (.iload_n 1), 15), (15, .inl .iaload, 16), (16, .inl (.ifCond .lt 15), 19)]),
  (27, [(19, .inl (.aload_n 0), 20), (20, .inr (0, 21, 3, 3), 23), (23, .inl (.aload_n 0), 24), (24, .inr (0, 18, 3, 2), 27), (27, .inl (.iload_n 1), 28)]),
  (32, [(28, .inl .iaload, 29), (29, .inl (.iconst (-1)), 30), (30, .inl .iastore, 31), (31, .inl (.aload_n 0), 32), (32, .inr (0, 18, 3, 2), 35)]),
  (38, [(35, .inl (.iload_n 1), 36), (36, .inl (.iconst (-1)), 37), (37, .inl .iastore, 38), (38, .inl .return_, 39)])]
noncomputable def zc_Repl_follow : zm_C := [(16, [(0, .inl (.aload_n 1), 1), (1, .inr (0, 69, 0, 0), 4), (4, .inl (.iconst 1), 5), (5, .inl (.if_icmp .ne 24), 8), (8, .inl (.aload_n 0), 9), (9, .inr (0, 21, 5, 1), 12), (12, .inl (.aload_n 0), 13), (13, .inr (0, 12, 5, 0), 16), (16, .inl (.aload_n 1), 17)]),
  (37, [(17, .inr (0, 72, 0, 1), 20), (20, .inr (5, 105, 15, 1), 23), (23, .inr (5, 148, 222, 1), 26), (26, .inl (.goto 33), 29), (29, .inl (.aload_n 1), 30), (30, .inr (0, 69, 0, 0), 33), (33, .inl (.iconst 5), 34), (34, .inl (.if_icmp .ne 25), 37), (37, .inl (.aload_n 0), 38)]),
  (56, [(38, .inr (0, 21, 5, 1), 41), (41, .inl (.aload_n 0), 42), (42, .inr (0, 12, 5, 0), 45), (45, .inl (.aload_n 1), 46), (46, .inr (0, 72, 0, 1), 49), (49, .inl (.aload_n 1), 50), (50, .inr (0, 88, 0, 2), 53), (53, .inr (5, 114, 28, 2), 56), (56, .inr (5, 152, 223, 1), 59)]),
  (73, [(59, .inl (.aload_n 0), 60), (60, .inr (0, 12, 5, 0), 63), (63, .inl (.aload_n 1), 64), (64, .inr (5, 120, 38, 1), 67), (67, .inl .pop, 68), (68, .inl (.iload_n 3), 69), (69, .inl (.ifCond .eq 42), 72), (72, .inl (.aload_n 1), 73), (73, .inr (0, 69, 0, 0), 76)]),
  (94, [(76, .inl (.ifCond .ne 35), 79), (79, .inl (.aload_n 0), 80), (80, .inr (0, 21, 5, 1), 83), (83, .inl (.aload_n 0), 84), (84, .inr (0, 12, 5, 0), 87), (87, .inl (.aload_n 1), 88), (88, .inr (0, 72, 0, 1), 91), (91, .inr (5, 105, 15, 1), 94), (94, .inl (.aload_n 2), 95)]),
  (115, [(95, .inl (.aload_n 0), 96), (96, .inr (0, 28, 5, 2), 99), (99, .inr (0, 72, 0, 1), 102), (102, .inr (5, 105, 15, 1), 105), (105, .inr (5, 155, 189, 2), 108), (108, .inl (.goto 55), 111), (111, .inl (.iload_n 3), 112), (112, .inl (.ifCond .eq 51), 115), (115, .inl (.aload_n 1), 116)]),
  (132, [(116, .inr (0, 69, 0, 0), 119), (119, .inl (.iconst 4), 120), (120, .inl (.if_icmp .ne 43), 123), (123, .inl (.aload_n 0), 124), (124, .inr (0, 21, 5, 1), 127), (127, .inl (.aload_n 0), 128), (128, .inr (0, 12, 5, 0), 131), (131, .inl (.aload_n 1), 132), (132, .inr (0, 72, 0, 1), 135)]),
  (151, [(135, .inl (.aload_n 1), 136), (136, .inr (0, 88, 0, 2), 139), (139, .inr (5, 114, 28, 2), 142), (142, .inl (.aload_n 2), 143), (143, .inl (.aload_n 0), 144), (144, .inr (0, 28, 5, 2), 147), (147, .inr (0, 72, 0, 1), 150), (150, .inl (.aload_n 0), 151), (151, .inr (0, 28, 5, 2), 154)]),
  (163, [(154, .inr (0, 88, 0, 2), 157), (157, .inr (5, 114, 28, 2), 160), (160, .inr (5, 159, 194, 2), 163), (163, .inl .return_, 164)])]
noncomputable def zc_Repl_run : zm_C := [(15, [(0, .inl (.iconst 0), 1), (1, .inl (.istore 6), 3), (3, .inl (.aload_n 0), 4), (4, .inr (0, 12, 5, 0), 7), (7, .inl (.aload_n 1), 8), (8, .inr (5, 36, 128, 1), 11), (11, .inl (.aload_n 0), 12), (12, .inr (0, 21, 5, 1), 15), (15, .inl (.aload_n 1), 16)]),
  (32, [(16, .inl (.aload_n 2), 17), (17, .inr (5, 40, 198, 2), 20), (20, .inl (.iconst 0), 21), (21, .inl (.istore 7), 23), (23, .inl (.iload 7), 25), (25, .inl (.aload_n 3), 26), (26, .inr (0, 44, 1, 1), 29), (29, .inl (.if_icmp .ge 112), 32), (32, .inl (.iload 7), 34)]),
  (50, [(34, .inl (.bipush 30), 36), (36, .inl (.if_icmp .ge 105), 39), (39, .inl (.aload_n 3), 40), (40, .inl (.iload 7), 42), (42, .inr (5, 50, 146, 1), 45), (45, .inl (.astore 8), 47), (47, .inl (.iconst (-1)), 48), (48, .inl (.istore 9), 50), (50, .inl (.iload 4), 52)]),
  (64, [(52, .inl (.iload 7), 54), (54, .inl .ishr, 55), (55, .inl (.iconst 1), 56), (56, .inl .iand, 57), (57, .inl (.ifCond .eq 26), 60), (60, .inl (.aload_n 0), 61), (61, .inl (.aload 8), 63), (63, .inl (.aload_n 2), 64), (64, .inr (5, 54, 215, 2), 67)]),
  (83, [(67, .inl (.ifCond .eq 13), 70), (70, .inl (.aload_n 0), 71), (71, .inl (.aload_n 2), 72), (72, .inl (.iload 5), 74), (74, .inr (5, 58, 221, 2), 77), (77, .inl (.goto 4), 80), (80, .inl (.iconst 2), 81), (81, .inl (.istore 9), 83), (83, .inl (.iload 9), 85)]),
  (102, [(85, .inl (.ifCond .eq 10), 88), (88, .inl (.iload 9), 90), (90, .inl (.bipush 100), 92), (92, .inl (.if_icmp .ne 7), 95), (95, .inl (.iconst 1), 96), (96, .inl (.goto 4), 99), (99, .inl (.iconst 0), 100), (100, .inl (.istore 10), 102), (102, .inl (.aload_n 0), 103)]),
  (119, [(103, .inl (.aload 8), 105), (105, .inl (.aload_n 2), 106), (106, .inl (.iload 10), 108), (108, .inr (5, 62, 224, 3), 111), (111, .inl (.iload 6), 113), (113, .inl (.iload 10), 115), (115, .inl (.ifCond .eq 7), 118), (118, .inl (.iconst 1), 119), (119, .inl (.goto 4), 122)]),
  (135, [(122, .inl (.iconst 0), 123), (123, .inl .iadd, 124), (124, .inl (.istore 6), 126), (126, .inl (.aload_n 0), 127), (127, .inr (0, 32, 5, 3), 130), (130, .inl (.iload 7), 132), (132, .inl (.iload 9), 134), (134, .inl .iastore, 135), (135, .inl (.iinc 7 1), 138)]),
  (143, [(138, .inl (.goto (-115)), 141), (141, .inl (.iload 6), 143), (143, .inl .ireturn, 144)])]
noncomputable def zc_RR_replay : zm_C := [(9, [(0, .inl (.aload_n 0), 1), (1, .inl (.iload_n 1), 2), (2, .inr (5, 195, 210, 1), 5), (5, .inl (.aload_n 0), 6), (6, .inr (0, 56, 6, 8), 9), (9, .inl (.aload_n 0), 10)]),
  (21, [(10, .inr (0, 10, 6, 0), 13), (13, .inl (.aload_n 0), 14), (14, .inr (0, 19, 6, 2), 17), (17, .inl (.aload_n 0), 18), (18, .inr (0, 28, 6, 4), 21), (21, .inl (.iload_n 1), 22)]),
  (29, [(22, .inl (.iload_n 2), 23), (23, .inr (5, 198, 225, 5), 26), (26, .inl (.istore_n 3), 27), (27, .inl (.aload_n 0), 28), (28, .inl (.aload_n 0), 29), (29, .inr (0, 28, 6, 4), 32)]),
  (45, [(32, .inr (0, 126, 1, 1), 35), (35, .inr (1, 64, 6, 10), 38), (38, .inl (.aload_n 0), 39), (39, .inr (0, 56, 6, 8), 42), (42, .inr (0, 202, 5, 3), 45), (45, .inl (.iconst 0), 46)]),
  (56, [(46, .inl (.aload_n 0), 47), (47, .inr (0, 60, 6, 9), 50), (50, .inl (.iconst 0), 51), (51, .inl (.bipush 30), 53), (53, .inr (11, 203, 0, 0), 56), (56, .inl (.iload_n 3), 57)]),
  (57, [(57, .inl .ireturn, 58)])]
noncomputable def zc_Law_replay : zm_C := [(3, [(0, .inl (.aload_n 3), 1), (1, .inl (.iconst 0), 2), (2, .inl (.aload_n 0), 3), (3, .inl (.iload_n 1), 4)]),
  (9, [(4, .inl (.iload_n 2), 5), (5, .inr (5, 95, 226, 2), 8), (8, .inl .i2l, 9), (9, .inl .lastore, 10)]),
  (18, [(10, .inl (.goto 7), 13), (17, .inl (.iconst 0), 18), (18, .inl .ireturn, 19)])]
noncomputable def zc_Mod_isSelection : zm_C := [(5, [(0, .inl (.iload_n 1), 1), (1, .inl (.iconst (-1)), 2), (2, .inl (.if_icmp .eq 16), 5), (5, .inl (.iload_n 1), 6)]),
  (11, [(6, .inl (.ifCond .lt 16), 9), (9, .inl (.iload_n 1), 10), (10, .inl (.aload_n 0), 11), (11, .inr (0, 191, 7, 8), 14)]),
  (19, [(14, .inl .ishr, 15), (15, .inl (.ifCond .ne 7), 18), (18, .inl (.iconst 1), 19), (19, .inl (.goto 4), 22)]),
  (23, [(22, .inl (.iconst 0), 23), (23, .inl .ireturn, 24)])]
noncomputable def zc_Mod_nameFor : zm_C := [(8, [(0, .inl (.iload_n 1), 1), (1, .inl (.ifCond .lt 12), 4), (4, .inl (.aload_n 0), 5), (5, .inr (0, 43, 7, 14), 8), (8, .inl (.iload_n 1), 9)]),
  (17, [(9, .inl .iaload, 10), (10, .inl (.ifCond .ge 7), 13), (13, .inl (.iconst 0), 14), (14, .inl (.goto 14), 17), (17, .inl (.aload_n 0), 18)]),
  (26, [(18, .inr (0, 52, 7, 17), 21), (21, .inl (.aload_n 0), 22), (22, .inr (0, 43, 7, 14), 25), (25, .inl (.iload_n 1), 26), (26, .inl .iaload, 27)]),
  (28, [(27, .inl .iaload, 28), (28, .inl .ireturn, 29)])]
noncomputable def zc_Mod_memberFor : zm_C := [(5, [(0, .inl (.aload_n 0), 1), (1, .inr (0, 49, 7, 16), 4), (4, .inl (.iload_n 1), 5), (5, .inl (.iload_n 2), 6)]),
  (11, [(6, .inr (3, 111, 61, 3), 9), (9, .inl (.istore_n 3), 10), (10, .inl (.iload_n 3), 11), (11, .inl (.ifCond .ge 7), 14)]),
  (19, [(14, .inl (.iconst (-1)), 15), (15, .inl (.goto 9), 18), (18, .inl (.aload_n 0), 19), (19, .inr (0, 46, 7, 15), 22)]),
  (24, [(22, .inl (.iload_n 3), 23), (23, .inl .iaload, 24), (24, .inl .ireturn, 25)])]
noncomputable def zc_Mod_means : zm_C := [(18, [(0, .inl (.iconst 5), 1), (1, .inl (.iload_n 1), 2), (2, .inl .imul, 3), (3, .inl (.istore_n 2), 4), (4, .inl (.aload_n 0), 5), (5, .inr (0, 28, 7, 6), 8), (8, .inl (.iload_n 2), 9), (9, .inl .iaload, 10), (10, .inl (.istore_n 3), 11), (11, .inl (.aload_n 0), 12), (12, .inl (.aload_n 0), 13), (13, .inr (0, 28, 7, 6), 16), (16, .inl (.iload_n 2), 17), (17, .inl (.iconst 1), 18), (18, .inl .iadd, 19)]),
  (41, [(19, .inl .iaload, 20), (20, .inr (1, 249, 7, 21), 23), (23, .inl (.aload_n 0), 24), (24, .inl (.aload_n 0), 25), (25, .inr (0, 28, 7, 6), 28), (28, .inl (.iload_n 2), 29), (29, .inl (.iconst 2), 30), (30, .inl .iadd, 31), (31, .inl .iaload, 32), (32, .inr (1, 252, 7, 22), 35), (35, .inl (.aload_n 0), 36), (36, .inl (.aload_n 0), 37), (37, .inr (0, 28, 7, 6), 40), (40, .inl (.iload_n 2), 41), (41, .inl (.iconst 3), 42)]),
  (64, [(42, .inl .iadd, 43), (43, .inl .iaload, 44), (44, .inr (1, 255, 7, 23), 47), (47, .inl (.aload_n 0), 48), (48, .inl (.aload_n 0), 49), (49, .inr (0, 28, 7, 6), 52), (52, .inl (.iload_n 2), 53), (53, .inl (.iconst 4), 54), (54, .inl .iadd, 55), (55, .inl .iaload, 56), (56, .inr (1, 258, 7, 24), 59), (59, .inl (.iload_n 3), 60), (60, .inl (.ifCond .ne 5), 63), (63, .inl (.iconst 1), 64), (64, .inl .ireturn, 65)]),
  (87, [(65, .inl (.iload_n 3), 66), (66, .inl (.iconst 4), 67), (67, .inl (.if_icmp .gt 29), 70), (70, .inl (.aload_n 0), 71), (71, .inl (.aload_n 0), 72), (72, .inl (.aload_n 0), 73), (73, .inr (0, 49, 7, 16), 76), (76, .inl (.aload_n 0), 77), (77, .inr (0, 28, 7, 6), 80), (80, .inl (.iload_n 2), 81), (81, .inl (.iconst 1), 82), (82, .inl .iadd, 83), (83, .inl .iaload, 84), (84, .inr (3, 68, 46, 2), 87), (87, .inr (5, 261, 229, 1), 90)]),
  (112, [(90, .inr (1, 249, 7, 21), 93), (93, .inl (.goto 76), 96), (96, .inl (.aload_n 0), 97), (97, .inl (.aload_n 0), 98), (98, .inr (0, 28, 7, 6), 101), (101, .inl (.iload_n 2), 102), (102, .inl (.iconst 1), 103), (103, .inl .iadd, 104), (104, .inl .iaload, 105), (105, .inl (.aload_n 0), 106), (106, .inr (0, 28, 7, 6), 109), (109, .inl (.iload_n 2), 110), (110, .inl (.iconst 2), 111), (111, .inl .iadd, 112), (112, .inl .iaload, 113)]),
  (141, [(113, .inr (5, 264, 230, 2), 116), (116, .inl (.istore 4), 118), (118, .inl (.aload_n 0), 119), (119, .inl (.iload 4), 121), (121, .inl (.ifCond .ge 7), 124), (124, .inl (.iconst 0), 125), (125, .inl (.goto 18), 128), (128, .inl (.aload_n 0), 129), (129, .inr (0, 52, 7, 17), 132), (132, .inl (.aload_n 0), 133), (133, .inr (0, 52, 7, 17), 136), (136, .inl (.bipush 64), 138), (138, .inl (.iload 4), 140), (140, .inl .iadd, 141), (141, .inl .iaload, 142)]),
  (169, [(142, .inl .iaload, 143), (143, .inr (1, 249, 7, 21), 146), (146, .inl (.aload_n 0), 147), (147, .inl (.iload 4), 149), (149, .inl (.ifCond .ge 7), 152), (152, .inl (.iconst 0), 153), (153, .inl (.goto 13), 156), (156, .inl (.aload_n 0), 157), (157, .inr (0, 52, 7, 17), 160), (160, .inl (.bipush 24), 162), (162, .inl (.iload 4), 164), (164, .inl .iadd, 165), (165, .inl .iaload, 166), (166, .inr (1, 252, 7, 22), 169), (169, .inl (.aload_n 0), 170)]),
  (198, [(170, .inr (0, 249, 7, 21), 173), (173, .inl (.ifCond .eq 7), 176), (176, .inl (.iconst 1), 177), (177, .inl (.goto 4), 180), (180, .inl (.iconst 0), 181), (181, .inl (.istore 4), 183), (183, .inl (.iload_n 3), 184), (184, .inl (.bipush 7), 186), (186, .inl (.if_icmp .eq 15), 189), (189, .inl (.iload_n 3), 190), (190, .inl (.iconst 3), 191), (191, .inl (.if_icmp .ne 52), 194), (194, .inl (.aload_n 0), 195), (195, .inr (0, 255, 7, 23), 198), (198, .inl (.ifCond .eq 45), 201)]),
  (226, [(201, .inl (.aload_n 0), 202), (202, .inl (.aload_n 0), 203), (203, .inl (.aload_n 0), 204), (204, .inr (0, 49, 7, 16), 207), (207, .inl (.aload_n 0), 208), (208, .inr (0, 28, 7, 6), 211), (211, .inl (.iload_n 2), 212), (212, .inl (.iconst 3), 213), (213, .inl .iadd, 214), (214, .inl .iaload, 215), (215, .inr (3, 68, 46, 2), 218), (218, .inr (5, 261, 229, 1), 221), (221, .inr (1, 255, 7, 23), 224), (224, .inl (.iload 4), 226), (226, .inl (.ifCond .eq 14), 229)]),
  (255, [(229, .inl (.aload_n 0), 230), (230, .inr (0, 255, 7, 23), 233), (233, .inl (.ifCond .eq 7), 236), (236, .inl (.iconst 1), 237), (237, .inl (.goto 4), 240), (240, .inl (.iconst 0), 241), (241, .inl (.istore 4), 243), (243, .inl (.iload_n 3), 244), (244, .inl (.bipush 8), 246), (246, .inl (.if_icmp .lt 93), 249), (249, .inl (.aload_n 0), 250), (250, .inl (.aload_n 0), 251), (251, .inr (0, 28, 7, 6), 254), (254, .inl (.iload_n 2), 255), (255, .inl (.iconst 3), 256)]),
  (278, [(256, .inl .iadd, 257), (257, .inl .iaload, 258), (258, .inl (.aload_n 0), 259), (259, .inr (0, 28, 7, 6), 262), (262, .inl (.iload_n 2), 263), (263, .inl (.iconst 4), 264), (264, .inl .iadd, 265), (265, .inl .iaload, 266), (266, .inr (5, 264, 230, 2), 269), (269, .inl (.istore 5), 271), (271, .inl (.aload_n 0), 272), (272, .inl (.iload 5), 274), (274, .inl (.ifCond .ge 7), 277), (277, .inl (.iconst 0), 278), (278, .inl (.goto 18), 281)]),
  (306, [(281, .inl (.aload_n 0), 282), (282, .inr (0, 52, 7, 17), 285), (285, .inl (.aload_n 0), 286), (286, .inr (0, 52, 7, 17), 289), (289, .inl (.bipush 64), 291), (291, .inl (.iload 5), 293), (293, .inl .iadd, 294), (294, .inl .iaload, 295), (295, .inl .iaload, 296), (296, .inr (1, 255, 7, 23), 299), (299, .inl (.aload_n 0), 300), (300, .inl (.iload 5), 302), (302, .inl (.ifCond .ge 7), 305), (305, .inl (.iconst 0), 306), (306, .inl (.goto 13), 309)]),
  (337, [(309, .inl (.aload_n 0), 310), (310, .inr (0, 52, 7, 17), 313), (313, .inl (.bipush 24), 315), (315, .inl (.iload 5), 317), (317, .inl .iadd, 318), (318, .inl .iaload, 319), (319, .inr (1, 258, 7, 24), 322), (322, .inl (.iload 4), 324), (324, .inl (.ifCond .eq 12), 327), (327, .inl (.iload 5), 329), (329, .inl (.ifCond .lt 7), 332), (332, .inl (.iconst 1), 333), (333, .inl (.goto 4), 336), (336, .inl (.iconst 0), 337), (337, .inl (.istore 4), 339)]),
  (341, [(339, .inl (.iload 4), 341), (341, .inl .ireturn, 342)])]
noncomputable def zc_Mod_counts : zm_C := [(10, [(0, .inl (.iload_n 1), 1), (1, .inl (.iconst 2), 2), (2, .inl (.if_icmp .ne 20), 5), (5, .inl (.aload_n 0), 6), (6, .inr (0, 249, 7, 21), 9), (9, .inl (.aload_n 0), 10), (10, .inr (0, 255, 7, 23), 13)]),
  (23, [(13, .inl (.if_icmp .ne 7), 16), (16, .inl (.iconst 1), 17), (17, .inl (.goto 4), 20), (20, .inl (.iconst 0), 21), (21, .inl .ireturn, 22), (22, .inl (.iload_n 1), 23), (23, .inl (.bipush 6), 25)]),
  (39, [(25, .inl (.if_icmp .ne 20), 28), (28, .inl (.aload_n 0), 29), (29, .inr (0, 252, 7, 22), 32), (32, .inl (.aload_n 0), 33), (33, .inr (0, 258, 7, 24), 36), (36, .inl (.if_icmp .ne 7), 39), (39, .inl (.iconst 1), 40)]),
  (50, [(40, .inl (.goto 4), 43), (43, .inl (.iconst 0), 44), (44, .inl .ireturn, 45), (45, .inl (.iload_n 2), 46), (46, .inl (.iconst 1), 47), (47, .inl (.if_icmp .ne 28), 50), (50, .inl (.iload_n 1), 51)]),
  (62, [(51, .inl (.ifCond .eq 20), 54), (54, .inl (.iload_n 1), 55), (55, .inl (.iconst 4), 56), (56, .inl (.if_icmp .eq 15), 59), (59, .inl (.iload_n 1), 60), (60, .inl (.bipush 7), 62), (62, .inl (.if_icmp .eq 9), 65)]),
  (76, [(65, .inl (.iload_n 1), 66), (66, .inl (.bipush 8), 68), (68, .inl (.if_icmp .ne 7), 71), (71, .inl (.iconst 1), 72), (72, .inl (.goto 4), 75), (75, .inl (.iconst 0), 76), (76, .inl .ireturn, 77)])]
noncomputable def zc_Mod_nextLetter : zm_C := [(6, [(0, .inl (.iload_n 0), 1), (1, .inl (.bipush 90), 3), (3, .inl (.if_icmp .ne 8), 6), (6, .inl (.bipush 65), 8)]),
  (14, [(8, .inl (.goto 17), 11), (11, .inl (.iload_n 0), 12), (12, .inl (.bipush 122), 14), (14, .inl (.if_icmp .ne 8), 17)]),
  (23, [(17, .inl (.bipush 97), 19), (19, .inl (.goto 6), 22), (22, .inl (.iload_n 0), 23), (23, .inl (.iconst 1), 24)]),
  (25, [(24, .inl .iadd, 25), (25, .inl .ireturn, 26)])]
noncomputable def zc_Mod_mends : zm_C := [(11, [(0, .inl (.iconst 0), 1), (1, .inl (.istore_n 3), 2), (2, .inl (.iload_n 3), 3), (3, .inl (.bipush 25), 5), (5, .inl (.if_icmp .ge 129), 8), (8, .inl (.aload_n 0), 9), (9, .inl (.iload_n 1), 10), (10, .inl (.iconst 2), 11), (11, .inl (.if_icmp .ne 13), 14)]),
  (32, [(14, .inl (.aload_n 0), 15), (15, .inr (0, 255, 7, 23), 18), (18, .inr (3, 268, 233, 1), 21), (21, .inl (.goto 7), 24), (24, .inl (.aload_n 0), 25), (25, .inr (0, 255, 7, 23), 28), (28, .inr (1, 255, 7, 23), 31), (31, .inl (.aload_n 0), 32), (32, .inl (.iload_n 1), 33)]),
  (51, [(33, .inl (.iconst 4), 34), (34, .inl (.if_icmp .ne 13), 37), (37, .inl (.aload_n 0), 38), (38, .inr (0, 252, 7, 22), 41), (41, .inr (3, 268, 233, 1), 44), (44, .inl (.goto 7), 47), (47, .inl (.aload_n 0), 48), (48, .inr (0, 252, 7, 22), 51), (51, .inr (1, 252, 7, 22), 54)]),
  (71, [(54, .inl (.aload_n 0), 55), (55, .inl (.iload_n 1), 56), (56, .inl (.bipush 6), 58), (58, .inl (.if_icmp .ne 13), 61), (61, .inl (.aload_n 0), 62), (62, .inr (0, 258, 7, 24), 65), (65, .inr (3, 268, 233, 1), 68), (68, .inl (.goto 7), 71), (71, .inl (.aload_n 0), 72)]),
  (88, [(72, .inr (0, 258, 7, 24), 75), (75, .inr (1, 258, 7, 24), 78), (78, .inl (.aload_n 0), 79), (79, .inl (.aload_n 0), 80), (80, .inr (0, 52, 7, 17), 83), (83, .inl (.iload_n 1), 84), (84, .inl (.aload_n 0), 85), (85, .inr (0, 249, 7, 21), 88), (88, .inl (.aload_n 0), 89)]),
  (107, [(89, .inr (0, 252, 7, 22), 92), (92, .inl (.aload_n 0), 93), (93, .inr (0, 255, 7, 23), 96), (96, .inl (.aload_n 0), 97), (97, .inr (0, 258, 7, 24), 100), (100, .inr (5, 153, 64, 6), 103), (103, .inl (.istore 4), 105), (105, .inl (.iload 4), 107), (107, .inl (.ifCond .ne 6), 110)]),
  (125, [(110, .inl (.bipush 100), 112), (112, .inl .ireturn, 113), (113, .inl (.iload 4), 115), (115, .inl (.iconst 1), 116), (116, .inl (.if_icmp .eq 12), 119), (119, .inl (.iload 4), 121), (121, .inl (.iconst 5), 122), (122, .inl (.if_icmp .eq 6), 125), (125, .inl (.iload 4), 127)]),
  (135, [(127, .inl .ireturn, 128), (128, .inl (.iinc 3 1), 131), (131, .inl (.goto (-129)), 134), (134, .inl (.iload_n 2), 135), (135, .inl .ireturn, 136)])]
noncomputable def zc_Mod_tries : zm_C := [(15, [(0, .inl (.aload_n 0), 1), (1, .inr (0, 28, 7, 6), 4), (4, .inl (.iconst 5), 5), (5, .inl (.iload_n 1), 6), (6, .inl .imul, 7), (7, .inl .iaload, 8), (8, .inl (.istore_n 3), 9), (9, .inl (.aload_n 0), 10), (10, .inl (.iconst (-1)), 11), (11, .inr (1, 83, 7, 10), 14), (14, .inl (.aload_n 0), 15), (15, .inl (.iload_n 1), 16)]),
  (35, [(16, .inr (5, 271, 231, 1), 19), (19, .inl (.ifCond .ne 5), 22), (22, .inl (.iconst 2), 23), (23, .inl .ireturn, 24), (24, .inl (.aload_n 0), 25), (25, .inl (.aload_n 0), 26), (26, .inr (0, 52, 7, 17), 29), (29, .inl (.iload_n 3), 30), (30, .inl (.aload_n 0), 31), (31, .inr (0, 249, 7, 21), 34), (34, .inl (.aload_n 0), 35), (35, .inr (0, 252, 7, 22), 38)]),
  (59, [(38, .inl (.aload_n 0), 39), (39, .inr (0, 255, 7, 23), 42), (42, .inl (.aload_n 0), 43), (43, .inr (0, 258, 7, 24), 46), (46, .inr (5, 153, 64, 6), 49), (49, .inl (.istore 4), 51), (51, .inl (.iload 4), 53), (53, .inl (.ifCond .ne 5), 56), (56, .inl (.iconst 0), 57), (57, .inl .ireturn, 58), (58, .inl (.aload_n 0), 59), (59, .inl (.iload_n 3), 60)]),
  (84, [(60, .inl (.iload 4), 62), (62, .inr (5, 274, 232, 2), 65), (65, .inl (.ifCond .eq 128), 68), (68, .inl (.aload_n 0), 69), (69, .inl (.iload_n 3), 70), (70, .inl (.ifCond .ne 17), 73), (73, .inl (.aload_n 0), 74), (74, .inr (0, 52, 7, 17), 77), (77, .inl (.aload_n 0), 78), (78, .inr (0, 249, 7, 21), 81), (81, .inr (3, 68, 46, 2), 84), (84, .inl (.goto 27), 87)]),
  (110, [(87, .inl (.iload_n 3), 88), (88, .inl (.iconst 4), 89), (89, .inl (.if_icmp .ne 21), 92), (92, .inl (.aload_n 0), 93), (93, .inr (0, 52, 7, 17), 96), (96, .inl (.aload_n 0), 97), (97, .inr (0, 249, 7, 21), 100), (100, .inl (.aload_n 0), 101), (101, .inr (0, 252, 7, 22), 104), (104, .inr (3, 111, 61, 3), 107), (107, .inl (.goto 4), 110), (110, .inl (.iconst (-1)), 111)]),
  (135, [(111, .inr (1, 83, 7, 10), 114), (114, .inl (.iload_n 3), 115), (115, .inl (.ifCond .ne 20), 118), (118, .inl (.aload_n 0), 119), (119, .inl (.aload_n 0), 120), (120, .inr (0, 43, 7, 14), 123), (123, .inl (.bipush 12), 125), (125, .inl (.aload_n 0), 126), (126, .inr (0, 83, 7, 10), 129), (129, .inr (5, 232, 201, 3), 132), (132, .inl (.ifCond .ne 25), 135), (135, .inl (.iload_n 3), 136)]),
  (158, [(136, .inl (.iconst 4), 137), (137, .inl (.if_icmp .ne 24), 140), (140, .inl (.aload_n 0), 141), (141, .inl (.aload_n 0), 142), (142, .inr (0, 46, 7, 15), 145), (145, .inl (.bipush 40), 147), (147, .inl (.aload_n 0), 148), (148, .inr (0, 83, 7, 10), 151), (151, .inr (5, 232, 201, 3), 154), (154, .inl (.ifCond .eq 7), 157), (157, .inl (.iconst 1), 158), (158, .inl (.goto 4), 161)]),
  (183, [(161, .inl (.iconst 0), 162), (162, .inl (.istore 5), 164), (164, .inl (.aload_n 0), 165), (165, .inl (.iload 5), 167), (167, .inl (.ifCond .eq 7), 170), (170, .inl (.iconst (-1)), 171), (171, .inl (.goto 7), 174), (174, .inl (.aload_n 0), 175), (175, .inr (0, 83, 7, 10), 178), (178, .inr (1, 83, 7, 10), 181), (181, .inl (.iload 5), 183), (183, .inl (.ifCond .eq 8), 186)]),
  (205, [(186, .inl (.bipush 6), 188), (188, .inl (.goto 4), 191), (191, .inl (.iconst 0), 192), (192, .inl .ireturn, 193), (193, .inl (.iload_n 2), 194), (194, .inl (.ifCond .eq 35), 197), (197, .inl (.iload 4), 199), (199, .inl (.iconst 1), 200), (200, .inl (.if_icmp .ne 8), 203), (203, .inl (.iload_n 3), 204), (204, .inl (.iconst 2), 205), (205, .inl (.if_icmp .eq 20), 208)]),
  (229, [(208, .inl (.iload 4), 210), (210, .inl (.iconst 5), 211), (211, .inl (.if_icmp .ne 18), 214), (214, .inl (.iload_n 3), 215), (215, .inl (.iconst 4), 216), (216, .inl (.if_icmp .eq 9), 219), (219, .inl (.iload_n 3), 220), (220, .inl (.bipush 6), 222), (222, .inl (.if_icmp .ne 7), 225), (225, .inl (.iconst 1), 226), (226, .inl (.goto 4), 229), (229, .inl (.iconst 0), 230)]),
  (249, [(230, .inl (.istore 5), 232), (232, .inl (.iload 5), 234), (234, .inl (.ifCond .eq 13), 237), (237, .inl (.aload_n 0), 238), (238, .inl (.iload_n 3), 239), (239, .inl (.iload 4), 241), (241, .inr (5, 278, 234, 2), 244), (244, .inl (.goto 5), 247), (247, .inl (.iload 4), 249), (249, .inl .ireturn, 250)])]
noncomputable def zc_Mod_goesOn : zm_C := [(12, [(0, .inl (.iconst 5), 1), (1, .inl (.iload_n 1), 2), (2, .inl .imul, 3), (3, .inl (.istore_n 3), 4), (4, .inl (.aload_n 0), 5), (5, .inr (0, 49, 7, 16), 8), (8, .inl (.aload_n 0), 9), (9, .inr (0, 28, 7, 6), 12), (12, .inl (.iload_n 3), 13)]),
  (27, [(13, .inl (.iconst 1), 14), (14, .inl .iadd, 15), (15, .inl .iaload, 16), (16, .inr (3, 68, 46, 2), 19), (19, .inl (.istore 4), 21), (21, .inl (.aload_n 0), 22), (22, .inr (0, 49, 7, 16), 25), (25, .inl (.iload 4), 27), (27, .inl (.aload_n 0), 28)]),
  (41, [(28, .inr (0, 28, 7, 6), 31), (31, .inl (.iload_n 3), 32), (32, .inl (.iconst 2), 33), (33, .inl .iadd, 34), (34, .inl .iaload, 35), (35, .inr (3, 72, 54, 3), 38), (38, .inl (.istore 5), 40), (40, .inl (.aload_n 0), 41), (41, .inr (0, 28, 7, 6), 44)]),
  (57, [(44, .inl (.iload_n 3), 45), (45, .inl .iaload, 46), (46, .inl (.iconst 1), 47), (47, .inl (.if_icmp .ne 11), 50), (50, .inl (.aload_n 0), 51), (51, .inr (0, 43, 7, 14), 54), (54, .inl (.iload 4), 56), (56, .inl (.iconst (-1)), 57), (57, .inl .iastore, 58)]),
  (72, [(58, .inl (.aload_n 0), 59), (59, .inr (0, 28, 7, 6), 62), (62, .inl (.iload_n 3), 63), (63, .inl .iaload, 64), (64, .inl (.iconst 5), 65), (65, .inl (.if_icmp .ne 11), 68), (68, .inl (.aload_n 0), 69), (69, .inr (0, 46, 7, 15), 72), (72, .inl (.iload 5), 74)]),
  (86, [(74, .inl (.iconst (-1)), 75), (75, .inl .iastore, 76), (76, .inl (.aload_n 0), 77), (77, .inl (.aload_n 0), 78), (78, .inr (0, 49, 7, 16), 81), (81, .inl (.aload_n 0), 82), (82, .inr (0, 28, 7, 6), 85), (85, .inl (.iload_n 1), 86), (86, .inr (5, 161, 158, 3), 89)]),
  (104, [(89, .inl (.istore 6), 91), (91, .inl (.aload_n 0), 92), (92, .inr (0, 28, 7, 6), 95), (95, .inl (.iload_n 3), 96), (96, .inl .iaload, 97), (97, .inl (.ifCond .ne 16), 100), (100, .inl (.aload_n 0), 101), (101, .inr (0, 43, 7, 14), 104), (104, .inl (.aload_n 0), 105)]),
  (119, [(105, .inr (0, 83, 7, 10), 108), (108, .inl (.iload_n 2), 109), (109, .inl .iastore, 110), (110, .inl (.goto 23), 113), (113, .inl (.aload_n 0), 114), (114, .inr (0, 28, 7, 6), 117), (117, .inl (.iload_n 3), 118), (118, .inl .iaload, 119), (119, .inl (.iconst 4), 120)]),
  (133, [(120, .inl (.if_icmp .ne 13), 123), (123, .inl (.aload_n 0), 124), (124, .inr (0, 46, 7, 15), 127), (127, .inl (.aload_n 0), 128), (128, .inr (0, 83, 7, 10), 131), (131, .inl (.iload_n 2), 132), (132, .inl .iastore, 133), (133, .inl .return_, 134)])]
noncomputable def zc_Mod_replays : zm_C := [(19, [(0, .inl (.aload_n 0), 1), (1, .inl (.aload_n 0), 2), (2, .inr (0, 52, 7, 17), 5), (5, .inr (5, 245, 205, 1), 8), (8, .inl (.aload_n 0), 9), (9, .inr (0, 16, 7, 2), 12), (12, .inl (.aload_n 0), 13), (13, .inr (0, 49, 7, 16), 16), (16, .inr (3, 157, 101, 2), 19), (19, .inl (.iconst 0), 20)]),
  (36, [(20, .inl (.istore_n 3), 21), (21, .inl (.iconst 0), 22), (22, .inl (.istore 4), 24), (24, .inl (.iload 4), 26), (26, .inl (.aload_n 0), 27), (27, .inr (0, 191, 7, 8), 30), (30, .inl (.if_icmp .ge 136), 33), (33, .inl (.iload_n 1), 34), (34, .inl (.iload 4), 36), (36, .inl .ishr, 37)]),
  (51, [(37, .inl (.iconst 1), 38), (38, .inl .iand, 39), (39, .inl (.iconst 1), 40), (40, .inl (.if_icmp .ne 7), 43), (43, .inl (.iconst 1), 44), (44, .inl (.goto 4), 47), (47, .inl (.iconst 0), 48), (48, .inl (.istore 5), 50), (50, .inl (.aload_n 0), 51), (51, .inr (0, 55, 7, 18), 54)]),
  (69, [(54, .inl (.iload 4), 56), (56, .inl (.iconst (-1)), 57), (57, .inl .iastore, 58), (58, .inl (.aload_n 0), 59), (59, .inl (.iconst (-1)), 60), (60, .inr (1, 83, 7, 10), 63), (63, .inl (.iload 5), 65), (65, .inl (.ifCond .eq 47), 68), (68, .inl (.aload_n 0), 69), (69, .inr (0, 55, 7, 18), 72)]),
  (87, [(72, .inl (.iload 4), 74), (74, .inl (.aload_n 0), 75), (75, .inl (.iload 4), 77), (77, .inl (.iload_n 2), 78), (78, .inr (5, 281, 235, 2), 81), (81, .inl .iastore, 82), (82, .inl (.iload_n 3), 83), (83, .inl (.aload_n 0), 84), (84, .inr (0, 55, 7, 18), 87), (87, .inl (.iload 4), 89)]),
  (106, [(89, .inl .iaload, 90), (90, .inl (.ifCond .eq 15), 93), (93, .inl (.aload_n 0), 94), (94, .inr (0, 55, 7, 18), 97), (97, .inl (.iload 4), 99), (99, .inl .iaload, 100), (100, .inl (.bipush 100), 102), (102, .inl (.if_icmp .ne 7), 105), (105, .inl (.iconst 1), 106), (106, .inl (.goto 4), 109)]),
  (123, [(109, .inl (.iconst 0), 110), (110, .inl .iadd, 111), (111, .inl (.istore_n 3), 112), (112, .inl (.aload_n 0), 113), (113, .inr (0, 55, 7, 18), 116), (116, .inl (.iload 4), 118), (118, .inl .iaload, 119), (119, .inl (.ifCond .eq 15), 122), (122, .inl (.aload_n 0), 123), (123, .inr (0, 55, 7, 18), 126)]),
  (142, [(126, .inl (.iload 4), 128), (128, .inl .iaload, 129), (129, .inl (.bipush 100), 131), (131, .inl (.if_icmp .ne 7), 134), (134, .inl (.iconst 1), 135), (135, .inl (.goto 4), 138), (138, .inl (.iconst 0), 139), (139, .inl (.istore 6), 141), (141, .inl (.aload_n 0), 142), (142, .inl (.iload 4), 144)]),
  (166, [(144, .inl (.iload 6), 146), (146, .inl (.ifCond .eq 10), 149), (149, .inl (.aload_n 0), 150), (150, .inr (0, 83, 7, 10), 153), (153, .inl (.goto 4), 156), (156, .inl (.iconst (-1)), 157), (157, .inr (5, 285, 236, 2), 160), (160, .inl (.iinc 4 1), 163), (163, .inl (.goto (-139)), 166), (166, .inl (.iload_n 3), 167)]),
  (167, [(167, .inl .ireturn, 168)])]
noncomputable def zc_Mod_replay : zm_C := [(10, [(0, .inl (.aload_n 0), 1), (1, .inl (.iconst 0), 2), (2, .inr (1, 65, 7, 9), 5), (5, .inl (.aload_n 0), 6), (6, .inl (.iload_n 1), 7), (7, .inr (5, 289, 228, 1), 10), (10, .inl (.ifCond .ne 9), 13)]),
  (23, [(13, .inl (.aload_n 0), 14), (14, .inl (.iconst 1), 15), (15, .inr (5, 218, 108, 1), 18), (18, .inl .ireturn, 19), (19, .inl (.aload_n 0), 20), (20, .inr (0, 13, 7, 1), 23), (23, .inl (.aload_n 0), 24)]),
  (36, [(24, .inr (0, 52, 7, 17), 27), (27, .inr (3, 157, 101, 2), 30), (30, .inl (.aload_n 0), 31), (31, .inl (.iload_n 1), 32), (32, .inl (.iload_n 2), 33), (33, .inr (5, 292, 237, 2), 36), (36, .inl (.istore_n 3), 37)]),
  (49, [(37, .inl (.aload_n 0), 38), (38, .inr (0, 52, 7, 17), 41), (41, .inl (.aload_n 0), 42), (42, .inr (0, 13, 7, 1), 45), (45, .inr (3, 157, 101, 2), 48), (48, .inl (.aload_n 0), 49), (49, .inl (.aload_n 0), 50)]),
  (62, [(50, .inr (0, 191, 7, 8), 53), (53, .inr (1, 61, 7, 20), 56), (56, .inl (.iconst 0), 57), (57, .inl (.istore 4), 59), (59, .inl (.iload 4), 61), (61, .inl (.aload_n 0), 62), (62, .inr (0, 191, 7, 8), 65)]),
  (78, [(65, .inl (.if_icmp .ge 23), 68), (68, .inl (.aload_n 0), 69), (69, .inr (0, 58, 7, 19), 72), (72, .inl (.iload 4), 74), (74, .inl (.aload_n 0), 75), (75, .inr (0, 55, 7, 18), 78), (78, .inl (.iload 4), 80)]),
  (89, [(80, .inl .iaload, 81), (81, .inl .iastore, 82), (82, .inl (.iinc 4 1), 85), (85, .inl (.goto (-26)), 88), (88, .inl (.iload_n 3), 89), (89, .inl .ireturn, 90)])]
noncomputable def zc_RR_forecast : zm_C := [(6, [(0, .inl (.aload_n 0), 1), (1, .inl (.iload_n 1), 2), (2, .inr (5, 195, 210, 1), 5), (5, .inl (.aload_n 0), 6), (6, .inr (0, 22, 6, 3), 9)]),
  (17, [(9, .inl (.aload_n 0), 10), (10, .inr (0, 19, 6, 2), 13), (13, .inr (5, 118, 128, 1), 16), (16, .inl (.aload_n 0), 17), (17, .inr (0, 56, 6, 8), 20)]),
  (28, [(20, .inl (.aload_n 0), 21), (21, .inr (0, 10, 6, 0), 24), (24, .inl (.aload_n 0), 25), (25, .inr (0, 22, 6, 3), 28), (28, .inl (.aload_n 0), 29)]),
  (37, [(29, .inr (0, 28, 6, 4), 32), (32, .inl (.iload_n 1), 33), (33, .inl (.iload_n 2), 34), (34, .inr (5, 198, 225, 5), 37), (37, .inl .ireturn, 38)])]
noncomputable def zc_Law_forecast : zm_C := [(3, [(0, .inl (.aload_n 3), 1), (1, .inl (.iconst 0), 2), (2, .inl (.aload_n 0), 3), (3, .inl (.iload_n 1), 4)]),
  (9, [(4, .inl (.iload_n 2), 5), (5, .inr (5, 99, 239, 2), 8), (8, .inl .i2l, 9), (9, .inl .lastore, 10)]),
  (18, [(10, .inl (.goto 7), 13), (17, .inl (.iconst 0), 18), (18, .inl .ireturn, 19)])]
noncomputable def zc_Mod_forecast : zm_C := [(6, [(0, .inl (.aload_n 0), 1), (1, .inl (.iconst 0), 2), (2, .inr (1, 65, 7, 9), 5), (5, .inl (.aload_n 0), 6), (6, .inl (.iload_n 1), 7)]),
  (15, [(7, .inr (5, 289, 228, 1), 10), (10, .inl (.ifCond .ne 9), 13), (13, .inl (.aload_n 0), 14), (14, .inl (.iconst 1), 15), (15, .inr (5, 218, 108, 1), 18)]),
  (24, [(18, .inl .ireturn, 19), (19, .inl (.aload_n 0), 20), (20, .inr (0, 13, 7, 1), 23), (23, .inl (.aload_n 0), 24), (24, .inr (0, 52, 7, 17), 27)]),
  (33, [(27, .inr (3, 157, 101, 2), 30), (30, .inl (.aload_n 0), 31), (31, .inl (.iload_n 1), 32), (32, .inl (.iload_n 2), 33), (33, .inr (5, 292, 237, 2), 36)]),
  (36, [(36, .inl .ireturn, 37)])]
noncomputable def zc_RR_outcome : zm_C := [(5, [(0, .inl (.iload_n 1), 1), (1, .inl (.ifCond .lt 11), 4), (4, .inl (.iload_n 1), 5), (5, .inl (.aload_n 0), 6)]),
  (22, [(6, .inr (0, 64, 6, 10), 9), (9, .inl (.if_icmp .lt 13), 12), (12, .inr (12, 84, 0, 11), 22), (22, .inl (.aload_n 0), 23)]),
  (28, [(23, .inr (0, 60, 6, 9), 26), (26, .inl (.iload_n 1), 27), (27, .inl .iaload, 28), (28, .inl .ireturn, 29)])]
noncomputable def zc_Law_outcome : zm_C := [(3, [(0, .inl (.aload_n 2), 1), (1, .inl (.iconst 0), 2), (2, .inl (.aload_n 0), 3), (3, .inl (.iload_n 1), 4)]),
  (9, [(4, .inr (5, 102, 242, 1), 7), (7, .inl .i2l, 8), (8, .inl .lastore, 9), (9, .inl (.goto 6), 12)]),
  (16, [(15, .inl (.iconst 0), 16), (16, .inl .ireturn, 17)])]
noncomputable def zc_Mod_outcome : zm_C := [(6, [(0, .inl (.aload_n 0), 1), (1, .inl (.iconst 0), 2), (2, .inr (1, 65, 7, 9), 5), (5, .inl (.iload_n 1), 6), (6, .inl (.iconst 0), 7)]),
  (13, [(7, .inl (.aload_n 0), 8), (8, .inr (0, 61, 7, 20), 11), (11, .inl (.iconst 1), 12), (12, .inl .isub, 13), (13, .inr (3, 187, 44, 3), 16)]),
  (24, [(16, .inl (.ifCond .eq 12), 19), (19, .inl (.aload_n 0), 20), (20, .inr (0, 58, 7, 19), 23), (23, .inl (.iload_n 1), 24), (24, .inl .iaload, 25)]),
  (33, [(25, .inl (.goto 8), 28), (28, .inl (.aload_n 0), 29), (29, .inl (.iconst 1), 30), (30, .inr (5, 218, 108, 1), 33), (33, .inl .ireturn, 34)])]
noncomputable def zc_RR_blendMembers : zm_C := [(11, [(0, .inl (.lload_n 0), 1), (1, .inl (.lstore 4), 3), (3, .inl (.bipush 97), 5), (5, .inl (.istore 6), 7), (7, .inl (.iload 6), 9), (9, .inl (.bipush 122), 11), (11, .inl (.if_icmp .gt 59), 14)]),
  (25, [(14, .inl (.aload_n 2), 15), (15, .inl (.iload_n 3), 16), (16, .inl (.iload 6), 18), (18, .inr (5, 265, 27, 2), 21), (21, .inl (.istore 7), 23), (23, .inl (.iload 7), 25), (25, .inl (.ifCond .lt 39), 28)]),
  (40, [(28, .inr (14, 217, 31, 0), 31), (31, .inl (.lload 4), 33), (33, .inl .lmul, 34), (34, .inl (.aload_n 2), 35), (35, .inr (0, 268, 4, 5), 38), (38, .inl (.iload 7), 40), (40, .inl .laload, 41)]),
  (53, [(41, .inr (3, 272, 34, 1), 44), (44, .inl .i2l, 45), (45, .inl .ladd, 46), (46, .inl (.lstore 4), 48), (48, .inr (14, 217, 31, 0), 51), (51, .inl (.lload 4), 53), (53, .inl .lmul, 54)]),
  (64, [(54, .inl (.aload_n 2), 55), (55, .inl (.iload 7), 57), (57, .inr (5, 278, 30, 1), 60), (60, .inl .i2l, 61), (61, .inl .ladd, 62), (62, .inl (.lstore 4), 64), (64, .inl (.iinc 6 1), 67)]),
  (72, [(67, .inl (.goto (-60)), 70), (70, .inl (.lload 4), 72), (72, .inl .lreturn, 73)])]
noncomputable def zc_RR_blend : zm_C := [(13, [(0, .inl (.lload_n 0), 1), (1, .inl (.lstore_n 3), 2), (2, .inl (.bipush 65), 4), (4, .inl (.istore 5), 6), (6, .inl (.iload 5), 8), (8, .inl (.bipush 90), 10), (10, .inl (.if_icmp .gt 70), 13), (13, .inl (.aload_n 2), 14)]),
  (30, [(14, .inl (.iload 5), 16), (16, .inr (5, 95, 15, 1), 19), (19, .inl (.istore 6), 21), (21, .inl (.iload 6), 23), (23, .inl (.ifCond .lt 51), 26), (26, .inr (14, 217, 31, 0), 29), (29, .inl (.lload_n 3), 30), (30, .inl .lmul, 31)]),
  (41, [(31, .inl (.iload 5), 33), (33, .inl .i2l, 34), (34, .inl .ladd, 35), (35, .inl (.lstore_n 3), 36), (36, .inr (14, 217, 31, 0), 39), (39, .inl (.lload_n 3), 40), (40, .inl .lmul, 41), (41, .inl (.aload_n 2), 42)]),
  (54, [(42, .inl (.iload 6), 44), (44, .inr (5, 98, 111, 1), 47), (47, .inl .i2l, 48), (48, .inl .ladd, 49), (49, .inl (.lstore_n 3), 50), (50, .inr (14, 217, 31, 0), 53), (53, .inl (.lload_n 3), 54), (54, .inl .lmul, 55)]),
  (65, [(55, .inl (.aload_n 2), 56), (56, .inl (.iconst 1), 57), (57, .inl (.iload 6), 59), (59, .inl .ishl, 60), (60, .inr (5, 101, 18, 1), 63), (63, .inl .i2l, 64), (64, .inl .ladd, 65), (65, .inl (.lstore_n 3), 66)]),
  (80, [(66, .inl (.lload_n 3), 67), (67, .inl (.aload_n 2), 68), (68, .inl (.iload 6), 70), (70, .inr (3, 261, 245, 3), 73), (73, .inl (.lstore_n 3), 74), (74, .inl (.iinc 5 1), 77), (77, .inl (.goto (-71)), 80), (80, .inl (.lload_n 3), 81)]),
  (81, [(81, .inl .lreturn, 82)])]
noncomputable def zc_RR_fingerprint : zm_C := [(10, [(0, .inr (14, 211, 43, 0), 3), (3, .inl (.aload_n 0), 4), (4, .inr (0, 16, 6, 1), 7), (7, .inr (3, 213, 246, 2), 10), (10, .inl (.lstore_n 1), 11)]),
  (19, [(11, .inl (.lload_n 1), 12), (12, .inl (.aload_n 0), 13), (13, .inr (0, 19, 6, 2), 16), (16, .inr (3, 213, 246, 2), 19), (19, .inl (.lstore_n 1), 20)]),
  (26, [(20, .inr (14, 217, 31, 0), 23), (23, .inl (.lload_n 1), 24), (24, .inl .lmul, 25), (25, .inl (.aload_n 0), 26), (26, .inr (0, 28, 6, 4), 29)]),
  (34, [(29, .inr (0, 126, 1, 1), 32), (32, .inl .i2l, 33), (33, .inl .ladd, 34), (34, .inl .lreturn, 35)])]
noncomputable def zc_Mod_mixes : zm_C := [(18, [(0, .inl (.lload_n 0), 1), (1, .inl (.lstore_n 3), 2), (2, .inl (.iconst 0), 3), (3, .inl (.istore 5), 5), (5, .inl (.iload 5), 7), (7, .inl (.bipush 12), 9), (9, .inl (.if_icmp .ge 179), 12), (12, .inl (.aload_n 2), 13), (13, .inl (.iload 5), 15), (15, .inr (3, 215, 107, 2), 18), (18, .inl (.istore 6), 20)]),
  (36, [(20, .inl (.iload 6), 22), (22, .inl (.ifCond .lt 160), 25), (25, .inr (14, 295, 31, 0), 28), (28, .inl (.lload_n 3), 29), (29, .inl .lmul, 30), (30, .inl (.aload_n 2), 31), (31, .inl (.iload 6), 33), (33, .inl .iaload, 34), (34, .inl .i2l, 35), (35, .inl .ladd, 36), (36, .inl (.lstore_n 3), 37)]),
  (54, [(37, .inr (14, 295, 31, 0), 40), (40, .inl (.lload_n 3), 41), (41, .inl .lmul, 42), (42, .inl (.aload_n 2), 43), (43, .inl (.iload 6), 45), (45, .inr (3, 130, 115, 2), 48), (48, .inl .i2l, 49), (49, .inl .ladd, 50), (50, .inl (.lstore_n 3), 51), (51, .inr (14, 295, 31, 0), 54), (54, .inl (.lload_n 3), 55)]),
  (71, [(55, .inl .lmul, 56), (56, .inl (.aload_n 2), 57), (57, .inl (.iload 6), 59), (59, .inr (3, 226, 119, 2), 62), (62, .inl .i2l, 63), (63, .inl .ladd, 64), (64, .inl (.lstore_n 3), 65), (65, .inl (.bipush 97), 67), (67, .inl (.istore 7), 69), (69, .inl (.iload 7), 71), (71, .inl (.bipush 122), 73)]),
  (92, [(73, .inl (.if_icmp .gt 109), 76), (76, .inl (.aload_n 2), 77), (77, .inl (.iload 6), 79), (79, .inl (.iload 7), 81), (81, .inr (3, 72, 54, 3), 84), (84, .inl (.istore 8), 86), (86, .inl (.iconst 0), 87), (87, .inl (.istore 9), 89), (89, .inl (.iconst 0), 90), (90, .inl (.istore 10), 92), (92, .inl (.iconst 0), 93)]),
  (114, [(93, .inl (.istore 11), 95), (95, .inl (.iload 11), 97), (97, .inl (.bipush 40), 99), (99, .inl (.if_icmp .ge 50), 102), (102, .inl (.iload 8), 104), (104, .inl (.ifCond .lt 45), 107), (107, .inl (.iload 9), 109), (109, .inl (.aload_n 2), 110), (110, .inl (.bipush 104), 112), (112, .inl (.bipush 40), 114), (114, .inl (.iload 8), 116)]),
  (130, [(116, .inl .imul, 117), (117, .inl .iadd, 118), (118, .inl (.iload 11), 120), (120, .inl .iadd, 121), (121, .inl .iaload, 122), (122, .inl .iadd, 123), (123, .inl (.istore 9), 125), (125, .inl (.iload 10), 127), (127, .inl (.aload_n 2), 128), (128, .inl (.bipush 104), 130), (130, .inl (.bipush 40), 132)]),
  (149, [(132, .inl (.iload 11), 134), (134, .inl .imul, 135), (135, .inl .iadd, 136), (136, .inl (.iload 8), 138), (138, .inl .iadd, 139), (139, .inl .iaload, 140), (140, .inl .iadd, 141), (141, .inl (.istore 10), 143), (143, .inl (.iinc 11 1), 146), (146, .inl (.goto (-51)), 149), (149, .inl (.iload 8), 151)]),
  (170, [(151, .inl (.ifCond .ge 7), 154), (154, .inl (.lload_n 3), 155), (155, .inl (.goto 20), 158), (158, .inr (14, 295, 31, 0), 161), (161, .inr (14, 295, 31, 0), 164), (164, .inl (.lload_n 3), 165), (165, .inl .lmul, 166), (166, .inl (.iload 9), 168), (168, .inl .i2l, 169), (169, .inl .ladd, 170), (170, .inl .lmul, 171)]),
  (189, [(171, .inl (.iload 10), 173), (173, .inl .i2l, 174), (174, .inl .ladd, 175), (175, .inl (.lstore_n 3), 176), (176, .inl (.iinc 7 1), 179), (179, .inl (.goto (-110)), 182), (182, .inl (.iinc 5 1), 185), (185, .inl (.goto (-180)), 188), (188, .inl (.lload_n 3), 189), (189, .inl .lreturn, 190)])]
noncomputable def zc_Mod_fingerprint : zm_C := [(8, [(0, .inl (.aload_n 0), 1), (1, .inl (.iconst 0), 2), (2, .inr (1, 65, 7, 9), 5), (5, .inr (14, 295, 31, 0), 8), (8, .inr (14, 297, 43, 0), 11)]),
  (19, [(11, .inl (.aload_n 0), 12), (12, .inr (0, 7, 7, 0), 15), (15, .inr (3, 299, 248, 2), 18), (18, .inl (.aload_n 0), 19), (19, .inr (0, 13, 7, 1), 22)]),
  (30, [(22, .inr (3, 299, 248, 2), 25), (25, .inl .lmul, 26), (26, .inl (.aload_n 0), 27), (27, .inr (0, 191, 7, 8), 30), (30, .inl .i2l, 31)]),
  (32, [(31, .inl .ladd, 32), (32, .inl .lreturn, 33)])]
noncomputable def zc_Law_law_0 : List zm_I := [(0, .inr (9, 8, 6, 0), 3), (3, .inl .dup, 4), (4, .inr (6, 105, 7, 0), 7), (7, .inl (.astore_n 1), 8), (8, .inr (9, 106, 7, 0), 11), (11, .inl .dup, 12), (12, .inr (6, 108, 8, 0), 15), (15, .inl (.astore_n 2), 16), (16, .inl (.iconst 1), 17), (17, .inl (.newarray .long), 19), (19, .inl (.astore_n 3), 20), (20, .inl (.iconst 0), 21), (21, .inl (.istore 4), 23), (23, .inl (.iload 4), 25), (25, .inl (.aload_n 0), 26), (26, .inl .arraylength, 27), (27, .inl (.bipush 6), 29), (29, .inl .isub, 30), (30, .inl (.if_icmp .gt 2199), 33), (33, .inl (.aload_n 0), 34), (34, .inl (.iload 4), 36), (36, .inl .iaload, 37), (37, .inl (.bipush 31), 39), (39, .inl .iand, 40), (40, .inl (.tableswitch 2183 0 31 #[144, 212, 280, 360, 440, 520, 600, 692, 784, 888, 992, 1048, 1116, 1184, 1252, 1308, 1419, 1432, 1445, 1458, 1514, 1582, 1595, 1639, 1702, 1765, 1821, 1877, 1945, 2029, 2113, 2169]), 184), (184, .inl (.aload_n 1), 185), (185, .inl (.aload_n 0), 186), (186, .inl (.iload 4), 188), (188, .inl (.iconst 1), 189), (189, .inl .iadd, 190), (190, .inl .iaload, 191), (191, .inl (.aload_n 0), 192), (192, .inl (.iload 4), 194), (194, .inl (.iconst 2), 195), (195, .inl .iadd, 196), (196, .inl .iaload, 197), (197, .inl (.aload_n 3), 198), (198, .inr (15, 109, 43, 4), 201)]
noncomputable def zc_Law_law_1 : List zm_I := [(201, .inl (.istore 5), 203), (203, .inl (.aload_n 2), 204), (204, .inl (.aload_n 0), 205), (205, .inl (.iload 4), 207), (207, .inl (.iconst 1), 208), (208, .inl .iadd, 209), (209, .inl .iaload, 210), (210, .inl (.aload_n 0), 211), (211, .inl (.iload 4), 213), (213, .inl (.iconst 2), 214), (214, .inl .iadd, 215), (215, .inl .iaload, 216), (216, .inr (5, 114, 66, 2), 219), (219, .inl (.istore 6), 221), (221, .inl (.aload_n 2), 222), (222, .inr (5, 115, 67, 0), 225), (225, .inl (.iload 5), 227), (227, .inl (.if_icmp .eq 5), 230), (230, .inl (.iconst 0), 231), (231, .inl .ireturn, 232), (232, .inl (.iload 5), 234), (234, .inl (.ifCond .ne 15), 237), (237, .inl (.aload_n 3), 238), (238, .inl (.iconst 0), 239), (239, .inl .laload, 240), (240, .inl (.iload 6), 242), (242, .inl .i2l, 243), (243, .inl .lcmp, 244), (244, .inl (.ifCond .eq 5), 247), (247, .inl (.iconst 0), 248), (248, .inl .ireturn, 249), (249, .inl (.goto 1974), 252), (252, .inl (.aload_n 1), 253), (253, .inl (.aload_n 0), 254), (254, .inl (.iload 4), 256), (256, .inl (.iconst 1), 257), (257, .inl .iadd, 258), (258, .inl .iaload, 259)]
noncomputable def zc_Law_law_2 : List zm_I := [(259, .inl (.aload_n 0), 260), (260, .inl (.iload 4), 262), (262, .inl (.iconst 2), 263), (263, .inl .iadd, 264), (264, .inl .iaload, 265), (265, .inl (.aload_n 3), 266), (266, .inr (15, 118, 69, 4), 269), (269, .inl (.istore 5), 271), (271, .inl (.aload_n 2), 272), (272, .inl (.aload_n 0), 273), (273, .inl (.iload 4), 275), (275, .inl (.iconst 1), 276), (276, .inl .iadd, 277), (277, .inl .iaload, 278), (278, .inl (.aload_n 0), 279), (279, .inl (.iload 4), 281), (281, .inl (.iconst 2), 282), (282, .inl .iadd, 283), (283, .inl .iaload, 284), (284, .inr (5, 120, 70, 2), 287), (287, .inl (.istore 6), 289), (289, .inl (.aload_n 2), 290), (290, .inr (5, 115, 67, 0), 293), (293, .inl (.iload 5), 295), (295, .inl (.if_icmp .eq 5), 298), (298, .inl (.iconst 0), 299), (299, .inl .ireturn, 300), (300, .inl (.iload 5), 302), (302, .inl (.ifCond .ne 15), 305), (305, .inl (.aload_n 3), 306), (306, .inl (.iconst 0), 307), (307, .inl .laload, 308), (308, .inl (.iload 6), 310), (310, .inl .i2l, 311), (311, .inl .lcmp, 312), (312, .inl (.ifCond .eq 5), 315), (315, .inl (.iconst 0), 316), (316, .inl .ireturn, 317)]
noncomputable def zc_Law_law_3 : List zm_I := [(317, .inl (.goto 1906), 320), (320, .inl (.aload_n 1), 321), (321, .inl (.aload_n 0), 322), (322, .inl (.iload 4), 324), (324, .inl (.iconst 1), 325), (325, .inl .iadd, 326), (326, .inl .iaload, 327), (327, .inl (.aload_n 0), 328), (328, .inl (.iload 4), 330), (330, .inl (.iconst 2), 331), (331, .inl .iadd, 332), (332, .inl .iaload, 333), (333, .inl (.aload_n 0), 334), (334, .inl (.iload 4), 336), (336, .inl (.iconst 3), 337), (337, .inl .iadd, 338), (338, .inl .iaload, 339), (339, .inl (.aload_n 3), 340), (340, .inr (15, 121, 72, 5), 343), (343, .inl (.istore 5), 345), (345, .inl (.aload_n 2), 346), (346, .inl (.aload_n 0), 347), (347, .inl (.iload 4), 349), (349, .inl (.iconst 1), 350), (350, .inl .iadd, 351), (351, .inl .iaload, 352), (352, .inl (.aload_n 0), 353), (353, .inl (.iload 4), 355), (355, .inl (.iconst 2), 356), (356, .inl .iadd, 357), (357, .inl .iaload, 358), (358, .inl (.aload_n 0), 359), (359, .inl (.iload 4), 361), (361, .inl (.iconst 3), 362), (362, .inl .iadd, 363), (363, .inl .iaload, 364), (364, .inr (5, 124, 73, 3), 367), (367, .inl (.istore 6), 369)]
noncomputable def zc_Law_law_4 : List zm_I := [(369, .inl (.aload_n 2), 370), (370, .inr (5, 115, 67, 0), 373), (373, .inl (.iload 5), 375), (375, .inl (.if_icmp .eq 5), 378), (378, .inl (.iconst 0), 379), (379, .inl .ireturn, 380), (380, .inl (.iload 5), 382), (382, .inl (.ifCond .ne 15), 385), (385, .inl (.aload_n 3), 386), (386, .inl (.iconst 0), 387), (387, .inl .laload, 388), (388, .inl (.iload 6), 390), (390, .inl .i2l, 391), (391, .inl .lcmp, 392), (392, .inl (.ifCond .eq 5), 395), (395, .inl (.iconst 0), 396), (396, .inl .ireturn, 397), (397, .inl (.goto 1826), 400), (400, .inl (.aload_n 1), 401), (401, .inl (.aload_n 0), 402), (402, .inl (.iload 4), 404), (404, .inl (.iconst 1), 405), (405, .inl .iadd, 406), (406, .inl .iaload, 407), (407, .inl (.aload_n 0), 408), (408, .inl (.iload 4), 410), (410, .inl (.iconst 2), 411), (411, .inl .iadd, 412), (412, .inl .iaload, 413), (413, .inl (.aload_n 0), 414), (414, .inl (.iload 4), 416), (416, .inl (.iconst 3), 417), (417, .inl .iadd, 418), (418, .inl .iaload, 419), (419, .inl (.aload_n 3), 420), (420, .inr (15, 125, 75, 5), 423), (423, .inl (.istore 5), 425), (425, .inl (.aload_n 2), 426)]
noncomputable def zc_Law_law_5 : List zm_I := [(426, .inl (.aload_n 0), 427), (427, .inl (.iload 4), 429), (429, .inl (.iconst 1), 430), (430, .inl .iadd, 431), (431, .inl .iaload, 432), (432, .inl (.aload_n 0), 433), (433, .inl (.iload 4), 435), (435, .inl (.iconst 2), 436), (436, .inl .iadd, 437), (437, .inl .iaload, 438), (438, .inl (.aload_n 0), 439), (439, .inl (.iload 4), 441), (441, .inl (.iconst 3), 442), (442, .inl .iadd, 443), (443, .inl .iaload, 444), (444, .inr (5, 127, 76, 3), 447), (447, .inl (.istore 6), 449), (449, .inl (.aload_n 2), 450), (450, .inr (5, 115, 67, 0), 453), (453, .inl (.iload 5), 455), (455, .inl (.if_icmp .eq 5), 458), (458, .inl (.iconst 0), 459), (459, .inl .ireturn, 460), (460, .inl (.iload 5), 462), (462, .inl (.ifCond .ne 15), 465), (465, .inl (.aload_n 3), 466), (466, .inl (.iconst 0), 467), (467, .inl .laload, 468), (468, .inl (.iload 6), 470), (470, .inl .i2l, 471), (471, .inl .lcmp, 472), (472, .inl (.ifCond .eq 5), 475), (475, .inl (.iconst 0), 476), (476, .inl .ireturn, 477), (477, .inl (.goto 1746), 480), (480, .inl (.aload_n 1), 481), (481, .inl (.aload_n 0), 482), (482, .inl (.iload 4), 484)]
noncomputable def zc_Law_law_6 : List zm_I := [(484, .inl (.iconst 1), 485), (485, .inl .iadd, 486), (486, .inl .iaload, 487), (487, .inl (.aload_n 0), 488), (488, .inl (.iload 4), 490), (490, .inl (.iconst 2), 491), (491, .inl .iadd, 492), (492, .inl .iaload, 493), (493, .inl (.aload_n 0), 494), (494, .inl (.iload 4), 496), (496, .inl (.iconst 3), 497), (497, .inl .iadd, 498), (498, .inl .iaload, 499), (499, .inl (.aload_n 3), 500), (500, .inr (15, 128, 78, 5), 503), (503, .inl (.istore 5), 505), (505, .inl (.aload_n 2), 506), (506, .inl (.aload_n 0), 507), (507, .inl (.iload 4), 509), (509, .inl (.iconst 1), 510), (510, .inl .iadd, 511), (511, .inl .iaload, 512), (512, .inl (.aload_n 0), 513), (513, .inl (.iload 4), 515), (515, .inl (.iconst 2), 516), (516, .inl .iadd, 517), (517, .inl .iaload, 518), (518, .inl (.aload_n 0), 519), (519, .inl (.iload 4), 521), (521, .inl (.iconst 3), 522), (522, .inl .iadd, 523), (523, .inl .iaload, 524), (524, .inr (5, 130, 80, 3), 527), (527, .inl (.istore 6), 529), (529, .inl (.aload_n 2), 530), (530, .inr (5, 115, 67, 0), 533), (533, .inl (.iload 5), 535), (535, .inl (.if_icmp .eq 5), 538)]
noncomputable def zc_Law_law_7 : List zm_I := [(538, .inl (.iconst 0), 539), (539, .inl .ireturn, 540), (540, .inl (.iload 5), 542), (542, .inl (.ifCond .ne 15), 545), (545, .inl (.aload_n 3), 546), (546, .inl (.iconst 0), 547), (547, .inl .laload, 548), (548, .inl (.iload 6), 550), (550, .inl .i2l, 551), (551, .inl .lcmp, 552), (552, .inl (.ifCond .eq 5), 555), (555, .inl (.iconst 0), 556), (556, .inl .ireturn, 557), (557, .inl (.goto 1666), 560), (560, .inl (.aload_n 1), 561), (561, .inl (.aload_n 0), 562), (562, .inl (.iload 4), 564), (564, .inl (.iconst 1), 565), (565, .inl .iadd, 566), (566, .inl .iaload, 567), (567, .inl (.aload_n 0), 568), (568, .inl (.iload 4), 570), (570, .inl (.iconst 2), 571), (571, .inl .iadd, 572), (572, .inl .iaload, 573), (573, .inl (.aload_n 0), 574), (574, .inl (.iload 4), 576), (576, .inl (.iconst 3), 577), (577, .inl .iadd, 578), (578, .inl .iaload, 579), (579, .inl (.aload_n 3), 580), (580, .inr (15, 131, 82, 5), 583), (583, .inl (.istore 5), 585), (585, .inl (.aload_n 2), 586), (586, .inl (.aload_n 0), 587), (587, .inl (.iload 4), 589), (589, .inl (.iconst 1), 590), (590, .inl .iadd, 591)]
noncomputable def zc_Law_law_8 : List zm_I := [(591, .inl .iaload, 592), (592, .inl (.aload_n 0), 593), (593, .inl (.iload 4), 595), (595, .inl (.iconst 2), 596), (596, .inl .iadd, 597), (597, .inl .iaload, 598), (598, .inl (.aload_n 0), 599), (599, .inl (.iload 4), 601), (601, .inl (.iconst 3), 602), (602, .inl .iadd, 603), (603, .inl .iaload, 604), (604, .inr (5, 133, 83, 3), 607), (607, .inl (.istore 6), 609), (609, .inl (.aload_n 2), 610), (610, .inr (5, 115, 67, 0), 613), (613, .inl (.iload 5), 615), (615, .inl (.if_icmp .eq 5), 618), (618, .inl (.iconst 0), 619), (619, .inl .ireturn, 620), (620, .inl (.iload 5), 622), (622, .inl (.ifCond .ne 15), 625), (625, .inl (.aload_n 3), 626), (626, .inl (.iconst 0), 627), (627, .inl .laload, 628), (628, .inl (.iload 6), 630), (630, .inl .i2l, 631), (631, .inl .lcmp, 632), (632, .inl (.ifCond .eq 5), 635), (635, .inl (.iconst 0), 636), (636, .inl .ireturn, 637), (637, .inl (.goto 1586), 640), (640, .inl (.aload_n 1), 641), (641, .inl (.aload_n 0), 642), (642, .inl (.iload 4), 644), (644, .inl (.iconst 1), 645), (645, .inl .iadd, 646), (646, .inl .iaload, 647), (647, .inl (.aload_n 0), 648)]
noncomputable def zc_Law_law_9 : List zm_I := [(648, .inl (.iload 4), 650), (650, .inl (.iconst 2), 651), (651, .inl .iadd, 652), (652, .inl .iaload, 653), (653, .inl (.aload_n 0), 654), (654, .inl (.iload 4), 656), (656, .inl (.iconst 3), 657), (657, .inl .iadd, 658), (658, .inl .iaload, 659), (659, .inl (.aload_n 0), 660), (660, .inl (.iload 4), 662), (662, .inl (.iconst 4), 663), (663, .inl .iadd, 664), (664, .inl .iaload, 665), (665, .inl (.aload_n 3), 666), (666, .inr (15, 134, 85, 6), 669), (669, .inl (.istore 5), 671), (671, .inl (.aload_n 2), 672), (672, .inl (.aload_n 0), 673), (673, .inl (.iload 4), 675), (675, .inl (.iconst 1), 676), (676, .inl .iadd, 677), (677, .inl .iaload, 678), (678, .inl (.aload_n 0), 679), (679, .inl (.iload 4), 681), (681, .inl (.iconst 2), 682), (682, .inl .iadd, 683), (683, .inl .iaload, 684), (684, .inl (.aload_n 0), 685), (685, .inl (.iload 4), 687), (687, .inl (.iconst 3), 688), (688, .inl .iadd, 689), (689, .inl .iaload, 690), (690, .inl (.aload_n 0), 691), (691, .inl (.iload 4), 693), (693, .inl (.iconst 4), 694), (694, .inl .iadd, 695), (695, .inl .iaload, 696)]
noncomputable def zc_Law_law_10 : List zm_I := [(696, .inr (5, 137, 86, 4), 699), (699, .inl (.istore 6), 701), (701, .inl (.aload_n 2), 702), (702, .inr (5, 115, 67, 0), 705), (705, .inl (.iload 5), 707), (707, .inl (.if_icmp .eq 5), 710), (710, .inl (.iconst 0), 711), (711, .inl .ireturn, 712), (712, .inl (.iload 5), 714), (714, .inl (.ifCond .ne 15), 717), (717, .inl (.aload_n 3), 718), (718, .inl (.iconst 0), 719), (719, .inl .laload, 720), (720, .inl (.iload 6), 722), (722, .inl .i2l, 723), (723, .inl .lcmp, 724), (724, .inl (.ifCond .eq 5), 727), (727, .inl (.iconst 0), 728), (728, .inl .ireturn, 729), (729, .inl (.goto 1494), 732), (732, .inl (.aload_n 1), 733), (733, .inl (.aload_n 0), 734), (734, .inl (.iload 4), 736), (736, .inl (.iconst 1), 737), (737, .inl .iadd, 738), (738, .inl .iaload, 739), (739, .inl (.aload_n 0), 740), (740, .inl (.iload 4), 742), (742, .inl (.iconst 2), 743), (743, .inl .iadd, 744), (744, .inl .iaload, 745), (745, .inl (.aload_n 0), 746), (746, .inl (.iload 4), 748), (748, .inl (.iconst 3), 749), (749, .inl .iadd, 750), (750, .inl .iaload, 751), (751, .inl (.aload_n 0), 752), (752, .inl (.iload 4), 754)]
noncomputable def zc_Law_law_11 : List zm_I := [(754, .inl (.iconst 4), 755), (755, .inl .iadd, 756), (756, .inl .iaload, 757), (757, .inl (.aload_n 3), 758), (758, .inr (15, 138, 88, 6), 761), (761, .inl (.istore 5), 763), (763, .inl (.aload_n 2), 764), (764, .inl (.aload_n 0), 765), (765, .inl (.iload 4), 767), (767, .inl (.iconst 1), 768), (768, .inl .iadd, 769), (769, .inl .iaload, 770), (770, .inl (.aload_n 0), 771), (771, .inl (.iload 4), 773), (773, .inl (.iconst 2), 774), (774, .inl .iadd, 775), (775, .inl .iaload, 776), (776, .inl (.aload_n 0), 777), (777, .inl (.iload 4), 779), (779, .inl (.iconst 3), 780), (780, .inl .iadd, 781), (781, .inl .iaload, 782), (782, .inl (.aload_n 0), 783), (783, .inl (.iload 4), 785), (785, .inl (.iconst 4), 786), (786, .inl .iadd, 787), (787, .inl .iaload, 788), (788, .inr (5, 140, 89, 4), 791), (791, .inl (.istore 6), 793), (793, .inl (.aload_n 2), 794), (794, .inr (5, 115, 67, 0), 797), (797, .inl (.iload 5), 799), (799, .inl (.if_icmp .eq 5), 802), (802, .inl (.iconst 0), 803), (803, .inl .ireturn, 804), (804, .inl (.iload 5), 806), (806, .inl (.ifCond .ne 15), 809), (809, .inl (.aload_n 3), 810)]
noncomputable def zc_Law_law_12 : List zm_I := [(810, .inl (.iconst 0), 811), (811, .inl .laload, 812), (812, .inl (.iload 6), 814), (814, .inl .i2l, 815), (815, .inl .lcmp, 816), (816, .inl (.ifCond .eq 5), 819), (819, .inl (.iconst 0), 820), (820, .inl .ireturn, 821), (821, .inl (.goto 1402), 824), (824, .inl (.aload_n 1), 825), (825, .inl (.aload_n 0), 826), (826, .inl (.iload 4), 828), (828, .inl (.iconst 1), 829), (829, .inl .iadd, 830), (830, .inl .iaload, 831), (831, .inl (.aload_n 0), 832), (832, .inl (.iload 4), 834), (834, .inl (.iconst 2), 835), (835, .inl .iadd, 836), (836, .inl .iaload, 837), (837, .inl (.aload_n 0), 838), (838, .inl (.iload 4), 840), (840, .inl (.iconst 3), 841), (841, .inl .iadd, 842), (842, .inl .iaload, 843), (843, .inl (.aload_n 0), 844), (844, .inl (.iload 4), 846), (846, .inl (.iconst 4), 847), (847, .inl .iadd, 848), (848, .inl .iaload, 849), (849, .inl (.aload_n 0), 850), (850, .inl (.iload 4), 852), (852, .inl (.iconst 5), 853), (853, .inl .iadd, 854), (854, .inl .iaload, 855), (855, .inl (.aload_n 3), 856), (856, .inr (15, 141, 91, 7), 859), (859, .inl (.istore 5), 861)]
noncomputable def zc_Law_law_13 : List zm_I := [(861, .inl (.aload_n 2), 862), (862, .inl (.aload_n 0), 863), (863, .inl (.iload 4), 865), (865, .inl (.iconst 1), 866), (866, .inl .iadd, 867), (867, .inl .iaload, 868), (868, .inl (.aload_n 0), 869), (869, .inl (.iload 4), 871), (871, .inl (.iconst 2), 872), (872, .inl .iadd, 873), (873, .inl .iaload, 874), (874, .inl (.aload_n 0), 875), (875, .inl (.iload 4), 877), (877, .inl (.iconst 3), 878), (878, .inl .iadd, 879), (879, .inl .iaload, 880), (880, .inl (.aload_n 0), 881), (881, .inl (.iload 4), 883), (883, .inl (.iconst 4), 884), (884, .inl .iadd, 885), (885, .inl .iaload, 886), (886, .inl (.aload_n 0), 887), (887, .inl (.iload 4), 889), (889, .inl (.iconst 5), 890), (890, .inl .iadd, 891), (891, .inl .iaload, 892), (892, .inr (5, 144, 93, 5), 895), (895, .inl (.istore 6), 897), (897, .inl (.aload_n 2), 898), (898, .inr (5, 115, 67, 0), 901), (901, .inl (.iload 5), 903), (903, .inl (.if_icmp .eq 5), 906), (906, .inl (.iconst 0), 907), (907, .inl .ireturn, 908), (908, .inl (.iload 5), 910), (910, .inl (.ifCond .ne 15), 913), (913, .inl (.aload_n 3), 914), (914, .inl (.iconst 0), 915)]
noncomputable def zc_Law_law_14 : List zm_I := [(915, .inl .laload, 916), (916, .inl (.iload 6), 918), (918, .inl .i2l, 919), (919, .inl .lcmp, 920), (920, .inl (.ifCond .eq 5), 923), (923, .inl (.iconst 0), 924), (924, .inl .ireturn, 925), (925, .inl (.goto 1298), 928), (928, .inl (.aload_n 1), 929), (929, .inl (.aload_n 0), 930), (930, .inl (.iload 4), 932), (932, .inl (.iconst 1), 933), (933, .inl .iadd, 934), (934, .inl .iaload, 935), (935, .inl (.aload_n 0), 936), (936, .inl (.iload 4), 938), (938, .inl (.iconst 2), 939), (939, .inl .iadd, 940), (940, .inl .iaload, 941), (941, .inl (.aload_n 0), 942), (942, .inl (.iload 4), 944), (944, .inl (.iconst 3), 945), (945, .inl .iadd, 946), (946, .inl .iaload, 947), (947, .inl (.aload_n 0), 948), (948, .inl (.iload 4), 950), (950, .inl (.iconst 4), 951), (951, .inl .iadd, 952), (952, .inl .iaload, 953), (953, .inl (.aload_n 0), 954), (954, .inl (.iload 4), 956), (956, .inl (.iconst 5), 957), (957, .inl .iadd, 958), (958, .inl .iaload, 959), (959, .inl (.aload_n 3), 960), (960, .inr (15, 145, 95, 7), 963), (963, .inl (.istore 5), 965), (965, .inl (.aload_n 2), 966)]
noncomputable def zc_Law_law_15 : List zm_I := [(966, .inl (.aload_n 0), 967), (967, .inl (.iload 4), 969), (969, .inl (.iconst 1), 970), (970, .inl .iadd, 971), (971, .inl .iaload, 972), (972, .inl (.aload_n 0), 973), (973, .inl (.iload 4), 975), (975, .inl (.iconst 2), 976), (976, .inl .iadd, 977), (977, .inl .iaload, 978), (978, .inl (.aload_n 0), 979), (979, .inl (.iload 4), 981), (981, .inl (.iconst 3), 982), (982, .inl .iadd, 983), (983, .inl .iaload, 984), (984, .inl (.aload_n 0), 985), (985, .inl (.iload 4), 987), (987, .inl (.iconst 4), 988), (988, .inl .iadd, 989), (989, .inl .iaload, 990), (990, .inl (.aload_n 0), 991), (991, .inl (.iload 4), 993), (993, .inl (.iconst 5), 994), (994, .inl .iadd, 995), (995, .inl .iaload, 996), (996, .inr (5, 147, 96, 5), 999), (999, .inl (.istore 6), 1001), (1001, .inl (.aload_n 2), 1002), (1002, .inr (5, 115, 67, 0), 1005), (1005, .inl (.iload 5), 1007), (1007, .inl (.if_icmp .eq 5), 1010), (1010, .inl (.iconst 0), 1011), (1011, .inl .ireturn, 1012), (1012, .inl (.iload 5), 1014), (1014, .inl (.ifCond .ne 15), 1017), (1017, .inl (.aload_n 3), 1018), (1018, .inl (.iconst 0), 1019), (1019, .inl .laload, 1020)]
noncomputable def zc_Law_law_16 : List zm_I := [(1020, .inl (.iload 6), 1022), (1022, .inl .i2l, 1023), (1023, .inl .lcmp, 1024), (1024, .inl (.ifCond .eq 5), 1027), (1027, .inl (.iconst 0), 1028), (1028, .inl .ireturn, 1029), (1029, .inl (.goto 1194), 1032), (1032, .inl (.aload_n 1), 1033), (1033, .inl (.aload_n 0), 1034), (1034, .inl (.iload 4), 1036), (1036, .inl (.iconst 1), 1037), (1037, .inl .iadd, 1038), (1038, .inl .iaload, 1039), (1039, .inl (.aload_n 3), 1040), (1040, .inr (15, 148, 99, 3), 1043), (1043, .inl (.istore 5), 1045), (1045, .inl (.aload_n 2), 1046), (1046, .inl (.aload_n 0), 1047), (1047, .inl (.iload 4), 1049), (1049, .inl (.iconst 1), 1050), (1050, .inl .iadd, 1051), (1051, .inl .iaload, 1052), (1052, .inr (5, 151, 103, 1), 1055), (1055, .inl (.istore 6), 1057), (1057, .inl (.aload_n 2), 1058), (1058, .inr (5, 115, 67, 0), 1061), (1061, .inl (.iload 5), 1063), (1063, .inl (.if_icmp .eq 5), 1066), (1066, .inl (.iconst 0), 1067), (1067, .inl .ireturn, 1068), (1068, .inl (.iload 5), 1070), (1070, .inl (.ifCond .ne 15), 1073), (1073, .inl (.aload_n 3), 1074), (1074, .inl (.iconst 0), 1075), (1075, .inl .laload, 1076), (1076, .inl (.iload 6), 1078), (1078, .inl .i2l, 1079), (1079, .inl .lcmp, 1080)]
noncomputable def zc_Law_law_17 : List zm_I := [(1080, .inl (.ifCond .eq 5), 1083), (1083, .inl (.iconst 0), 1084), (1084, .inl .ireturn, 1085), (1085, .inl (.goto 1138), 1088), (1088, .inl (.aload_n 1), 1089), (1089, .inl (.aload_n 0), 1090), (1090, .inl (.iload 4), 1092), (1092, .inl (.iconst 1), 1093), (1093, .inl .iadd, 1094), (1094, .inl .iaload, 1095), (1095, .inl (.aload_n 0), 1096), (1096, .inl (.iload 4), 1098), (1098, .inl (.iconst 2), 1099), (1099, .inl .iadd, 1100), (1100, .inl .iaload, 1101), (1101, .inl (.aload_n 3), 1102), (1102, .inr (15, 152, 106, 4), 1105), (1105, .inl (.istore 5), 1107), (1107, .inl (.aload_n 2), 1108), (1108, .inl (.aload_n 0), 1109), (1109, .inl (.iload 4), 1111), (1111, .inl (.iconst 1), 1112), (1112, .inl .iadd, 1113), (1113, .inl .iaload, 1114), (1114, .inl (.aload_n 0), 1115), (1115, .inl (.iload 4), 1117), (1117, .inl (.iconst 2), 1118), (1118, .inl .iadd, 1119), (1119, .inl .iaload, 1120), (1120, .inr (5, 154, 109, 2), 1123), (1123, .inl (.istore 6), 1125), (1125, .inl (.aload_n 2), 1126), (1126, .inr (5, 115, 67, 0), 1129), (1129, .inl (.iload 5), 1131), (1131, .inl (.if_icmp .eq 5), 1134), (1134, .inl (.iconst 0), 1135), (1135, .inl .ireturn, 1136), (1136, .inl (.iload 5), 1138)]
noncomputable def zc_Law_law_18 : List zm_I := [(1138, .inl (.ifCond .ne 15), 1141), (1141, .inl (.aload_n 3), 1142), (1142, .inl (.iconst 0), 1143), (1143, .inl .laload, 1144), (1144, .inl (.iload 6), 1146), (1146, .inl .i2l, 1147), (1147, .inl .lcmp, 1148), (1148, .inl (.ifCond .eq 5), 1151), (1151, .inl (.iconst 0), 1152), (1152, .inl .ireturn, 1153), (1153, .inl (.goto 1070), 1156), (1156, .inl (.aload_n 1), 1157), (1157, .inl (.aload_n 0), 1158), (1158, .inl (.iload 4), 1160), (1160, .inl (.iconst 1), 1161), (1161, .inl .iadd, 1162), (1162, .inl .iaload, 1163), (1163, .inl (.aload_n 0), 1164), (1164, .inl (.iload 4), 1166), (1166, .inl (.iconst 2), 1167), (1167, .inl .iadd, 1168), (1168, .inl .iaload, 1169), (1169, .inl (.aload_n 3), 1170), (1170, .inr (15, 155, 113, 4), 1173), (1173, .inl (.istore 5), 1175), (1175, .inl (.aload_n 2), 1176), (1176, .inl (.aload_n 0), 1177), (1177, .inl (.iload 4), 1179), (1179, .inl (.iconst 1), 1180), (1180, .inl .iadd, 1181), (1181, .inl .iaload, 1182), (1182, .inl (.aload_n 0), 1183), (1183, .inl (.iload 4), 1185), (1185, .inl (.iconst 2), 1186), (1186, .inl .iadd, 1187), (1187, .inl .iaload, 1188), (1188, .inr (5, 157, 116, 2), 1191), (1191, .inl (.istore 6), 1193)]
noncomputable def zc_Law_law_19 : List zm_I := [(1193, .inl (.aload_n 2), 1194), (1194, .inr (5, 115, 67, 0), 1197), (1197, .inl (.iload 5), 1199), (1199, .inl (.if_icmp .eq 5), 1202), (1202, .inl (.iconst 0), 1203), (1203, .inl .ireturn, 1204), (1204, .inl (.iload 5), 1206), (1206, .inl (.ifCond .ne 15), 1209), (1209, .inl (.aload_n 3), 1210), (1210, .inl (.iconst 0), 1211), (1211, .inl .laload, 1212), (1212, .inl (.iload 6), 1214), (1214, .inl .i2l, 1215), (1215, .inl .lcmp, 1216), (1216, .inl (.ifCond .eq 5), 1219), (1219, .inl (.iconst 0), 1220), (1220, .inl .ireturn, 1221), (1221, .inl (.goto 1002), 1224), (1224, .inl (.aload_n 1), 1225), (1225, .inl (.aload_n 0), 1226), (1226, .inl (.iload 4), 1228), (1228, .inl (.iconst 1), 1229), (1229, .inl .iadd, 1230), (1230, .inl .iaload, 1231), (1231, .inl (.aload_n 0), 1232), (1232, .inl (.iload 4), 1234), (1234, .inl (.iconst 2), 1235), (1235, .inl .iadd, 1236), (1236, .inl .iaload, 1237), (1237, .inl (.aload_n 3), 1238), (1238, .inr (15, 158, 118, 4), 1241), (1241, .inl (.istore 5), 1243), (1243, .inl (.aload_n 2), 1244), (1244, .inl (.aload_n 0), 1245), (1245, .inl (.iload 4), 1247), (1247, .inl (.iconst 1), 1248), (1248, .inl .iadd, 1249), (1249, .inl .iaload, 1250)]
noncomputable def zc_Law_law_20 : List zm_I := [(1250, .inl (.aload_n 0), 1251), (1251, .inl (.iload 4), 1253), (1253, .inl (.iconst 2), 1254), (1254, .inl .iadd, 1255), (1255, .inl .iaload, 1256), (1256, .inr (5, 160, 120, 2), 1259), (1259, .inl (.istore 6), 1261), (1261, .inl (.aload_n 2), 1262), (1262, .inr (5, 115, 67, 0), 1265), (1265, .inl (.iload 5), 1267), (1267, .inl (.if_icmp .eq 5), 1270), (1270, .inl (.iconst 0), 1271), (1271, .inl .ireturn, 1272), (1272, .inl (.iload 5), 1274), (1274, .inl (.ifCond .ne 15), 1277), (1277, .inl (.aload_n 3), 1278), (1278, .inl (.iconst 0), 1279), (1279, .inl .laload, 1280), (1280, .inl (.iload 6), 1282), (1282, .inl .i2l, 1283), (1283, .inl .lcmp, 1284), (1284, .inl (.ifCond .eq 5), 1287), (1287, .inl (.iconst 0), 1288), (1288, .inl .ireturn, 1289), (1289, .inl (.goto 934), 1292), (1292, .inl (.aload_n 1), 1293), (1293, .inl (.aload_n 0), 1294), (1294, .inl (.iload 4), 1296), (1296, .inl (.iconst 1), 1297), (1297, .inl .iadd, 1298), (1298, .inl .iaload, 1299), (1299, .inl (.aload_n 3), 1300), (1300, .inr (15, 161, 122, 3), 1303), (1303, .inl (.istore 5), 1305), (1305, .inl (.aload_n 2), 1306), (1306, .inl (.aload_n 0), 1307), (1307, .inl (.iload 4), 1309), (1309, .inl (.iconst 1), 1310)]
noncomputable def zc_Law_law_21 : List zm_I := [(1310, .inl .iadd, 1311), (1311, .inl .iaload, 1312), (1312, .inr (5, 163, 123, 1), 1315), (1315, .inl (.istore 6), 1317), (1317, .inl (.aload_n 2), 1318), (1318, .inr (5, 115, 67, 0), 1321), (1321, .inl (.iload 5), 1323), (1323, .inl (.if_icmp .eq 5), 1326), (1326, .inl (.iconst 0), 1327), (1327, .inl .ireturn, 1328), (1328, .inl (.iload 5), 1330), (1330, .inl (.ifCond .ne 15), 1333), (1333, .inl (.aload_n 3), 1334), (1334, .inl (.iconst 0), 1335), (1335, .inl .laload, 1336), (1336, .inl (.iload 6), 1338), (1338, .inl .i2l, 1339), (1339, .inl .lcmp, 1340), (1340, .inl (.ifCond .eq 5), 1343), (1343, .inl (.iconst 0), 1344), (1344, .inl .ireturn, 1345), (1345, .inl (.goto 878), 1348), (1348, .inl (.aload_n 1), 1349), (1349, .inl (.aload_n 0), 1350), (1350, .inl (.iload 4), 1352), (1352, .inl (.iconst 1), 1353), (1353, .inl .iadd, 1354), (1354, .inl .iaload, 1355), (1355, .inl (.aload_n 0), 1356), (1356, .inl (.iload 4), 1358), (1358, .inl (.iconst 2), 1359), (1359, .inl .iadd, 1360), (1360, .inl .iaload, 1361), (1361, .inl (.aload_n 0), 1362), (1362, .inl (.iload 4), 1364), (1364, .inl (.iconst 3), 1365), (1365, .inl .iadd, 1366), (1366, .inl .iaload, 1367)]
noncomputable def zc_Law_law_22 : List zm_I := [(1367, .inl (.aload_n 0), 1368), (1368, .inl (.iload 4), 1370), (1370, .inl (.iconst 4), 1371), (1371, .inl .iadd, 1372), (1372, .inl .iaload, 1373), (1373, .inl (.aload_n 0), 1374), (1374, .inl (.iload 4), 1376), (1376, .inl (.iconst 5), 1377), (1377, .inl .iadd, 1378), (1378, .inl .iaload, 1379), (1379, .inl (.aload_n 3), 1380), (1380, .inr (15, 164, 126, 7), 1383), (1383, .inl (.istore 5), 1385), (1385, .inl (.aload_n 2), 1386), (1386, .inl (.aload_n 0), 1387), (1387, .inl (.iload 4), 1389), (1389, .inl (.iconst 1), 1390), (1390, .inl .iadd, 1391), (1391, .inl .iaload, 1392), (1392, .inl (.aload_n 0), 1393), (1393, .inl (.iload 4), 1395), (1395, .inl (.iconst 2), 1396), (1396, .inl .iadd, 1397), (1397, .inl .iaload, 1398), (1398, .inl (.aload_n 0), 1399), (1399, .inl (.iload 4), 1401), (1401, .inl (.iconst 3), 1402), (1402, .inl .iadd, 1403), (1403, .inl .iaload, 1404), (1404, .inl (.aload_n 0), 1405), (1405, .inl (.iload 4), 1407), (1407, .inl (.iconst 4), 1408), (1408, .inl .iadd, 1409), (1409, .inl .iaload, 1410), (1410, .inl (.aload_n 0), 1411), (1411, .inl (.iload 4), 1413), (1413, .inl (.iconst 5), 1414), (1414, .inl .iadd, 1415)]
noncomputable def zc_Law_law_23 : List zm_I := [(1415, .inl .iaload, 1416), (1416, .inr (5, 166, 127, 5), 1419), (1419, .inl (.istore 6), 1421), (1421, .inl (.aload_n 2), 1422), (1422, .inr (5, 115, 67, 0), 1425), (1425, .inl (.iload 5), 1427), (1427, .inl (.if_icmp .eq 5), 1430), (1430, .inl (.iconst 0), 1431), (1431, .inl .ireturn, 1432), (1432, .inl (.iload 5), 1434), (1434, .inl (.ifCond .ne 22), 1437), (1437, .inl (.aload_n 3), 1438), (1438, .inl (.iconst 0), 1439), (1439, .inl .laload, 1440), (1440, .inl (.iload 6), 1442), (1442, .inl (.ifCond .eq 7), 1445), (1445, .inl (.lconst 1), 1446), (1446, .inl (.goto 4), 1449), (1449, .inl (.lconst 0), 1450), (1450, .inl .lcmp, 1451), (1451, .inl (.ifCond .eq 5), 1454), (1454, .inl (.iconst 0), 1455), (1455, .inl .ireturn, 1456), (1456, .inl (.goto 767), 1459), (1459, .inl (.aload_n 1), 1460), (1460, .inr (5, 167, 129, 0), 1463), (1463, .inl (.aload_n 2), 1464), (1464, .inr (5, 170, 130, 0), 1467), (1467, .inl (.if_icmp .eq 756), 1470), (1470, .inl (.iconst 0), 1471), (1471, .inl .ireturn, 1472), (1472, .inl (.aload_n 1), 1473), (1473, .inr (5, 171, 138, 0), 1476), (1476, .inl (.aload_n 2), 1477), (1477, .inr (5, 175, 142, 0), 1480), (1480, .inl (.if_icmp .eq 743), 1483), (1483, .inl (.iconst 0), 1484), (1484, .inl .ireturn, 1485)]
noncomputable def zc_Law_law_24 : List zm_I := [(1485, .inl (.aload_n 1), 1486), (1486, .inr (5, 176, 143, 0), 1489), (1489, .inl (.aload_n 2), 1490), (1490, .inr (5, 179, 144, 0), 1493), (1493, .inl (.if_icmp .eq 730), 1496), (1496, .inl (.iconst 0), 1497), (1497, .inl .ireturn, 1498), (1498, .inl (.aload_n 1), 1499), (1499, .inl (.aload_n 0), 1500), (1500, .inl (.iload 4), 1502), (1502, .inl (.iconst 1), 1503), (1503, .inl .iadd, 1504), (1504, .inl .iaload, 1505), (1505, .inl (.aload_n 3), 1506), (1506, .inr (15, 180, 148, 3), 1509), (1509, .inl (.istore 5), 1511), (1511, .inl (.aload_n 2), 1512), (1512, .inl (.aload_n 0), 1513), (1513, .inl (.iload 4), 1515), (1515, .inl (.iconst 1), 1516), (1516, .inl .iadd, 1517), (1517, .inl .iaload, 1518), (1518, .inr (5, 182, 149, 1), 1521), (1521, .inl (.istore 6), 1523), (1523, .inl (.aload_n 2), 1524), (1524, .inr (5, 115, 67, 0), 1527), (1527, .inl (.iload 5), 1529), (1529, .inl (.if_icmp .eq 5), 1532), (1532, .inl (.iconst 0), 1533), (1533, .inl .ireturn, 1534), (1534, .inl (.iload 5), 1536), (1536, .inl (.ifCond .ne 15), 1539), (1539, .inl (.aload_n 3), 1540), (1540, .inl (.iconst 0), 1541), (1541, .inl .laload, 1542), (1542, .inl (.iload 6), 1544), (1544, .inl .i2l, 1545), (1545, .inl .lcmp, 1546)]
noncomputable def zc_Law_law_25 : List zm_I := [(1546, .inl (.ifCond .eq 5), 1549), (1549, .inl (.iconst 0), 1550), (1550, .inl .ireturn, 1551), (1551, .inl (.goto 672), 1554), (1554, .inl (.aload_n 1), 1555), (1555, .inl (.aload_n 0), 1556), (1556, .inl (.iload 4), 1558), (1558, .inl (.iconst 1), 1559), (1559, .inl .iadd, 1560), (1560, .inl .iaload, 1561), (1561, .inl (.aload_n 0), 1562), (1562, .inl (.iload 4), 1564), (1564, .inl (.iconst 2), 1565), (1565, .inl .iadd, 1566), (1566, .inl .iaload, 1567), (1567, .inl (.aload_n 3), 1568), (1568, .inr (15, 183, 151, 4), 1571), (1571, .inl (.istore 5), 1573), (1573, .inl (.aload_n 2), 1574), (1574, .inl (.aload_n 0), 1575), (1575, .inl (.iload 4), 1577), (1577, .inl (.iconst 1), 1578), (1578, .inl .iadd, 1579), (1579, .inl .iaload, 1580), (1580, .inl (.aload_n 0), 1581), (1581, .inl (.iload 4), 1583), (1583, .inl (.iconst 2), 1584), (1584, .inl .iadd, 1585), (1585, .inl .iaload, 1586), (1586, .inr (5, 185, 152, 2), 1589), (1589, .inl (.istore 6), 1591), (1591, .inl (.aload_n 2), 1592), (1592, .inr (5, 115, 67, 0), 1595), (1595, .inl (.iload 5), 1597), (1597, .inl (.if_icmp .eq 5), 1600), (1600, .inl (.iconst 0), 1601), (1601, .inl .ireturn, 1602), (1602, .inl (.iload 5), 1604)]
noncomputable def zc_Law_law_26 : List zm_I := [(1604, .inl (.ifCond .ne 15), 1607), (1607, .inl (.aload_n 3), 1608), (1608, .inl (.iconst 0), 1609), (1609, .inl .laload, 1610), (1610, .inl (.iload 6), 1612), (1612, .inl .i2l, 1613), (1613, .inl .lcmp, 1614), (1614, .inl (.ifCond .eq 5), 1617), (1617, .inl (.iconst 0), 1618), (1618, .inl .ireturn, 1619), (1619, .inl (.goto 604), 1622), (1622, .inl (.aload_n 1), 1623), (1623, .inr (5, 186, 153, 0), 1626), (1626, .inl (.aload_n 2), 1627), (1627, .inr (5, 189, 154, 0), 1630), (1630, .inl (.if_icmp .eq 593), 1633), (1633, .inl (.iconst 0), 1634), (1634, .inl .ireturn, 1635), (1635, .inl (.aload_n 1), 1636), (1636, .inl (.aload_n 3), 1637), (1637, .inr (15, 190, 157, 2), 1640), (1640, .inl (.istore 5), 1642), (1642, .inl (.aload_n 2), 1643), (1643, .inr (5, 193, 160, 0), 1646), (1646, .inl (.istore 6), 1648), (1648, .inl (.aload_n 2), 1649), (1649, .inr (5, 115, 67, 0), 1652), (1652, .inl (.iload 5), 1654), (1654, .inl (.if_icmp .eq 5), 1657), (1657, .inl (.iconst 0), 1658), (1658, .inl .ireturn, 1659), (1659, .inl (.iload 5), 1661), (1661, .inl (.ifCond .ne 15), 1664), (1664, .inl (.aload_n 3), 1665), (1665, .inl (.iconst 0), 1666), (1666, .inl .laload, 1667), (1667, .inl (.iload 6), 1669), (1669, .inl .i2l, 1670)]
noncomputable def zc_Law_law_27 : List zm_I := [(1670, .inl .lcmp, 1671), (1671, .inl (.ifCond .eq 5), 1674), (1674, .inl (.iconst 0), 1675), (1675, .inl .ireturn, 1676), (1676, .inl (.goto 547), 1679), (1679, .inl (.aload_n 1), 1680), (1680, .inl (.aload_n 0), 1681), (1681, .inl (.iload 4), 1683), (1683, .inl (.iconst 1), 1684), (1684, .inl .iadd, 1685), (1685, .inl .iaload, 1686), (1686, .inl (.aload_n 3), 1687), (1687, .inr (15, 194, 169, 3), 1690), (1690, .inl (.istore 5), 1692), (1692, .inl (.aload_n 2), 1693), (1693, .inl (.aload_n 0), 1694), (1694, .inl (.iload 4), 1696), (1696, .inl (.iconst 1), 1697), (1697, .inl .iadd, 1698), (1698, .inl .iaload, 1699), (1699, .inr (5, 196, 175, 1), 1702), (1702, .inl (.istore 6), 1704), (1704, .inl (.aload_n 2), 1705), (1705, .inr (5, 115, 67, 0), 1708), (1708, .inl (.iload 5), 1710), (1710, .inl (.if_icmp .eq 5), 1713), (1713, .inl (.iconst 0), 1714), (1714, .inl .ireturn, 1715), (1715, .inl (.iload 5), 1717), (1717, .inl (.ifCond .ne 22), 1720), (1720, .inl (.aload_n 3), 1721), (1721, .inl (.iconst 0), 1722), (1722, .inl .laload, 1723), (1723, .inl (.iload 6), 1725), (1725, .inl (.ifCond .eq 7), 1728), (1728, .inl (.lconst 1), 1729), (1729, .inl (.goto 4), 1732), (1732, .inl (.lconst 0), 1733)]
noncomputable def zc_Law_law_28 : List zm_I := [(1733, .inl .lcmp, 1734), (1734, .inl (.ifCond .eq 5), 1737), (1737, .inl (.iconst 0), 1738), (1738, .inl .ireturn, 1739), (1739, .inl (.goto 484), 1742), (1742, .inl (.aload_n 1), 1743), (1743, .inl (.aload_n 0), 1744), (1744, .inl (.iload 4), 1746), (1746, .inl (.iconst 1), 1747), (1747, .inl .iadd, 1748), (1748, .inl .iaload, 1749), (1749, .inl (.aload_n 3), 1750), (1750, .inr (15, 197, 178, 3), 1753), (1753, .inl (.istore 5), 1755), (1755, .inl (.aload_n 2), 1756), (1756, .inl (.aload_n 0), 1757), (1757, .inl (.iload 4), 1759), (1759, .inl (.iconst 1), 1760), (1760, .inl .iadd, 1761), (1761, .inl .iaload, 1762), (1762, .inr (5, 199, 180, 1), 1765), (1765, .inl (.istore 6), 1767), (1767, .inl (.aload_n 2), 1768), (1768, .inr (5, 115, 67, 0), 1771), (1771, .inl (.iload 5), 1773), (1773, .inl (.if_icmp .eq 5), 1776), (1776, .inl (.iconst 0), 1777), (1777, .inl .ireturn, 1778), (1778, .inl (.iload 5), 1780), (1780, .inl (.ifCond .ne 22), 1783), (1783, .inl (.aload_n 3), 1784), (1784, .inl (.iconst 0), 1785), (1785, .inl .laload, 1786), (1786, .inl (.iload 6), 1788), (1788, .inl (.ifCond .eq 7), 1791), (1791, .inl (.lconst 1), 1792), (1792, .inl (.goto 4), 1795), (1795, .inl (.lconst 0), 1796)]
noncomputable def zc_Law_law_29 : List zm_I := [(1796, .inl .lcmp, 1797), (1797, .inl (.ifCond .eq 5), 1800), (1800, .inl (.iconst 0), 1801), (1801, .inl .ireturn, 1802), (1802, .inl (.goto 421), 1805), (1805, .inl (.aload_n 1), 1806), (1806, .inl (.aload_n 0), 1807), (1807, .inl (.iload 4), 1809), (1809, .inl (.iconst 1), 1810), (1810, .inl .iadd, 1811), (1811, .inl .iaload, 1812), (1812, .inl (.aload_n 3), 1813), (1813, .inr (15, 200, 185, 3), 1816), (1816, .inl (.istore 5), 1818), (1818, .inl (.aload_n 2), 1819), (1819, .inl (.aload_n 0), 1820), (1820, .inl (.iload 4), 1822), (1822, .inl (.iconst 1), 1823), (1823, .inl .iadd, 1824), (1824, .inl .iaload, 1825), (1825, .inr (5, 202, 188, 1), 1828), (1828, .inl (.istore 6), 1830), (1830, .inl (.aload_n 2), 1831), (1831, .inr (5, 115, 67, 0), 1834), (1834, .inl (.iload 5), 1836), (1836, .inl (.if_icmp .eq 5), 1839), (1839, .inl (.iconst 0), 1840), (1840, .inl .ireturn, 1841), (1841, .inl (.iload 5), 1843), (1843, .inl (.ifCond .ne 15), 1846), (1846, .inl (.aload_n 3), 1847), (1847, .inl (.iconst 0), 1848), (1848, .inl .laload, 1849), (1849, .inl (.iload 6), 1851), (1851, .inl .i2l, 1852), (1852, .inl .lcmp, 1853), (1853, .inl (.ifCond .eq 5), 1856), (1856, .inl (.iconst 0), 1857)]
noncomputable def zc_Law_law_30 : List zm_I := [(1857, .inl .ireturn, 1858), (1858, .inl (.goto 365), 1861), (1861, .inl (.aload_n 1), 1862), (1862, .inl (.aload_n 0), 1863), (1863, .inl (.iload 4), 1865), (1865, .inl (.iconst 1), 1866), (1866, .inl .iadd, 1867), (1867, .inl .iaload, 1868), (1868, .inl (.aload_n 3), 1869), (1869, .inr (15, 203, 200, 3), 1872), (1872, .inl (.istore 5), 1874), (1874, .inl (.aload_n 2), 1875), (1875, .inl (.aload_n 0), 1876), (1876, .inl (.iload 4), 1878), (1878, .inl (.iconst 1), 1879), (1879, .inl .iadd, 1880), (1880, .inl .iaload, 1881), (1881, .inr (5, 205, 206, 1), 1884), (1884, .inl (.istore 6), 1886), (1886, .inl (.aload_n 2), 1887), (1887, .inr (5, 115, 67, 0), 1890), (1890, .inl (.iload 5), 1892), (1892, .inl (.if_icmp .eq 5), 1895), (1895, .inl (.iconst 0), 1896), (1896, .inl .ireturn, 1897), (1897, .inl (.iload 5), 1899), (1899, .inl (.ifCond .ne 15), 1902), (1902, .inl (.aload_n 3), 1903), (1903, .inl (.iconst 0), 1904), (1904, .inl .laload, 1905), (1905, .inl (.iload 6), 1907), (1907, .inl .i2l, 1908), (1908, .inl .lcmp, 1909), (1909, .inl (.ifCond .eq 5), 1912), (1912, .inl (.iconst 0), 1913), (1913, .inl .ireturn, 1914), (1914, .inl (.goto 309), 1917), (1917, .inl (.aload_n 1), 1918)]
noncomputable def zc_Law_law_31 : List zm_I := [(1918, .inl (.aload_n 0), 1919), (1919, .inl (.iload 4), 1921), (1921, .inl (.iconst 1), 1922), (1922, .inl .iadd, 1923), (1923, .inl .iaload, 1924), (1924, .inl (.aload_n 0), 1925), (1925, .inl (.iload 4), 1927), (1927, .inl (.iconst 2), 1928), (1928, .inl .iadd, 1929), (1929, .inl .iaload, 1930), (1930, .inl (.aload_n 3), 1931), (1931, .inr (15, 206, 208, 4), 1934), (1934, .inl (.istore 5), 1936), (1936, .inl (.aload_n 2), 1937), (1937, .inl (.aload_n 0), 1938), (1938, .inl (.iload 4), 1940), (1940, .inl (.iconst 1), 1941), (1941, .inl .iadd, 1942), (1942, .inl .iaload, 1943), (1943, .inl (.aload_n 0), 1944), (1944, .inl (.iload 4), 1946), (1946, .inl (.iconst 2), 1947), (1947, .inl .iadd, 1948), (1948, .inl .iaload, 1949), (1949, .inr (5, 208, 209, 2), 1952), (1952, .inl (.istore 6), 1954), (1954, .inl (.aload_n 2), 1955), (1955, .inr (5, 115, 67, 0), 1958), (1958, .inl (.iload 5), 1960), (1960, .inl (.if_icmp .eq 5), 1963), (1963, .inl (.iconst 0), 1964), (1964, .inl .ireturn, 1965), (1965, .inl (.iload 5), 1967), (1967, .inl (.ifCond .ne 15), 1970), (1970, .inl (.aload_n 3), 1971), (1971, .inl (.iconst 0), 1972), (1972, .inl .laload, 1973), (1973, .inl (.iload 6), 1975)]
noncomputable def zc_Law_law_32 : List zm_I := [(1975, .inl .i2l, 1976), (1976, .inl .lcmp, 1977), (1977, .inl (.ifCond .eq 5), 1980), (1980, .inl (.iconst 0), 1981), (1981, .inl .ireturn, 1982), (1982, .inl (.goto 241), 1985), (1985, .inl (.aload_n 1), 1986), (1986, .inl (.aload_n 0), 1987), (1987, .inl (.iload 4), 1989), (1989, .inl (.iconst 1), 1990), (1990, .inl .iadd, 1991), (1991, .inl .iaload, 1992), (1992, .inl (.aload_n 0), 1993), (1993, .inl (.iload 4), 1995), (1995, .inl (.iconst 2), 1996), (1996, .inl .iadd, 1997), (1997, .inl .iaload, 1998), (1998, .inl (.ifCond .eq 7), 2001), (2001, .inl (.iconst 1), 2002), (2002, .inl (.goto 4), 2005), (2005, .inl (.iconst 0), 2006), (2006, .inl (.aload_n 3), 2007), (2007, .inr (15, 209, 227, 4), 2010), (2010, .inl (.istore 5), 2012), (2012, .inl (.aload_n 2), 2013), (2013, .inl (.aload_n 0), 2014), (2014, .inl (.iload 4), 2016), (2016, .inl (.iconst 1), 2017), (2017, .inl .iadd, 2018), (2018, .inl .iaload, 2019), (2019, .inl (.aload_n 0), 2020), (2020, .inl (.iload 4), 2022), (2022, .inl (.iconst 2), 2023), (2023, .inl .iadd, 2024), (2024, .inl .iaload, 2025), (2025, .inl (.ifCond .eq 7), 2028), (2028, .inl (.iconst 1), 2029), (2029, .inl (.goto 4), 2032)]
noncomputable def zc_Law_law_33 : List zm_I := [(2032, .inl (.iconst 0), 2033), (2033, .inr (5, 212, 238, 2), 2036), (2036, .inl (.istore 6), 2038), (2038, .inl (.aload_n 2), 2039), (2039, .inr (5, 115, 67, 0), 2042), (2042, .inl (.iload 5), 2044), (2044, .inl (.if_icmp .eq 5), 2047), (2047, .inl (.iconst 0), 2048), (2048, .inl .ireturn, 2049), (2049, .inl (.iload 5), 2051), (2051, .inl (.ifCond .ne 15), 2054), (2054, .inl (.aload_n 3), 2055), (2055, .inl (.iconst 0), 2056), (2056, .inl .laload, 2057), (2057, .inl (.iload 6), 2059), (2059, .inl .i2l, 2060), (2060, .inl .lcmp, 2061), (2061, .inl (.ifCond .eq 5), 2064), (2064, .inl (.iconst 0), 2065), (2065, .inl .ireturn, 2066), (2066, .inl (.goto 157), 2069), (2069, .inl (.aload_n 1), 2070), (2070, .inl (.aload_n 0), 2071), (2071, .inl (.iload 4), 2073), (2073, .inl (.iconst 1), 2074), (2074, .inl .iadd, 2075), (2075, .inl .iaload, 2076), (2076, .inl (.aload_n 0), 2077), (2077, .inl (.iload 4), 2079), (2079, .inl (.iconst 2), 2080), (2080, .inl .iadd, 2081), (2081, .inl .iaload, 2082), (2082, .inl (.ifCond .eq 7), 2085), (2085, .inl (.iconst 1), 2086), (2086, .inl (.goto 4), 2089), (2089, .inl (.iconst 0), 2090), (2090, .inl (.aload_n 3), 2091), (2091, .inr (15, 213, 240, 4), 2094)]
noncomputable def zc_Law_law_34 : List zm_I := [(2094, .inl (.istore 5), 2096), (2096, .inl (.aload_n 2), 2097), (2097, .inl (.aload_n 0), 2098), (2098, .inl (.iload 4), 2100), (2100, .inl (.iconst 1), 2101), (2101, .inl .iadd, 2102), (2102, .inl .iaload, 2103), (2103, .inl (.aload_n 0), 2104), (2104, .inl (.iload 4), 2106), (2106, .inl (.iconst 2), 2107), (2107, .inl .iadd, 2108), (2108, .inl .iaload, 2109), (2109, .inl (.ifCond .eq 7), 2112), (2112, .inl (.iconst 1), 2113), (2113, .inl (.goto 4), 2116), (2116, .inl (.iconst 0), 2117), (2117, .inr (5, 215, 241, 2), 2120), (2120, .inl (.istore 6), 2122), (2122, .inl (.aload_n 2), 2123), (2123, .inr (5, 115, 67, 0), 2126), (2126, .inl (.iload 5), 2128), (2128, .inl (.if_icmp .eq 5), 2131), (2131, .inl (.iconst 0), 2132), (2132, .inl .ireturn, 2133), (2133, .inl (.iload 5), 2135), (2135, .inl (.ifCond .ne 15), 2138), (2138, .inl (.aload_n 3), 2139), (2139, .inl (.iconst 0), 2140), (2140, .inl .laload, 2141), (2141, .inl (.iload 6), 2143), (2143, .inl .i2l, 2144), (2144, .inl .lcmp, 2145), (2145, .inl (.ifCond .eq 5), 2148), (2148, .inl (.iconst 0), 2149), (2149, .inl .ireturn, 2150), (2150, .inl (.goto 73), 2153), (2153, .inl (.aload_n 1), 2154), (2154, .inl (.aload_n 0), 2155)]
noncomputable def zc_Law_law_35 : List zm_I := [(2155, .inl (.iload 4), 2157), (2157, .inl (.iconst 1), 2158), (2158, .inl .iadd, 2159), (2159, .inl .iaload, 2160), (2160, .inl (.aload_n 3), 2161), (2161, .inr (15, 216, 243, 3), 2164), (2164, .inl (.istore 5), 2166), (2166, .inl (.aload_n 2), 2167), (2167, .inl (.aload_n 0), 2168), (2168, .inl (.iload 4), 2170), (2170, .inl (.iconst 1), 2171), (2171, .inl .iadd, 2172), (2172, .inl .iaload, 2173), (2173, .inr (5, 218, 244, 1), 2176), (2176, .inl (.istore 6), 2178), (2178, .inl (.aload_n 2), 2179), (2179, .inr (5, 115, 67, 0), 2182), (2182, .inl (.iload 5), 2184), (2184, .inl (.if_icmp .eq 5), 2187), (2187, .inl (.iconst 0), 2188), (2188, .inl .ireturn, 2189), (2189, .inl (.iload 5), 2191), (2191, .inl (.ifCond .ne 15), 2194), (2194, .inl (.aload_n 3), 2195), (2195, .inl (.iconst 0), 2196), (2196, .inl .laload, 2197), (2197, .inl (.iload 6), 2199), (2199, .inl .i2l, 2200), (2200, .inl .lcmp, 2201), (2201, .inl (.ifCond .eq 5), 2204), (2204, .inl (.iconst 0), 2205), (2205, .inl .ireturn, 2206), (2206, .inl (.goto 17), 2209), (2209, .inl (.aload_n 1), 2210), (2210, .inr (5, 219, 247, 0), 2213), (2213, .inl (.aload_n 2), 2214), (2214, .inr (5, 223, 249, 0), 2217), (2217, .inl .lcmp, 2218)]
noncomputable def zc_Law_law_36 : List zm_I := [(2218, .inl (.ifCond .eq 5), 2221), (2221, .inl (.iconst 0), 2222), (2222, .inl .ireturn, 2223), (2223, .inl (.iinc 4 6), 2226), (2226, .inl (.goto (-2203)), 2229), (2229, .inl (.iconst 1), 2230), (2230, .inl .ireturn, 2231)]
noncomputable def zc_Law_law : zm_C := [(198, zc_Law_law_0), (258, zc_Law_law_1), (316, zc_Law_law_2), (367, zc_Law_law_3), (425, zc_Law_law_4), (482, zc_Law_law_5), (535, zc_Law_law_6), (590, zc_Law_law_7), (647, zc_Law_law_8), (695, zc_Law_law_9), (752, zc_Law_law_10), (809, zc_Law_law_11), (859, zc_Law_law_12), (914, zc_Law_law_13), (965, zc_Law_law_14), (1019, zc_Law_law_15), (1079, zc_Law_law_16), (1136, zc_Law_law_17), (1191, zc_Law_law_18), (1249, zc_Law_law_19), (1309, zc_Law_law_20), (1366, zc_Law_law_21), (1414, zc_Law_law_22), (1484, zc_Law_law_23), (1545, zc_Law_law_24), (1602, zc_Law_law_25), (1669, zc_Law_law_26), (1732, zc_Law_law_27), (1795, zc_Law_law_28), (1856, zc_Law_law_29), (1917, zc_Law_law_30), (1973, zc_Law_law_31), (2029, zc_Law_law_32), (2091, zc_Law_law_33), (2154, zc_Law_law_34), (2217, zc_Law_law_35), (2230, zc_Law_law_36)]
noncomputable def zm_cd (y : Nat) : zm_C := cond (Nat.blt y 125) (cond (Nat.blt y 62) (cond (Nat.blt y 31) (cond (Nat.blt y 15) (cond (Nat.blt y 7) (cond (Nat.blt y 3) (cond (Nat.blt y 1) (zc_Arrays_fill) (cond (Nat.blt y 2) (zc_Prog_init) (zc_Change_init))) (cond (Nat.blt y 5) (cond (Nat.blt y 4) (zc_List_init) (zc_Comm_init)) (cond (Nat.blt y 6) (zc_Match_init) (zc_Repl_init)))) (cond (Nat.blt y 11) (cond (Nat.blt y 9) (cond (Nat.blt y 8) (zc_RR_init) (zc_Mod_init)) (cond (Nat.blt y 10) (zc_RR_programOf) (zc_Change_set))) (cond (Nat.blt y 13) (cond (Nat.blt y 12) (zc_RR_isClassName) (zc_RR_isMemberName)) (cond (Nat.blt y 14) (zc_Change_hasTwoMembers) (zc_Change_hasLegalNames))))) (cond (Nat.blt y 23) (cond (Nat.blt y 19) (cond (Nat.blt y 17) (cond (Nat.blt y 16) (zc_Prog_classAt) (zc_Prog_freeSlot)) (cond (Nat.blt y 18) (zc_Prog_putClass) (zc_Prog_namesIn))) (cond (Nat.blt y 21) (cond (Nat.blt y 20) (zc_Prog_below) (zc_Prog_dropClass)) (cond (Nat.blt y 22) (zc_Prog_giveClassName) (zc_Prog_traceAncestors)))) (cond (Nat.blt y 27) (cond (Nat.blt y 25) (cond (Nat.blt y 24) (zc_Prog_giveSuper) (zc_Prog_holds)) (cond (Nat.blt y 26) (zc_Prog_line) (zc_Prog_putMember))) (cond (Nat.blt y 29) (cond (Nat.blt y 28) (zc_Prog_memberIn) (zc_Prog_memberAt)) (cond (Nat.blt y 30) (zc_Prog_isUse) (zc_Prog_usersOf)))))) (cond (Nat.blt y 46) (cond (Nat.blt y 38) (cond (Nat.blt y 34) (cond (Nat.blt y 32) (zc_Prog_dropMember) (cond (Nat.blt y 33) (zc_Prog_giveMemberName) (zc_Prog_giveOwner))) (cond (Nat.blt y 36) (cond (Nat.blt y 35) (zc_Long_bitCount) (zc_Prog_useCount)) (cond (Nat.blt y 37) (zc_Prog_putUse) (zc_Prog_dropUse)))) (cond (Nat.blt y 42) (cond (Nat.blt y 40) (cond (Nat.blt y 39) (zc_Prog_attempt) (zc_Change_copyFrom)) (cond (Nat.blt y 41) (zc_List_append) (zc_RR_change))) (cond (Nat.blt y 44) (cond (Nat.blt y 43) (zc_RR_addClass) (zc_Law_addClass)) (cond (Nat.blt y 45) (zc_Mod_in) (zc_Mod_isClassName))))) (cond (Nat.blt y 54) (cond (Nat.blt y 50) (cond (Nat.blt y 48) (cond (Nat.blt y 47) (zc_Mod_classAt) (zc_Mod_countOf)) (cond (Nat.blt y 49) (zc_Mod_freeAt) (zc_Mod_addsClass))) (cond (Nat.blt y 52) (cond (Nat.blt y 51) (zc_Mod_removesClass) (zc_Mod_renamesClass)) (cond (Nat.blt y 53) (zc_Mod_isUnder) (zc_Mod_setsSuper)))) (cond (Nat.blt y 58) (cond (Nat.blt y 56) (cond (Nat.blt y 55) (zc_Mod_memberAt) (zc_Mod_areKin)) (cond (Nat.blt y 57) (zc_Mod_isTaken) (zc_Mod_addsMember))) (cond (Nat.blt y 60) (cond (Nat.blt y 59) (zc_Mod_removesMember) (zc_Mod_renamesMember)) (cond (Nat.blt y 61) (zc_Mod_movesMember) (zc_Mod_memberOf))))))) (cond (Nat.blt y 93) (cond (Nat.blt y 77) (cond (Nat.blt y 69) (cond (Nat.blt y 65) (cond (Nat.blt y 63) (zc_Mod_addsUse) (cond (Nat.blt y 64) (zc_Mod_removesUse) (zc_Mod_makes))) (cond (Nat.blt y 67) (cond (Nat.blt y 66) (zc_Mod_changes) (zc_Mod_addClass)) (cond (Nat.blt y 68) (zc_Mod_thrown) (zc_RR_removeClass)))) (cond (Nat.blt y 73) (cond (Nat.blt y 71) (cond (Nat.blt y 70) (zc_Law_removeClass) (zc_Mod_removeClass)) (cond (Nat.blt y 72) (zc_RR_renameClass) (zc_Law_renameClass))) (cond (Nat.blt y 75) (cond (Nat.blt y 74) (zc_Mod_renameClass) (zc_RR_setSuper)) (cond (Nat.blt y 76) (zc_Law_setSuper) (zc_Mod_setSuper))))) (cond (Nat.blt y 85) (cond (Nat.blt y 81) (cond (Nat.blt y 79) (cond (Nat.blt y 78) (zc_RR_addMember) (zc_Law_addMember)) (cond (Nat.blt y 80) (zc_Mod_isMemberName) (zc_Mod_addMember))) (cond (Nat.blt y 83) (cond (Nat.blt y 82) (zc_RR_removeMember) (zc_Law_removeMember)) (cond (Nat.blt y 84) (zc_Mod_removeMember) (zc_RR_renameMember)))) (cond (Nat.blt y 89) (cond (Nat.blt y 87) (cond (Nat.blt y 86) (zc_Law_renameMember) (zc_Mod_renameMember)) (cond (Nat.blt y 88) (zc_RR_moveMember) (zc_Law_moveMember))) (cond (Nat.blt y 91) (cond (Nat.blt y 90) (zc_Mod_moveMember) (zc_RR_addUse)) (cond (Nat.blt y 92) (zc_Law_addUse) (zc_Mod_areFour)))))) (cond (Nat.blt y 109) (cond (Nat.blt y 101) (cond (Nat.blt y 97) (cond (Nat.blt y 95) (cond (Nat.blt y 94) (zc_Mod_addUse) (zc_RR_removeUse)) (cond (Nat.blt y 96) (zc_Law_removeUse) (zc_Mod_removeUse))) (cond (Nat.blt y 99) (cond (Nat.blt y 98) (zc_Prog_classCount) (zc_RR_classes)) (cond (Nat.blt y 100) (zc_Law_classes) (zc_Mod_lacksVersion)))) (cond (Nat.blt y 105) (cond (Nat.blt y 103) (cond (Nat.blt y 102) (zc_Mod_copies) (zc_Mod_looks)) (cond (Nat.blt y 104) (zc_Mod_classes) (zc_Prog_nameByOrder))) (cond (Nat.blt y 107) (cond (Nat.blt y 106) (zc_RR_className) (zc_Law_className)) (cond (Nat.blt y 108) (zc_Mod_ordered) (zc_Mod_fails))))) (cond (Nat.blt y 117) (cond (Nat.blt y 113) (cond (Nat.blt y 111) (cond (Nat.blt y 110) (zc_Mod_className) (zc_RR_requireClassName)) (cond (Nat.blt y 112) (zc_Prog_superNameOf) (zc_RR_superOf))) (cond (Nat.blt y 115) (cond (Nat.blt y 114) (zc_Law_superOf) (zc_Mod_isWrong)) (cond (Nat.blt y 116) (zc_Mod_nameOfSuper) (zc_Mod_superOf)))) (cond (Nat.blt y 121) (cond (Nat.blt y 119) (cond (Nat.blt y 118) (zc_RR_members) (zc_Law_members)) (cond (Nat.blt y 120) (zc_Mod_membersOf) (zc_Mod_members))) (cond (Nat.blt y 123) (cond (Nat.blt y 122) (zc_RR_uses) (zc_Law_uses)) (cond (Nat.blt y 124) (zc_Mod_uses) (zc_RR_requireMemberName)))))))) (cond (Nat.blt y 188) (cond (Nat.blt y 156) (cond (Nat.blt y 140) (cond (Nat.blt y 132) (cond (Nat.blt y 128) (cond (Nat.blt y 126) (zc_RR_hasUse) (cond (Nat.blt y 127) (zc_Law_hasUse) (zc_Mod_hasUse))) (cond (Nat.blt y 130) (cond (Nat.blt y 129) (zc_Prog_copyFrom) (zc_RR_copyVersion)) (cond (Nat.blt y 131) (zc_Mod_copyVersion) (zc_Prog_memberCount)))) (cond (Nat.blt y 136) (cond (Nat.blt y 134) (cond (Nat.blt y 133) (zc_Prog_hasClassesIn) (zc_Prog_ownerNameOf)) (cond (Nat.blt y 135) (zc_Prog_twinOf) (zc_Prog_hasMembersIn))) (cond (Nat.blt y 138) (cond (Nat.blt y 137) (zc_Prog_hasUsesIn) (zc_Prog_isSameAs)) (cond (Nat.blt y 139) (zc_RR_areSame) (zc_Mod_twin))))) (cond (Nat.blt y 148) (cond (Nat.blt y 144) (cond (Nat.blt y 142) (cond (Nat.blt y 141) (zc_Mod_isPart) (zc_Mod_areOne)) (cond (Nat.blt y 143) (zc_Mod_areSame) (zc_RR_log))) (cond (Nat.blt y 146) (cond (Nat.blt y 145) (zc_Mod_log) (zc_RR_requireChange)) (cond (Nat.blt y 147) (zc_List_at) (zc_RR_kindOf)))) (cond (Nat.blt y 152) (cond (Nat.blt y 150) (cond (Nat.blt y 149) (zc_Law_kindOf) (zc_Mod_kindOf)) (cond (Nat.blt y 151) (zc_RR_nameOf) (zc_Law_nameOf))) (cond (Nat.blt y 154) (cond (Nat.blt y 153) (zc_Mod_nameOf) (zc_RR_clearLog)) (cond (Nat.blt y 155) (zc_Mod_clearLog) (zc_Prog_makeFirst)))))) (cond (Nat.blt y 172) (cond (Nat.blt y 164) (cond (Nat.blt y 160) (cond (Nat.blt y 158) (cond (Nat.blt y 157) (zc_RR_undo) (zc_Law_undo)) (cond (Nat.blt y 159) (zc_Mod_makesOf) (zc_Mod_goesTo))) (cond (Nat.blt y 162) (cond (Nat.blt y 161) (zc_Mod_undo) (zc_RR_requireNeighbours)) (cond (Nat.blt y 163) (zc_Change_replaceClass) (zc_Change_replaceMember)))) (cond (Nat.blt y 168) (cond (Nat.blt y 166) (cond (Nat.blt y 165) (zc_Change_carryBack) (zc_Change_carryForward)) (cond (Nat.blt y 167) (zc_Comm_test) (zc_Comm_testAt))) (cond (Nat.blt y 170) (cond (Nat.blt y 169) (zc_RR_commutes) (zc_Law_commutes)) (cond (Nat.blt y 171) (zc_Mod_renames) (zc_Mod_hasMember))))) (cond (Nat.blt y 180) (cond (Nat.blt y 176) (cond (Nat.blt y 174) (cond (Nat.blt y 173) (zc_Mod_renamesPair) (zc_Mod_carries)) (cond (Nat.blt y 175) (zc_Mod_commute) (zc_Mod_commutes))) (cond (Nat.blt y 178) (cond (Nat.blt y 177) (zc_Comm_storeAt) (zc_RR_exchange)) (cond (Nat.blt y 179) (zc_Law_exchange) (zc_Mod_exchanges)))) (cond (Nat.blt y 184) (cond (Nat.blt y 182) (cond (Nat.blt y 181) (zc_Mod_exchange) (zc_List_copyFrom)) (cond (Nat.blt y 183) (zc_Comm_movesBehind) (zc_Comm_needsOf))) (cond (Nat.blt y 186) (cond (Nat.blt y 185) (zc_RR_needs) (zc_Law_needs)) (cond (Nat.blt y 187) (zc_Mod_copiesLog) (zc_Mod_needsOf))))))) (cond (Nat.blt y 219) (cond (Nat.blt y 203) (cond (Nat.blt y 195) (cond (Nat.blt y 191) (cond (Nat.blt y 189) (zc_Mod_needs) (cond (Nat.blt y 190) (zc_Match_joinClasses) (zc_Match_joinClassesByName))) (cond (Nat.blt y 193) (cond (Nat.blt y 192) (zc_Integer_bitCount) (zc_Match_closestTo)) (cond (Nat.blt y 194) (zc_Match_joinClassesByMembers) (zc_Match_joinMembers)))) (cond (Nat.blt y 199) (cond (Nat.blt y 197) (cond (Nat.blt y 196) (zc_Match_joinMembersOfClasses) (zc_Match_onlyFree)) (cond (Nat.blt y 198) (zc_Match_joinLoneMembers) (zc_Match_find))) (cond (Nat.blt y 201) (cond (Nat.blt y 200) (zc_RR_matchOfClass) (zc_Law_matchOfClass)) (cond (Nat.blt y 202) (zc_Mod_isMatched) (zc_Mod_bits))))) (cond (Nat.blt y 211) (cond (Nat.blt y 207) (cond (Nat.blt y 205) (cond (Nat.blt y 204) (zc_Mod_likest) (zc_Mod_lonely)) (cond (Nat.blt y 206) (zc_Mod_matches) (zc_Mod_matchOfClass))) (cond (Nat.blt y 209) (cond (Nat.blt y 208) (zc_RR_matchOfMember) (zc_Law_matchOfMember)) (cond (Nat.blt y 210) (zc_Mod_matchOfMember) (zc_RR_requireSelection)))) (cond (Nat.blt y 215) (cond (Nat.blt y 213) (cond (Nat.blt y 212) (zc_Repl_classNameOf) (zc_Repl_memberPartner)) (cond (Nat.blt y 214) (zc_Repl_translateUser) (zc_Repl_translateUsed))) (cond (Nat.blt y 217) (cond (Nat.blt y 216) (zc_Repl_translate) (zc_Repl_countsAsMade)) (cond (Nat.blt y 218) (zc_Repl_isTaken) (zc_Repl_isMendable)))))) (cond (Nat.blt y 235) (cond (Nat.blt y 227) (cond (Nat.blt y 223) (cond (Nat.blt y 221) (cond (Nat.blt y 220) (zc_Change_advanceNewName) (zc_Repl_tryOtherNames)) (cond (Nat.blt y 222) (zc_Repl_tryPlan) (zc_Match_partClass))) (cond (Nat.blt y 225) (cond (Nat.blt y 224) (zc_Match_partMember) (zc_Repl_follow)) (cond (Nat.blt y 226) (zc_Repl_run) (zc_RR_replay)))) (cond (Nat.blt y 231) (cond (Nat.blt y 229) (cond (Nat.blt y 228) (zc_Law_replay) (zc_Mod_isSelection)) (cond (Nat.blt y 230) (zc_Mod_nameFor) (zc_Mod_memberFor))) (cond (Nat.blt y 233) (cond (Nat.blt y 232) (zc_Mod_means) (zc_Mod_counts)) (cond (Nat.blt y 234) (zc_Mod_nextLetter) (zc_Mod_mends))))) (cond (Nat.blt y 243) (cond (Nat.blt y 239) (cond (Nat.blt y 237) (cond (Nat.blt y 236) (zc_Mod_tries) (zc_Mod_goesOn)) (cond (Nat.blt y 238) (zc_Mod_replays) (zc_Mod_replay))) (cond (Nat.blt y 241) (cond (Nat.blt y 240) (zc_RR_forecast) (zc_Law_forecast)) (cond (Nat.blt y 242) (zc_Mod_forecast) (zc_RR_outcome)))) (cond (Nat.blt y 247) (cond (Nat.blt y 245) (cond (Nat.blt y 244) (zc_Law_outcome) (zc_Mod_outcome)) (cond (Nat.blt y 246) (zc_RR_blendMembers) (zc_RR_blend))) (cond (Nat.blt y 249) (cond (Nat.blt y 248) (zc_RR_fingerprint) (zc_Mod_mixes)) (cond (Nat.blt y 250) (zc_Mod_fingerprint) (zc_Law_law))))))))
end
section
theorem zm_ok_0 : zm_okm 0 = true := by decide +kernel
theorem zm_ok_1 : zm_okm 1 = true := by decide +kernel
theorem zm_ok_2 : zm_okm 2 = true := by decide +kernel
theorem zm_ok_3 : zm_okm 3 = true := by decide +kernel
theorem zm_ok_4 : zm_okm 4 = true := by decide +kernel
theorem zm_ok_5 : zm_okm 5 = true := by decide +kernel
theorem zm_ok_6 : zm_okm 6 = true := by decide +kernel
theorem zm_ok_7 : zm_okm 7 = true := by decide +kernel
theorem zm_ok_8 : zm_okm 8 = true := by decide +kernel
theorem zm_ok_9 : zm_okm 9 = true := by decide +kernel
theorem zm_ok_10 : zm_okm 10 = true := by decide +kernel
theorem zm_ok_11 : zm_okm 11 = true := by decide +kernel
theorem zm_ok_12 : zm_okm 12 = true := by decide +kernel
theorem zm_ok_13 : zm_okm 13 = true := by decide +kernel
theorem zm_ok_14 : zm_okm 14 = true := by decide +kernel
theorem zm_ok_15 : zm_okm 15 = true := by decide +kernel
theorem zm_ok_16 : zm_okm 16 = true := by decide +kernel
theorem zm_ok_17 : zm_okm 17 = true := by decide +kernel
theorem zm_ok_18 : zm_okm 18 = true := by decide +kernel
theorem zm_ok_19 : zm_okm 19 = true := by decide +kernel
theorem zm_ok_20 : zm_okm 20 = true := by decide +kernel
theorem zm_ok_21 : zm_okm 21 = true := by decide +kernel
theorem zm_ok_22 : zm_okm 22 = true := by decide +kernel
theorem zm_ok_23 : zm_okm 23 = true := by decide +kernel
theorem zm_ok_24 : zm_okm 24 = true := by decide +kernel
theorem zm_ok_25 : zm_okm 25 = true := by decide +kernel
theorem zm_ok_26 : zm_okm 26 = true := by decide +kernel
theorem zm_ok_27 : zm_okm 27 = true := by decide +kernel
theorem zm_ok_28 : zm_okm 28 = true := by decide +kernel
theorem zm_ok_29 : zm_okm 29 = true := by decide +kernel
theorem zm_ok_30 : zm_okm 30 = true := by decide +kernel
theorem zm_ok_31 : zm_okm 31 = true := by decide +kernel
theorem zm_ok_32 : zm_okm 32 = true := by decide +kernel
theorem zm_ok_33 : zm_okm 33 = true := by decide +kernel
theorem zm_ok_34 : zm_okm 34 = true := by decide +kernel
theorem zm_ok_35 : zm_okm 35 = true := by decide +kernel
theorem zm_ok_36 : zm_okm 36 = true := by decide +kernel
theorem zm_ok_37 : zm_okm 37 = true := by decide +kernel
theorem zm_ok_38 : zm_okm 38 = true := by decide +kernel
theorem zm_ok_39 : zm_okm 39 = true := by decide +kernel
theorem zm_ok_40 : zm_okm 40 = true := by decide +kernel
theorem zm_ok_41 : zm_okm 41 = true := by decide +kernel
theorem zm_ok_42 : zm_okm 42 = true := by decide +kernel
theorem zm_ok_43 : zm_okm 43 = true := by decide +kernel
theorem zm_ok_44 : zm_okm 44 = true := by decide +kernel
theorem zm_ok_45 : zm_okm 45 = true := by decide +kernel
theorem zm_ok_46 : zm_okm 46 = true := by decide +kernel
theorem zm_ok_47 : zm_okm 47 = true := by decide +kernel
theorem zm_ok_48 : zm_okm 48 = true := by decide +kernel
theorem zm_ok_49 : zm_okm 49 = true := by decide +kernel
theorem zm_ok_50 : zm_okm 50 = true := by decide +kernel
theorem zm_ok_51 : zm_okm 51 = true := by decide +kernel
theorem zm_ok_52 : zm_okm 52 = true := by decide +kernel
theorem zm_ok_53 : zm_okm 53 = true := by decide +kernel
theorem zm_ok_54 : zm_okm 54 = true := by decide +kernel
theorem zm_ok_55 : zm_okm 55 = true := by decide +kernel
theorem zm_ok_56 : zm_okm 56 = true := by decide +kernel
theorem zm_ok_57 : zm_okm 57 = true := by decide +kernel
theorem zm_ok_58 : zm_okm 58 = true := by decide +kernel
theorem zm_ok_59 : zm_okm 59 = true := by decide +kernel
theorem zm_ok_60 : zm_okm 60 = true := by decide +kernel
theorem zm_ok_61 : zm_okm 61 = true := by decide +kernel
theorem zm_ok_62 : zm_okm 62 = true := by decide +kernel
theorem zm_ok_63 : zm_okm 63 = true := by decide +kernel
theorem zm_ok_64 : zm_okm 64 = true := by decide +kernel
theorem zm_ok_65 : zm_okm 65 = true := by decide +kernel
theorem zm_ok_66 : zm_okm 66 = true := by decide +kernel
theorem zm_ok_67 : zm_okm 67 = true := by decide +kernel
theorem zm_ok_68 : zm_okm 68 = true := by decide +kernel
theorem zm_ok_69 : zm_okm 69 = true := by decide +kernel
theorem zm_ok_70 : zm_okm 70 = true := by decide +kernel
theorem zm_ok_71 : zm_okm 71 = true := by decide +kernel
theorem zm_ok_72 : zm_okm 72 = true := by decide +kernel
theorem zm_ok_73 : zm_okm 73 = true := by decide +kernel
theorem zm_ok_74 : zm_okm 74 = true := by decide +kernel
theorem zm_ok_75 : zm_okm 75 = true := by decide +kernel
theorem zm_ok_76 : zm_okm 76 = true := by decide +kernel
theorem zm_ok_77 : zm_okm 77 = true := by decide +kernel
theorem zm_ok_78 : zm_okm 78 = true := by decide +kernel
theorem zm_ok_79 : zm_okm 79 = true := by decide +kernel
theorem zm_ok_80 : zm_okm 80 = true := by decide +kernel
theorem zm_ok_81 : zm_okm 81 = true := by decide +kernel
theorem zm_ok_82 : zm_okm 82 = true := by decide +kernel
theorem zm_ok_83 : zm_okm 83 = true := by decide +kernel
theorem zm_ok_84 : zm_okm 84 = true := by decide +kernel
theorem zm_ok_85 : zm_okm 85 = true := by decide +kernel
theorem zm_ok_86 : zm_okm 86 = true := by decide +kernel
theorem zm_ok_87 : zm_okm 87 = true := by decide +kernel
theorem zm_ok_88 : zm_okm 88 = true := by decide +kernel
theorem zm_ok_89 : zm_okm 89 = true := by decide +kernel
theorem zm_ok_90 : zm_okm 90 = true := by decide +kernel
theorem zm_ok_91 : zm_okm 91 = true := by decide +kernel
theorem zm_ok_92 : zm_okm 92 = true := by decide +kernel
theorem zm_ok_93 : zm_okm 93 = true := by decide +kernel
theorem zm_ok_94 : zm_okm 94 = true := by decide +kernel
theorem zm_ok_95 : zm_okm 95 = true := by decide +kernel
theorem zm_ok_96 : zm_okm 96 = true := by decide +kernel
theorem zm_ok_97 : zm_okm 97 = true := by decide +kernel
theorem zm_ok_98 : zm_okm 98 = true := by decide +kernel
theorem zm_ok_99 : zm_okm 99 = true := by decide +kernel
theorem zm_ok_100 : zm_okm 100 = true := by decide +kernel
theorem zm_ok_101 : zm_okm 101 = true := by decide +kernel
theorem zm_ok_102 : zm_okm 102 = true := by decide +kernel
theorem zm_ok_103 : zm_okm 103 = true := by decide +kernel
theorem zm_ok_104 : zm_okm 104 = true := by decide +kernel
theorem zm_ok_105 : zm_okm 105 = true := by decide +kernel
theorem zm_ok_106 : zm_okm 106 = true := by decide +kernel
theorem zm_ok_107 : zm_okm 107 = true := by decide +kernel
theorem zm_ok_108 : zm_okm 108 = true := by decide +kernel
theorem zm_ok_109 : zm_okm 109 = true := by decide +kernel
theorem zm_ok_110 : zm_okm 110 = true := by decide +kernel
theorem zm_ok_111 : zm_okm 111 = true := by decide +kernel
theorem zm_ok_112 : zm_okm 112 = true := by decide +kernel
theorem zm_ok_113 : zm_okm 113 = true := by decide +kernel
theorem zm_ok_114 : zm_okm 114 = true := by decide +kernel
theorem zm_ok_115 : zm_okm 115 = true := by decide +kernel
theorem zm_ok_116 : zm_okm 116 = true := by decide +kernel
theorem zm_ok_117 : zm_okm 117 = true := by decide +kernel
theorem zm_ok_118 : zm_okm 118 = true := by decide +kernel
theorem zm_ok_119 : zm_okm 119 = true := by decide +kernel
theorem zm_ok_120 : zm_okm 120 = true := by decide +kernel
theorem zm_ok_121 : zm_okm 121 = true := by decide +kernel
theorem zm_ok_122 : zm_okm 122 = true := by decide +kernel
theorem zm_ok_123 : zm_okm 123 = true := by decide +kernel
theorem zm_ok_124 : zm_okm 124 = true := by decide +kernel
theorem zm_ok_125 : zm_okm 125 = true := by decide +kernel
theorem zm_ok_126 : zm_okm 126 = true := by decide +kernel
theorem zm_ok_127 : zm_okm 127 = true := by decide +kernel
theorem zm_ok_128 : zm_okm 128 = true := by decide +kernel
theorem zm_ok_129 : zm_okm 129 = true := by decide +kernel
theorem zm_ok_130 : zm_okm 130 = true := by decide +kernel
theorem zm_ok_131 : zm_okm 131 = true := by decide +kernel
theorem zm_ok_132 : zm_okm 132 = true := by decide +kernel
theorem zm_ok_133 : zm_okm 133 = true := by decide +kernel
theorem zm_ok_134 : zm_okm 134 = true := by decide +kernel
theorem zm_ok_135 : zm_okm 135 = true := by decide +kernel
theorem zm_ok_136 : zm_okm 136 = true := by decide +kernel
theorem zm_ok_137 : zm_okm 137 = true := by decide +kernel
theorem zm_ok_138 : zm_okm 138 = true := by decide +kernel
theorem zm_ok_139 : zm_okm 139 = true := by decide +kernel
theorem zm_ok_140 : zm_okm 140 = true := by decide +kernel
theorem zm_ok_141 : zm_okm 141 = true := by decide +kernel
theorem zm_ok_142 : zm_okm 142 = true := by decide +kernel
theorem zm_ok_143 : zm_okm 143 = true := by decide +kernel
theorem zm_ok_144 : zm_okm 144 = true := by decide +kernel
theorem zm_ok_145 : zm_okm 145 = true := by decide +kernel
theorem zm_ok_146 : zm_okm 146 = true := by decide +kernel
theorem zm_ok_147 : zm_okm 147 = true := by decide +kernel
theorem zm_ok_148 : zm_okm 148 = true := by decide +kernel
theorem zm_ok_149 : zm_okm 149 = true := by decide +kernel
theorem zm_ok_150 : zm_okm 150 = true := by decide +kernel
theorem zm_ok_151 : zm_okm 151 = true := by decide +kernel
theorem zm_ok_152 : zm_okm 152 = true := by decide +kernel
theorem zm_ok_153 : zm_okm 153 = true := by decide +kernel
theorem zm_ok_154 : zm_okm 154 = true := by decide +kernel
theorem zm_ok_155 : zm_okm 155 = true := by decide +kernel
theorem zm_ok_156 : zm_okm 156 = true := by decide +kernel
theorem zm_ok_157 : zm_okm 157 = true := by decide +kernel
theorem zm_ok_158 : zm_okm 158 = true := by decide +kernel
theorem zm_ok_159 : zm_okm 159 = true := by decide +kernel
theorem zm_ok_160 : zm_okm 160 = true := by decide +kernel
theorem zm_ok_161 : zm_okm 161 = true := by decide +kernel
theorem zm_ok_162 : zm_okm 162 = true := by decide +kernel
theorem zm_ok_163 : zm_okm 163 = true := by decide +kernel
theorem zm_ok_164 : zm_okm 164 = true := by decide +kernel
theorem zm_ok_165 : zm_okm 165 = true := by decide +kernel
theorem zm_ok_166 : zm_okm 166 = true := by decide +kernel
theorem zm_ok_167 : zm_okm 167 = true := by decide +kernel
theorem zm_ok_168 : zm_okm 168 = true := by decide +kernel
theorem zm_ok_169 : zm_okm 169 = true := by decide +kernel
theorem zm_ok_170 : zm_okm 170 = true := by decide +kernel
theorem zm_ok_171 : zm_okm 171 = true := by decide +kernel
theorem zm_ok_172 : zm_okm 172 = true := by decide +kernel
theorem zm_ok_173 : zm_okm 173 = true := by decide +kernel
theorem zm_ok_174 : zm_okm 174 = true := by decide +kernel
theorem zm_ok_175 : zm_okm 175 = true := by decide +kernel
theorem zm_ok_176 : zm_okm 176 = true := by decide +kernel
theorem zm_ok_177 : zm_okm 177 = true := by decide +kernel
theorem zm_ok_178 : zm_okm 178 = true := by decide +kernel
theorem zm_ok_179 : zm_okm 179 = true := by decide +kernel
theorem zm_ok_180 : zm_okm 180 = true := by decide +kernel
theorem zm_ok_181 : zm_okm 181 = true := by decide +kernel
theorem zm_ok_182 : zm_okm 182 = true := by decide +kernel
theorem zm_ok_183 : zm_okm 183 = true := by decide +kernel
theorem zm_ok_184 : zm_okm 184 = true := by decide +kernel
theorem zm_ok_185 : zm_okm 185 = true := by decide +kernel
theorem zm_ok_186 : zm_okm 186 = true := by decide +kernel
theorem zm_ok_187 : zm_okm 187 = true := by decide +kernel
theorem zm_ok_188 : zm_okm 188 = true := by decide +kernel
theorem zm_ok_189 : zm_okm 189 = true := by decide +kernel
theorem zm_ok_190 : zm_okm 190 = true := by decide +kernel
theorem zm_ok_191 : zm_okm 191 = true := by decide +kernel
theorem zm_ok_192 : zm_okm 192 = true := by decide +kernel
theorem zm_ok_193 : zm_okm 193 = true := by decide +kernel
theorem zm_ok_194 : zm_okm 194 = true := by decide +kernel
theorem zm_ok_195 : zm_okm 195 = true := by decide +kernel
theorem zm_ok_196 : zm_okm 196 = true := by decide +kernel
theorem zm_ok_197 : zm_okm 197 = true := by decide +kernel
theorem zm_ok_198 : zm_okm 198 = true := by decide +kernel
theorem zm_ok_199 : zm_okm 199 = true := by decide +kernel
theorem zm_ok_200 : zm_okm 200 = true := by decide +kernel
theorem zm_ok_201 : zm_okm 201 = true := by decide +kernel
theorem zm_ok_202 : zm_okm 202 = true := by decide +kernel
theorem zm_ok_203 : zm_okm 203 = true := by decide +kernel
theorem zm_ok_204 : zm_okm 204 = true := by decide +kernel
theorem zm_ok_205 : zm_okm 205 = true := by decide +kernel
theorem zm_ok_206 : zm_okm 206 = true := by decide +kernel
theorem zm_ok_207 : zm_okm 207 = true := by decide +kernel
theorem zm_ok_208 : zm_okm 208 = true := by decide +kernel
theorem zm_ok_209 : zm_okm 209 = true := by decide +kernel
theorem zm_ok_210 : zm_okm 210 = true := by decide +kernel
theorem zm_ok_211 : zm_okm 211 = true := by decide +kernel
theorem zm_ok_212 : zm_okm 212 = true := by decide +kernel
theorem zm_ok_213 : zm_okm 213 = true := by decide +kernel
theorem zm_ok_214 : zm_okm 214 = true := by decide +kernel
theorem zm_ok_215 : zm_okm 215 = true := by decide +kernel
theorem zm_ok_216 : zm_okm 216 = true := by decide +kernel
theorem zm_ok_217 : zm_okm 217 = true := by decide +kernel
theorem zm_ok_218 : zm_okm 218 = true := by decide +kernel
theorem zm_ok_219 : zm_okm 219 = true := by decide +kernel
theorem zm_ok_220 : zm_okm 220 = true := by decide +kernel
theorem zm_ok_221 : zm_okm 221 = true := by decide +kernel
theorem zm_ok_222 : zm_okm 222 = true := by decide +kernel
theorem zm_ok_223 : zm_okm 223 = true := by decide +kernel
theorem zm_ok_224 : zm_okm 224 = true := by decide +kernel
theorem zm_ok_225 : zm_okm 225 = true := by decide +kernel
theorem zm_ok_226 : zm_okm 226 = true := by decide +kernel
theorem zm_ok_227 : zm_okm 227 = true := by decide +kernel
theorem zm_ok_228 : zm_okm 228 = true := by decide +kernel
theorem zm_ok_229 : zm_okm 229 = true := by decide +kernel
theorem zm_ok_230 : zm_okm 230 = true := by decide +kernel
theorem zm_ok_231 : zm_okm 231 = true := by decide +kernel
theorem zm_ok_232 : zm_okm 232 = true := by decide +kernel
theorem zm_ok_233 : zm_okm 233 = true := by decide +kernel
theorem zm_ok_234 : zm_okm 234 = true := by decide +kernel
theorem zm_ok_235 : zm_okm 235 = true := by decide +kernel
theorem zm_ok_236 : zm_okm 236 = true := by decide +kernel
theorem zm_ok_237 : zm_okm 237 = true := by decide +kernel
theorem zm_ok_238 : zm_okm 238 = true := by decide +kernel
theorem zm_ok_239 : zm_okm 239 = true := by decide +kernel
theorem zm_ok_240 : zm_okm 240 = true := by decide +kernel
theorem zm_ok_241 : zm_okm 241 = true := by decide +kernel
theorem zm_ok_242 : zm_okm 242 = true := by decide +kernel
theorem zm_ok_243 : zm_okm 243 = true := by decide +kernel
theorem zm_ok_244 : zm_okm 244 = true := by decide +kernel
theorem zm_ok_245 : zm_okm 245 = true := by decide +kernel
theorem zm_ok_246 : zm_okm 246 = true := by decide +kernel
theorem zm_ok_247 : zm_okm 247 = true := by decide +kernel
theorem zm_ok_248 : zm_okm 248 = true := by decide +kernel
theorem zm_ok_249 : zm_okm 249 = true := by decide +kernel
theorem zm_okg_0 : ∀ y ∈ [0, 1, 2, 3, 4, 5, 6, 7, 8, 9, 10, 11, 12, 13, 14, 15], zm_okm y = true := List.forall_mem_cons.mpr ⟨zm_ok_0, List.forall_mem_cons.mpr ⟨zm_ok_1, List.forall_mem_cons.mpr ⟨zm_ok_2, List.forall_mem_cons.mpr ⟨zm_ok_3, List.forall_mem_cons.mpr ⟨zm_ok_4, List.forall_mem_cons.mpr ⟨zm_ok_5, List.forall_mem_cons.mpr ⟨zm_ok_6, List.forall_mem_cons.mpr ⟨zm_ok_7, List.forall_mem_cons.mpr ⟨zm_ok_8, List.forall_mem_cons.mpr ⟨zm_ok_9, List.forall_mem_cons.mpr ⟨zm_ok_10, List.forall_mem_cons.mpr ⟨zm_ok_11, List.forall_mem_cons.mpr ⟨zm_ok_12, List.forall_mem_cons.mpr ⟨zm_ok_13, List.forall_mem_cons.mpr ⟨zm_ok_14, List.forall_mem_cons.mpr ⟨zm_ok_15, fun _ h => absurd h List.not_mem_nil⟩⟩⟩⟩⟩⟩⟩⟩⟩⟩⟩⟩⟩⟩⟩⟩
theorem zm_okg_1 : ∀ y ∈ [16, 17, 18, 19, 20, 21, 22, 23, 24, 25, 26, 27, 28, 29, 30, 31], zm_okm y = true := List.forall_mem_cons.mpr ⟨zm_ok_16, List.forall_mem_cons.mpr ⟨zm_ok_17, List.forall_mem_cons.mpr ⟨zm_ok_18, List.forall_mem_cons.mpr ⟨zm_ok_19, List.forall_mem_cons.mpr ⟨zm_ok_20, List.forall_mem_cons.mpr ⟨zm_ok_21, List.forall_mem_cons.mpr ⟨zm_ok_22, List.forall_mem_cons.mpr ⟨zm_ok_23, List.forall_mem_cons.mpr ⟨zm_ok_24, List.forall_mem_cons.mpr ⟨zm_ok_25, List.forall_mem_cons.mpr ⟨zm_ok_26, List.forall_mem_cons.mpr ⟨zm_ok_27, List.forall_mem_cons.mpr ⟨zm_ok_28, List.forall_mem_cons.mpr ⟨zm_ok_29, List.forall_mem_cons.mpr ⟨zm_ok_30, List.forall_mem_cons.mpr ⟨zm_ok_31, fun _ h => absurd h List.not_mem_nil⟩⟩⟩⟩⟩⟩⟩⟩⟩⟩⟩⟩⟩⟩⟩⟩
theorem zm_okg_2 : ∀ y ∈ [32, 33, 34, 35, 36, 37, 38, 39, 40, 41, 42, 43, 44, 45, 46, 47], zm_okm y = true := List.forall_mem_cons.mpr ⟨zm_ok_32, List.forall_mem_cons.mpr ⟨zm_ok_33, List.forall_mem_cons.mpr ⟨zm_ok_34, List.forall_mem_cons.mpr ⟨zm_ok_35, List.forall_mem_cons.mpr ⟨zm_ok_36, List.forall_mem_cons.mpr ⟨zm_ok_37, List.forall_mem_cons.mpr ⟨zm_ok_38, List.forall_mem_cons.mpr ⟨zm_ok_39, List.forall_mem_cons.mpr ⟨zm_ok_40, List.forall_mem_cons.mpr ⟨zm_ok_41, List.forall_mem_cons.mpr ⟨zm_ok_42, List.forall_mem_cons.mpr ⟨zm_ok_43, List.forall_mem_cons.mpr ⟨zm_ok_44, List.forall_mem_cons.mpr ⟨zm_ok_45, List.forall_mem_cons.mpr ⟨zm_ok_46, List.forall_mem_cons.mpr ⟨zm_ok_47, fun _ h => absurd h List.not_mem_nil⟩⟩⟩⟩⟩⟩⟩⟩⟩⟩⟩⟩⟩⟩⟩⟩
theorem zm_okg_3 : ∀ y ∈ [48, 49, 50, 51, 52, 53, 54, 55, 56, 57, 58, 59, 60, 61, 62, 63], zm_okm y = true := List.forall_mem_cons.mpr ⟨zm_ok_48, List.forall_mem_cons.mpr ⟨zm_ok_49, List.forall_mem_cons.mpr ⟨zm_ok_50, List.forall_mem_cons.mpr ⟨zm_ok_51, List.forall_mem_cons.mpr ⟨zm_ok_52, List.forall_mem_cons.mpr ⟨zm_ok_53, List.forall_mem_cons.mpr ⟨zm_ok_54, List.forall_mem_cons.mpr ⟨zm_ok_55, List.forall_mem_cons.mpr ⟨zm_ok_56, List.forall_mem_cons.mpr ⟨zm_ok_57, List.forall_mem_cons.mpr ⟨zm_ok_58, List.forall_mem_cons.mpr ⟨zm_ok_59, List.forall_mem_cons.mpr ⟨zm_ok_60, List.forall_mem_cons.mpr ⟨zm_ok_61, List.forall_mem_cons.mpr ⟨zm_ok_62, List.forall_mem_cons.mpr ⟨zm_ok_63, fun _ h => absurd h List.not_mem_nil⟩⟩⟩⟩⟩⟩⟩⟩⟩⟩⟩⟩⟩⟩⟩⟩
theorem zm_okg_4 : ∀ y ∈ [64, 65, 66, 67, 68, 69, 70, 71, 72, 73, 74, 75, 76, 77, 78, 79], zm_okm y = true := List.forall_mem_cons.mpr ⟨zm_ok_64, List.forall_mem_cons.mpr ⟨zm_ok_65, List.forall_mem_cons.mpr ⟨zm_ok_66, List.forall_mem_cons.mpr ⟨zm_ok_67, List.forall_mem_cons.mpr ⟨zm_ok_68, List.forall_mem_cons.mpr ⟨zm_ok_69, List.forall_mem_cons.mpr ⟨zm_ok_70, List.forall_mem_cons.mpr ⟨zm_ok_71, List.forall_mem_cons.mpr ⟨zm_ok_72, List.forall_mem_cons.mpr ⟨zm_ok_73, List.forall_mem_cons.mpr ⟨zm_ok_74, List.forall_mem_cons.mpr ⟨zm_ok_75, List.forall_mem_cons.mpr ⟨zm_ok_76, List.forall_mem_cons.mpr ⟨zm_ok_77, List.forall_mem_cons.mpr ⟨zm_ok_78, List.forall_mem_cons.mpr ⟨zm_ok_79, fun _ h => absurd h List.not_mem_nil⟩⟩⟩⟩⟩⟩⟩⟩⟩⟩⟩⟩⟩⟩⟩⟩
theorem zm_okg_5 : ∀ y ∈ [80, 81, 82, 83, 84, 85, 86, 87, 88, 89, 90, 91, 92, 93, 94, 95], zm_okm y = true := List.forall_mem_cons.mpr ⟨zm_ok_80, List.forall_mem_cons.mpr ⟨zm_ok_81, List.forall_mem_cons.mpr ⟨zm_ok_82, List.forall_mem_cons.mpr ⟨zm_ok_83, List.forall_mem_cons.mpr ⟨zm_ok_84, List.forall_mem_cons.mpr ⟨zm_ok_85, List.forall_mem_cons.mpr ⟨zm_ok_86, List.forall_mem_cons.mpr ⟨zm_ok_87, List.forall_mem_cons.mpr ⟨zm_ok_88, List.forall_mem_cons.mpr ⟨zm_ok_89, List.forall_mem_cons.mpr ⟨zm_ok_90, List.forall_mem_cons.mpr ⟨zm_ok_91, List.forall_mem_cons.mpr ⟨zm_ok_92, List.forall_mem_cons.mpr ⟨zm_ok_93, List.forall_mem_cons.mpr ⟨zm_ok_94, List.forall_mem_cons.mpr ⟨zm_ok_95, fun _ h => absurd h List.not_mem_nil⟩⟩⟩⟩⟩⟩⟩⟩⟩⟩⟩⟩⟩⟩⟩⟩
theorem zm_okg_6 : ∀ y ∈ [96, 97, 98, 99, 100, 101, 102, 103, 104, 105, 106, 107, 108, 109, 110, 111], zm_okm y = true := List.forall_mem_cons.mpr ⟨zm_ok_96, List.forall_mem_cons.mpr ⟨zm_ok_97, List.forall_mem_cons.mpr ⟨zm_ok_98, List.forall_mem_cons.mpr ⟨zm_ok_99, List.forall_mem_cons.mpr ⟨zm_ok_100, List.forall_mem_cons.mpr ⟨zm_ok_101, List.forall_mem_cons.mpr ⟨zm_ok_102, List.forall_mem_cons.mpr ⟨zm_ok_103, List.forall_mem_cons.mpr ⟨zm_ok_104, List.forall_mem_cons.mpr ⟨zm_ok_105, List.forall_mem_cons.mpr ⟨zm_ok_106, List.forall_mem_cons.mpr ⟨zm_ok_107, List.forall_mem_cons.mpr ⟨zm_ok_108, List.forall_mem_cons.mpr ⟨zm_ok_109, List.forall_mem_cons.mpr ⟨zm_ok_110, List.forall_mem_cons.mpr ⟨zm_ok_111, fun _ h => absurd h List.not_mem_nil⟩⟩⟩⟩⟩⟩⟩⟩⟩⟩⟩⟩⟩⟩⟩⟩
theorem zm_okg_7 : ∀ y ∈ [112, 113, 114, 115, 116, 117, 118, 119, 120, 121, 122, 123, 124, 125, 126, 127], zm_okm y = true := List.forall_mem_cons.mpr ⟨zm_ok_112, List.forall_mem_cons.mpr ⟨zm_ok_113, List.forall_mem_cons.mpr ⟨zm_ok_114, List.forall_mem_cons.mpr ⟨zm_ok_115, List.forall_mem_cons.mpr ⟨zm_ok_116, List.forall_mem_cons.mpr ⟨zm_ok_117, List.forall_mem_cons.mpr ⟨zm_ok_118, List.forall_mem_cons.mpr ⟨zm_ok_119, List.forall_mem_cons.mpr ⟨zm_ok_120, List.forall_mem_cons.mpr ⟨zm_ok_121, List.forall_mem_cons.mpr ⟨zm_ok_122, List.forall_mem_cons.mpr ⟨zm_ok_123, List.forall_mem_cons.mpr ⟨zm_ok_124, List.forall_mem_cons.mpr ⟨zm_ok_125, List.forall_mem_cons.mpr ⟨zm_ok_126, List.forall_mem_cons.mpr ⟨zm_ok_127, fun _ h => absurd h List.not_mem_nil⟩⟩⟩⟩⟩⟩⟩⟩⟩⟩⟩⟩⟩⟩⟩⟩
theorem zm_okg_8 : ∀ y ∈ [128, 129, 130, 131, 132, 133, 134, 135, 136, 137, 138, 139, 140, 141, 142, 143], zm_okm y = true := List.forall_mem_cons.mpr ⟨zm_ok_128, List.forall_mem_cons.mpr ⟨zm_ok_129, List.forall_mem_cons.mpr ⟨zm_ok_130, List.forall_mem_cons.mpr ⟨zm_ok_131, List.forall_mem_cons.mpr ⟨zm_ok_132, List.forall_mem_cons.mpr ⟨zm_ok_133, List.forall_mem_cons.mpr ⟨zm_ok_134, List.forall_mem_cons.mpr ⟨zm_ok_135, List.forall_mem_cons.mpr ⟨zm_ok_136, List.forall_mem_cons.mpr ⟨zm_ok_137, List.forall_mem_cons.mpr ⟨zm_ok_138, List.forall_mem_cons.mpr ⟨zm_ok_139, List.forall_mem_cons.mpr ⟨zm_ok_140, List.forall_mem_cons.mpr ⟨zm_ok_141, List.forall_mem_cons.mpr ⟨zm_ok_142, List.forall_mem_cons.mpr ⟨zm_ok_143, fun _ h => absurd h List.not_mem_nil⟩⟩⟩⟩⟩⟩⟩⟩⟩⟩⟩⟩⟩⟩⟩⟩
theorem zm_okg_9 : ∀ y ∈ [144, 145, 146, 147, 148, 149, 150, 151, 152, 153, 154, 155, 156, 157, 158, 159], zm_okm y = true := List.forall_mem_cons.mpr ⟨zm_ok_144, List.forall_mem_cons.mpr ⟨zm_ok_145, List.forall_mem_cons.mpr ⟨zm_ok_146, List.forall_mem_cons.mpr ⟨zm_ok_147, List.forall_mem_cons.mpr ⟨zm_ok_148, List.forall_mem_cons.mpr ⟨zm_ok_149, List.forall_mem_cons.mpr ⟨zm_ok_150, List.forall_mem_cons.mpr ⟨zm_ok_151, List.forall_mem_cons.mpr ⟨zm_ok_152, List.forall_mem_cons.mpr ⟨zm_ok_153, List.forall_mem_cons.mpr ⟨zm_ok_154, List.forall_mem_cons.mpr ⟨zm_ok_155, List.forall_mem_cons.mpr ⟨zm_ok_156, List.forall_mem_cons.mpr ⟨zm_ok_157, List.forall_mem_cons.mpr ⟨zm_ok_158, List.forall_mem_cons.mpr ⟨zm_ok_159, fun _ h => absurd h List.not_mem_nil⟩⟩⟩⟩⟩⟩⟩⟩⟩⟩⟩⟩⟩⟩⟩⟩
theorem zm_okg_10 : ∀ y ∈ [160, 161, 162, 163, 164, 165, 166, 167, 168, 169, 170, 171, 172, 173, 174, 175], zm_okm y = true := List.forall_mem_cons.mpr ⟨zm_ok_160, List.forall_mem_cons.mpr ⟨zm_ok_161, List.forall_mem_cons.mpr ⟨zm_ok_162, List.forall_mem_cons.mpr ⟨zm_ok_163, List.forall_mem_cons.mpr ⟨zm_ok_164, List.forall_mem_cons.mpr ⟨zm_ok_165, List.forall_mem_cons.mpr ⟨zm_ok_166, List.forall_mem_cons.mpr ⟨zm_ok_167, List.forall_mem_cons.mpr ⟨zm_ok_168, List.forall_mem_cons.mpr ⟨zm_ok_169, List.forall_mem_cons.mpr ⟨zm_ok_170, List.forall_mem_cons.mpr ⟨zm_ok_171, List.forall_mem_cons.mpr ⟨zm_ok_172, List.forall_mem_cons.mpr ⟨zm_ok_173, List.forall_mem_cons.mpr ⟨zm_ok_174, List.forall_mem_cons.mpr ⟨zm_ok_175, fun _ h => absurd h List.not_mem_nil⟩⟩⟩⟩⟩⟩⟩⟩⟩⟩⟩⟩⟩⟩⟩⟩
theorem zm_okg_11 : ∀ y ∈ [176, 177, 178, 179, 180, 181, 182, 183, 184, 185, 186, 187, 188, 189, 190, 191], zm_okm y = true := List.forall_mem_cons.mpr ⟨zm_ok_176, List.forall_mem_cons.mpr ⟨zm_ok_177, List.forall_mem_cons.mpr ⟨zm_ok_178, List.forall_mem_cons.mpr ⟨zm_ok_179, List.forall_mem_cons.mpr ⟨zm_ok_180, List.forall_mem_cons.mpr ⟨zm_ok_181, List.forall_mem_cons.mpr ⟨zm_ok_182, List.forall_mem_cons.mpr ⟨zm_ok_183, List.forall_mem_cons.mpr ⟨zm_ok_184, List.forall_mem_cons.mpr ⟨zm_ok_185, List.forall_mem_cons.mpr ⟨zm_ok_186, List.forall_mem_cons.mpr ⟨zm_ok_187, List.forall_mem_cons.mpr ⟨zm_ok_188, List.forall_mem_cons.mpr ⟨zm_ok_189, List.forall_mem_cons.mpr ⟨zm_ok_190, List.forall_mem_cons.mpr ⟨zm_ok_191, fun _ h => absurd h List.not_mem_nil⟩⟩⟩⟩⟩⟩⟩⟩⟩⟩⟩⟩⟩⟩⟩⟩
theorem zm_okg_12 : ∀ y ∈ [192, 193, 194, 195, 196, 197, 198, 199, 200, 201, 202, 203, 204, 205, 206, 207], zm_okm y = true := List.forall_mem_cons.mpr ⟨zm_ok_192, List.forall_mem_cons.mpr ⟨zm_ok_193, List.forall_mem_cons.mpr ⟨zm_ok_194, List.forall_mem_cons.mpr ⟨zm_ok_195, List.forall_mem_cons.mpr ⟨zm_ok_196, List.forall_mem_cons.mpr ⟨zm_ok_197, List.forall_mem_cons.mpr ⟨zm_ok_198, List.forall_mem_cons.mpr ⟨zm_ok_199, List.forall_mem_cons.mpr ⟨zm_ok_200, List.forall_mem_cons.mpr ⟨zm_ok_201, List.forall_mem_cons.mpr ⟨zm_ok_202, List.forall_mem_cons.mpr ⟨zm_ok_203, List.forall_mem_cons.mpr ⟨zm_ok_204, List.forall_mem_cons.mpr ⟨zm_ok_205, List.forall_mem_cons.mpr ⟨zm_ok_206, List.forall_mem_cons.mpr ⟨zm_ok_207, fun _ h => absurd h List.not_mem_nil⟩⟩⟩⟩⟩⟩⟩⟩⟩⟩⟩⟩⟩⟩⟩⟩
theorem zm_okg_13 : ∀ y ∈ [208, 209, 210, 211, 212, 213, 214, 215, 216, 217, 218, 219, 220, 221, 222, 223], zm_okm y = true := List.forall_mem_cons.mpr ⟨zm_ok_208, List.forall_mem_cons.mpr ⟨zm_ok_209, List.forall_mem_cons.mpr ⟨zm_ok_210, List.forall_mem_cons.mpr ⟨zm_ok_211, List.forall_mem_cons.mpr ⟨zm_ok_212, List.forall_mem_cons.mpr ⟨zm_ok_213, List.forall_mem_cons.mpr ⟨zm_ok_214, List.forall_mem_cons.mpr ⟨zm_ok_215, List.forall_mem_cons.mpr ⟨zm_ok_216, List.forall_mem_cons.mpr ⟨zm_ok_217, List.forall_mem_cons.mpr ⟨zm_ok_218, List.forall_mem_cons.mpr ⟨zm_ok_219, List.forall_mem_cons.mpr ⟨zm_ok_220, List.forall_mem_cons.mpr ⟨zm_ok_221, List.forall_mem_cons.mpr ⟨zm_ok_222, List.forall_mem_cons.mpr ⟨zm_ok_223, fun _ h => absurd h List.not_mem_nil⟩⟩⟩⟩⟩⟩⟩⟩⟩⟩⟩⟩⟩⟩⟩⟩
theorem zm_okg_14 : ∀ y ∈ [224, 225, 226, 227, 228, 229, 230, 231, 232, 233, 234, 235, 236, 237, 238, 239], zm_okm y = true := List.forall_mem_cons.mpr ⟨zm_ok_224, List.forall_mem_cons.mpr ⟨zm_ok_225, List.forall_mem_cons.mpr ⟨zm_ok_226, List.forall_mem_cons.mpr ⟨zm_ok_227, List.forall_mem_cons.mpr ⟨zm_ok_228, List.forall_mem_cons.mpr ⟨zm_ok_229, List.forall_mem_cons.mpr ⟨zm_ok_230, List.forall_mem_cons.mpr ⟨zm_ok_231, List.forall_mem_cons.mpr ⟨zm_ok_232, List.forall_mem_cons.mpr ⟨zm_ok_233, List.forall_mem_cons.mpr ⟨zm_ok_234, List.forall_mem_cons.mpr ⟨zm_ok_235, List.forall_mem_cons.mpr ⟨zm_ok_236, List.forall_mem_cons.mpr ⟨zm_ok_237, List.forall_mem_cons.mpr ⟨zm_ok_238, List.forall_mem_cons.mpr ⟨zm_ok_239, fun _ h => absurd h List.not_mem_nil⟩⟩⟩⟩⟩⟩⟩⟩⟩⟩⟩⟩⟩⟩⟩⟩
theorem zm_okg_15 : ∀ y ∈ [240, 241, 242, 243, 244, 245, 246, 247, 248, 249], zm_okm y = true := List.forall_mem_cons.mpr ⟨zm_ok_240, List.forall_mem_cons.mpr ⟨zm_ok_241, List.forall_mem_cons.mpr ⟨zm_ok_242, List.forall_mem_cons.mpr ⟨zm_ok_243, List.forall_mem_cons.mpr ⟨zm_ok_244, List.forall_mem_cons.mpr ⟨zm_ok_245, List.forall_mem_cons.mpr ⟨zm_ok_246, List.forall_mem_cons.mpr ⟨zm_ok_247, List.forall_mem_cons.mpr ⟨zm_ok_248, List.forall_mem_cons.mpr ⟨zm_ok_249, fun _ h => absurd h List.not_mem_nil⟩⟩⟩⟩⟩⟩⟩⟩⟩⟩
theorem zm_okr : List.range zm_nM = [0, 1, 2, 3, 4, 5, 6, 7, 8, 9, 10, 11, 12, 13, 14, 15] ++ ([16, 17, 18, 19, 20, 21, 22, 23, 24, 25, 26, 27, 28, 29, 30, 31] ++ ([32, 33, 34, 35, 36, 37, 38, 39, 40, 41, 42, 43, 44, 45, 46, 47] ++ ([48, 49, 50, 51, 52, 53, 54, 55, 56, 57, 58, 59, 60, 61, 62, 63] ++ ([64, 65, 66, 67, 68, 69, 70, 71, 72, 73, 74, 75, 76, 77, 78, 79] ++ ([80, 81, 82, 83, 84, 85, 86, 87, 88, 89, 90, 91, 92, 93, 94, 95] ++ ([96, 97, 98, 99, 100, 101, 102, 103, 104, 105, 106, 107, 108, 109, 110, 111] ++ ([112, 113, 114, 115, 116, 117, 118, 119, 120, 121, 122, 123, 124, 125, 126, 127] ++ ([128, 129, 130, 131, 132, 133, 134, 135, 136, 137, 138, 139, 140, 141, 142, 143] ++ ([144, 145, 146, 147, 148, 149, 150, 151, 152, 153, 154, 155, 156, 157, 158, 159] ++ ([160, 161, 162, 163, 164, 165, 166, 167, 168, 169, 170, 171, 172, 173, 174, 175] ++ ([176, 177, 178, 179, 180, 181, 182, 183, 184, 185, 186, 187, 188, 189, 190, 191] ++ ([192, 193, 194, 195, 196, 197, 198, 199, 200, 201, 202, 203, 204, 205, 206, 207] ++ ([208, 209, 210, 211, 212, 213, 214, 215, 216, 217, 218, 219, 220, 221, 222, 223] ++ ([224, 225, 226, 227, 228, 229, 230, 231, 232, 233, 234, 235, 236, 237, 238, 239] ++ ([240, 241, 242, 243, 244, 245, 246, 247, 248, 249]))))))))))))))) := by decide +kernel
theorem zm_oky {y : Nat} (h : y < zm_nM) : zm_okm y = true := by
  have h1 : y ∈ List.range zm_nM := List.mem_range.mpr h
  rw [zm_okr] at h1
  exact (List.forall_mem_append.mpr ⟨zm_okg_0, List.forall_mem_append.mpr ⟨zm_okg_1, List.forall_mem_append.mpr ⟨zm_okg_2, List.forall_mem_append.mpr ⟨zm_okg_3, List.forall_mem_append.mpr ⟨zm_okg_4, List.forall_mem_append.mpr ⟨zm_okg_5, List.forall_mem_append.mpr ⟨zm_okg_6, List.forall_mem_append.mpr ⟨zm_okg_7, List.forall_mem_append.mpr ⟨zm_okg_8, List.forall_mem_append.mpr ⟨zm_okg_9, List.forall_mem_append.mpr ⟨zm_okg_10, List.forall_mem_append.mpr ⟨zm_okg_11, List.forall_mem_append.mpr ⟨zm_okg_12, List.forall_mem_append.mpr ⟨zm_okg_13, List.forall_mem_append.mpr ⟨zm_okg_14, zm_okg_15⟩⟩⟩⟩⟩⟩⟩⟩⟩⟩⟩⟩⟩⟩⟩) y h1
end
section
/-! ===== BEGIN words of one list among another's, by their places ===== -/
theorem goodIn_r {big : List Cond} (ws : List Cond) (ps : List Nat) (hp : ws = ps.filterMap (fun i => big[i]?)) (h : ws.all goodWord = true) : GoodIn big ws := by
  intro w hw
  have h1 := List.all_eq_true.mp h w hw
  rw [hp] at hw
  obtain ⟨i, -, hi⟩ := List.mem_filterMap.mp hw
  have hm : w ∈ big := by first | exact List.mem_of_getElem? hi | exact List.getElem?_mem hi
  exact ⟨hm, good_of_word h1⟩
theorem goodIn_app {big a b : List Cond} (ha : GoodIn big a) (hb : GoodIn big b) : GoodIn big (a ++ b) := fun w h => (List.mem_append.mp h).elim (ha w) (hb w)
theorem goodIn_ca {big a b : List Cond} {c : Cond} (ha : GoodIn big (c :: a)) (hb : GoodIn big b) : GoodIn big (c :: (a ++ b)) := fun w h => (List.mem_cons.mp h).elim (fun e => ha w (List.mem_cons.mpr (Or.inl e))) (fun h => (List.mem_append.mp h).elim (fun h => ha w (List.mem_cons.mpr (Or.inr h))) (hb w))
theorem goodIn_sub {big ws : List Cond} (hm : ∀ w ∈ ws, w ∈ big) (h : ws.all goodWord = true) : GoodIn big ws := fun w hw => ⟨hm w hw, good_of_word (List.all_eq_true.mp h w hw)⟩
/-! ===== END ===== -/
/-! ===== BEGIN exceptions that leave a method, and their catching by the caller (launches without stack traces) ===== -/
section VXA
/-! The laws vx_back, vx_callV, vx_callS, vx_callSW, vx_throw0, vx_throwS follow proofs of the library, with one case more: JvmDerived/Free/Laws.lean (Back.of_free), Shelf42/LK1.lean (callV, callS), Shelf/KitTraced.lean (throwNew0V, throwNewS). -/
/-- where a method has thrown q: the class by its name, the cell, what was written, the world -/
def vx_T (XC : String → State → State → Prop) (st : State) (q : Addr) (t : State) (mc ms : Nat) (free : Addr → Prop) : Prop :=
  ∃ (E : String) (ce : Cell) (L : List Loc), XC E st t ∧ t.heap[q]? = some ce ∧ ce.vm = .none ∧ st.vm.findClass E = some ce.cls ∧ st.WarmedH t.vm ∧ st.sameButNew ({ t with vm := st.vm } : State) L mc ms ∧ ∀ z ∈ L, free z.base
def vx_Q (Qc : Array Value → State → Outcome → State → Prop) (XC : String → State → State → Prop) (mc ms : Nat) (free : Addr → Prop) : Array Value → State → Outcome → State → Prop := fun a st o t =>
  (Qc a st o t ∧ ∃ L, FrameEnd st o t L mc ms ∧ ∀ q ∈ L, free q.base) ∨ ∃ q, o = .threw q ∧ vx_T XC st q t mc ms free
/-- a callee that returns or throws -/
def vx_Met (l : Launch) (y : MethodName) (ws : List Cond) (rm : Room) (Pc : Array Value → State → Prop) (Qc : Array Value → State → Outcome → State → Prop) (XC : String → State → State → Prop) (mc ms : Nat) (free : Addr → Prop) : Prop :=
  MetFree l y (headSpec ws rm) Pc (fun _ _ _ _ _ => True) (vx_Q Qc XC mc ms free)
def vx_Post (XC : String → State → State → Prop) (mc ms : Nat) (free : Addr → Prop) : Pt → Array Value → Addr → Pt → Prop := fun A a q B =>
  ∃ (g : JFrame) (mk : MethodId) (t : State) (L : List Loc) (E : String) (ce : Cell), B.U.heap = t.heap ∧ B.U.vm = t.vm ∧ XC E (A.U.calling g mk a) t ∧ t.heap[q]? = some ce ∧ ce.vm = .none ∧ A.U.vm.findClass E = some ce.cls ∧ B.locs = A.locs ++ L ∧ (∀ z ∈ L, free z.base) ∧ B.cells = A.cells + mc ∧ B.slots = A.slots + ms
def vx_Back (l : Launch) (R : Room) (p : Program) (e : Env) (below : List Frame) (s : State) (sargs : Array Value) (y : MethodName) (len W9 : Nat)
    (Pre : Pt → Array Value → Prop) (Post : Pt → Array Value → Option Value → Pt → Prop) (PostX : Pt → Array Value → Addr → Pt → Prop) : Prop :=
  ∀ (m : MethodId) (meth : Method) (c : Code) (A : Pt) (g : JFrame) (ig : Instr) (mk : MethodId) (a : Array Value),
    Stand p l e R s m sargs below meth c A.U A.locs A.cells A.slots → g.method = m → g.locals.size = c.maxLocals → decode c.code g.pc = .ok (ig, len) →
    2 * g.monitorRoom + (g.stack.map fun v => v.category).sum ≤ W9 → A.U.methodNamed? y = some mk → Pre A a →
    (∃ (v : Option Value) (B : Pt), Stand p l e R s m sargs below meth c B.U B.locs B.cells B.slots ∧ Post A a v B ∧
      Steps p.tables e below (doInvoke e (A.U.setTop g) [] mk a).1 (B.U.setTop { g with pc := g.pc + len, stack := v.toList ++ g.stack })) ∨
    (∃ (q : Addr) (B : Pt), Stand p l e R s m sargs below meth c B.U B.locs B.cells B.slots ∧ PostX A a q B ∧
      Steps p.tables e below (doInvoke e (A.U.setTop g) [] mk a).1 ((B.U.setTop g).pushFrame (.throwing q)))
section Payer
variable {l : Launch} {R : Room} {p : Program} {e : Env} {below : List Frame} {s : State} {sargs : Array Value} {y : MethodName} {len W9 : Nat}
theorem vx_back {ws : List Cond} {rm : Room} {Pc : Array Value → State → Prop} {Qc : Array Value → State → Outcome → State → Prop} {XC : String → State → State → Prop} {mc ms : Nat} {free : Addr → Prop} {bytes : ByteArray} {maxL : Nat} {ret : Option FieldType}
    (hM : vx_Met l y ws rm Pc Qc XC mc ms free) (hblind : FrameBlind Pc) (hrc : rm.cells = mc) (hrs : rm.slots = ms)
    (hframes : rm.frames + 1 ≤ R.frames) (hlocals : W9 + (maxL + 11) + rm.locals ≤ R.locals)
    (hws : ∀ w ∈ ws, ∀ a' U, s.WarmedH U.vm → w.before a' U = true) (hcode : Cond.code y bytes maxL ret ∈ ws) (hinit : ∀ a' U, s.WarmedH U.vm → (Cond.initialized y.cls).before a' U = true) :
    vx_Back l R p e below s sargs y len W9 (PreOf R mc ms Pc) (PostOf Qc mc ms free) (vx_Post XC mc ms free) := by
  intro m meth c A g ig mk a X hg hsize hdg hW hn hp
  have h1 : (headSpec ws rm).pre.before a A.U = true := atoms_intro fun w hw => hws w hw _ _ X.warmed
  have h2 : (Cond.code y bytes maxL ret).before a A.U = true := hws _ hcode _ _ X.warmed
  have h3 : (Cond.initialized y.cls).before a A.U = true := hinit _ _ X.warmed
  have h4 : A.cells + (headSpec ws rm).room.cells ≤ R.cells := by rw [show (headSpec ws rm).room.cells = mc from hrc]; exact hp.1
  have h5 : A.slots + (headSpec ws rm).room.slots ≤ R.slots := by rw [show (headSpec ws rm).room.slots = ms from hrs]; exact hp.2.1
  have hPc : Pc a (A.U.calling g mk a) := hblind _ _ _ _ hp.2.2
  obtain ⟨U, Ls, c0, s0⟩ := A
  dsimp only [Pt.U, Pt.locs, Pt.cells, Pt.slots] at h1 h2 h3 h4 h5 X hn hPc ⊢
  obtain ⟨methY, cY, hmY, hcY, -, hlY, -, -, -, -⟩ := Cond.code_spec hn h2
  obtain ⟨kY, hkY, -⟩ := className_of_methodNamed hn
  have hinitY : kY.init = .initialized := Cond.initialized_spec (findClass_of_methodNamed hn) hkY h3
  have h : At U g.method c below := by rw [hg]; exact X.here
  have hlocals9 : W9 + (maxL + 11) + (headSpec ws rm).room.locals ≤ R.locals := hlocals
  have happ : (headSpec ws rm).appliesLoose y e.platform (U.calling g mk a) = true :=
    Spec.appliesLoose_calling (g := g) h hdg hn hkY hinitY
      (X.room_calling (g := g) (R' := (headSpec ws rm).room) hsize hmY hcY hframes (by rw [hlY]; omega) h4 h5) h1
  obtain ⟨mid, hmid⟩ := h.above
  have hfr : (U.setTop g).frames = (.java g :: mid) ++ below := by rw [State.frames_setTop' g h.top, hmid]; rfl
  obtain ⟨o, s₂, hsteps, -, hend, hq⟩ := Steps.callFree hM p X.admits X.cas X.clock (acts := []) hfr happ hPc trivial
  have hq' : vx_Q Qc XC mc ms free a (U.calling g mk a) o s₂ := hq
  rw [State.frames_setTop' g h.top] at hend
  obtain ⟨g₀, hg0⟩ := Option.isSome_iff_exists.mp h.top
  obtain ⟨r, hr⟩ := State.topJava?_eq_some.mp hg0
  have hr' : (({ U with heap := s₂.heap, slotsUsed := s₂.slotsUsed } : State).setVm s₂.vm).frames = .java g₀ :: r := hr
  rcases hq' with ⟨hqc, L, hfe, hL⟩ | ⟨q, rfl, E, ce, L, hx, hce, hcv, hcl, hW₂, hsm, hL⟩
  · obtain ⟨⟨v, rfl⟩, hW₂, e2, q2, q3, q4, q5, q6⟩ := id hfe
    have e3 : s₂ = ({ (U.calling g mk a).setFrames s₂.frames with heap := s₂.heap, slotsUsed := s₂.slotsUsed } : State).setVm s₂.vm := by
      have : s₂ = ({ s₂ with vm := (U.calling g mk a).vm } : State).setVm s₂.vm := rfl
      rw [e2] at this
      exact this
    obtain ⟨c₂, i₂, len₂, hc₂, hd₂, hf₂⟩ := hend
    have hW' : U.WarmedH s₂.vm := hW₂
    have hcc : c₂ = c := by
      have h1 : s₂.code? g.method = U.code? g.method := by
        rw [State.code?_eq, State.code?_eq, hW'.alike.method?]
      exact Option.some.inj (hc₂.symm.trans (h1.trans h.code))
    subst hcc
    have hlen : len₂ = len := by rw [hdg] at hd₂; cases hd₂; rfl
    subst hlen
    have hs₂ : s₂ = (({ U with heap := s₂.heap, slotsUsed := s₂.slotsUsed } : State).setVm s₂.vm).setTop { g with pc := g.pc + len₂, stack := v.toList ++ g.stack } := by
      refine e3.trans ?_
      rw [hf₂, State.calling_eq h.top, State.setFrames_setFrames, State.setTop_of_frames _ hr', hr]
      rfl
    have hsame : U.sameButNew ({ U with heap := s₂.heap, slotsUsed := s₂.slotsUsed } : State) L mc ms := by
      refine ⟨?_, q2, q3, q4, q5, q6⟩
      obtain ⟨t, ht, -⟩ := State.frames_cons hr
      show ({ U with heap := s₂.heap, slotsUsed := s₂.slotsUsed } : State) = { U.setFrames U.frames with heap := s₂.heap, slotsUsed := s₂.slotsUsed }
      rw [State.setFrames_self ht]
    subst hg
    refine Or.inl ⟨v, ⟨(({ U with heap := s₂.heap, slotsUsed := s₂.slotsUsed } : State).setVm s₂.vm), Ls ++ L, c0 + mc, s0 + ms⟩,
      ⟨X.admits, X.cas, X.clock, X.frames, X.room, X.hears, X.method, X.code, (X.here.setHeapUsed s₂.heap s₂.slotsUsed).setVm hW'.alike, X.tail, State.WarmedH.trans X.warmed hW', X.limits, X.bytes, X.same.trans (hsame.setVm s.vm)⟩,
      ⟨g, mk, s₂, L, rfl, rfl, hqc, rfl, hL, rfl, rfl⟩, ?_⟩
    show Steps p.tables e below _ ((({ U with heap := s₂.heap, slotsUsed := s₂.slotsUsed } : State).setVm s₂.vm).setTop { g with pc := g.pc + len₂, stack := v.toList ++ g.stack })
    rw [← hs₂]
    exact hsteps
  · obtain ⟨e2, q2, q3, q4, q5, q6⟩ := id hsm
    have e3 : s₂ = ({ (U.calling g mk a).setFrames s₂.frames with heap := s₂.heap, slotsUsed := s₂.slotsUsed } : State).setVm s₂.vm := by
      have : s₂ = ({ s₂ with vm := (U.calling g mk a).vm } : State).setVm s₂.vm := rfl
      rw [e2] at this
      exact this
    have hf₂ : s₂.frames = .throwing q :: .java g :: U.frames.tail := hend
    have hW' : U.WarmedH s₂.vm := hW₂
    have hs₂ : s₂ = ((({ U with heap := s₂.heap, slotsUsed := s₂.slotsUsed } : State).setVm s₂.vm).setTop g).pushFrame (.throwing q) := by
      refine e3.trans ?_
      rw [hf₂, State.calling_eq h.top, State.setFrames_setFrames, State.pushFrame, State.frames_setTop _ hr', State.setTop_of_frames _ hr', State.setFrames_setFrames, hr]
      rfl
    have hsame : U.sameButNew ({ U with heap := s₂.heap, slotsUsed := s₂.slotsUsed } : State) L mc ms := by
      refine ⟨?_, q2, q3, q4, q5, q6⟩
      obtain ⟨t, ht, -⟩ := State.frames_cons hr
      show ({ U with heap := s₂.heap, slotsUsed := s₂.slotsUsed } : State) = { U.setFrames U.frames with heap := s₂.heap, slotsUsed := s₂.slotsUsed }
      rw [State.setFrames_self ht]
    subst hg
    refine Or.inr ⟨q, ⟨(({ U with heap := s₂.heap, slotsUsed := s₂.slotsUsed } : State).setVm s₂.vm), Ls ++ L, c0 + mc, s0 + ms⟩,
      ⟨X.admits, X.cas, X.clock, X.frames, X.room, X.hears, X.method, X.code, (X.here.setHeapUsed s₂.heap s₂.slotsUsed).setVm hW'.alike, X.tail, State.WarmedH.trans X.warmed hW', X.limits, X.bytes, X.same.trans (hsame.setVm s.vm)⟩,
      ⟨g, mk, s₂, L, E, ce, rfl, rfl, hx, hce, hcv, hcl, rfl, hL, rfl, rfl⟩, ?_⟩
    show Steps p.tables e below _ (((({ U with heap := s₂.heap, slotsUsed := s₂.slotsUsed } : State).setVm s₂.vm).setTop g).pushFrame (.throwing q))
    rw [← hs₂]
    exact hsteps
end Payer
section Calls
variable {p : Program} {l : Launch} {e : Env} {R : Room} {s : State} {m : MethodId} {args : Array Value} {below : List Frame} {meth : Method} {c : Code} {T : State} {locs : List Loc} {cells slots : Nat}
theorem vx_callV (X : Stand p l e R s m args below meth c T locs cells slots) (hexec : p.tables.exec = Jvm.exec) {own C : String} {index : Nat} {y : MethodName} {bytes : ByteArray} {maxL : Nat} {ret : Option FieldType}
    (hown : s.vm.findClass own = some m.cls) (hlink : (Cond.methodLink own index y).before args s = true) (hinst : (Cond.instanceMethod y).before args s = true) (hsel : (Cond.selects C y y).before args s = true)
    (hcode : (Cond.code y bytes maxL ret).before args s = true) (hy : y.cls ≠ "java/lang/invoke/MethodHandle" ∧ y.cls ≠ "java/lang/invoke/VarHandle")
    {W9 : Nat} {Pre : Pt → Array Value → Prop} {Post : Pt → Array Value → Option Value → Pt → Prop} {PostX : Pt → Array Value → Addr → Pt → Prop} (hK : vx_Back l R p e below s args y 3 W9 Pre Post PostX)
    {b : Addr} {cellB : Cell} (hcell : T.heap[b]? = some cellB) (hobj : cellB.vm.isStatics = false) (hcls : s.vm.findClass C = some cellB.cls)
    {g : JFrame} (hg : g.method = m) (hsize : g.locals.size = c.maxLocals) {argsL rest : List Value} (hlen : ∀ sig, parseMethodDescriptor y.desc = some sig → argsL.length = sig.parameters.length)
    (hstack : g.stack = argsL.reverse ++ .ref b :: rest) (hW : 2 * g.monitorRoom + (rest.map fun v => v.category).sum ≤ W9) (hdg : decode c.code g.pc = .ok (.invokevirtual index, 3))
    (hpre : ∀ vm₁, s.WarmedH vm₁ → Pre ⟨T.setVm vm₁, locs, cells, slots⟩ (Value.ref b :: argsL).toArray) :
    (∃ (v : Option Value) (vm₁ : Vm) (B : Pt), s.WarmedH vm₁ ∧ Stand p l e R s m args below meth c B.U B.locs B.cells B.slots ∧ Post ⟨T.setVm vm₁, locs, cells, slots⟩ (Value.ref b :: argsL).toArray v B ∧
      ∀ target, Steps p.tables e below (B.U.setTop { g with pc := g.pc + 3, stack := v.toList ++ rest }) target → Steps p.tables e below (T.setTop g) target) ∨
    (∃ (q : Addr) (vm₁ : Vm) (B : Pt), s.WarmedH vm₁ ∧ Stand p l e R s m args below meth c B.U B.locs B.cells B.slots ∧ PostX ⟨T.setVm vm₁, locs, cells, slots⟩ (Value.ref b :: argsL).toArray q B ∧
      Steps p.tables e below (T.setTop g) ((B.U.setTop { g with stack := rest }).pushFrame (.throwing q))) := by
  obtain ⟨mk, methM, hnamed, hmethM, hstM, habM⟩ := Cond.instanceMethod_spec hinst
  obtain ⟨methM', cM, hmethM', -, -, -, -, -, -, hsigM⟩ := Cond.code_spec hnamed hcode
  cases hmethM.symm.trans hmethM'
  obtain ⟨c2, r2, m2, q1, q2, q3, q4, kP, hkP, hkPi⟩ := Cond.selects_spec hsel
  cases hcls.symm.trans q1
  cases (State.methodFound?_of_named hnamed hy).symm.trans q2
  cases hnamed.symm.trans q3
  have hselP : selectMethod e.platform s.vm cellB.cls mk = .method mk := by rw [Launch.admits_selectMethod X.admits]; exact q4
  obtain ⟨vm₁, X₁, hstep₁⟩ := X.invokevirtual hexec hown hlink hnamed hmethM hstM hkP hkPi hy (a := b) (cell := cellB) hcell
    (fun z h => by rw [h] at hobj; cases hobj) hselP hmethM habM hkP hkPi (g := g) hg (argsL := argsL) (rest := rest) (hlen _ hsigM) hstack hdg
  rcases hK m meth c ⟨T.setVm vm₁, locs, cells, slots⟩ { g with stack := rest } (.invokevirtual index) mk (Value.ref b :: argsL).toArray X₁ hg hsize hdg hW (X₁.named hnamed) (hpre vm₁ X₁.warmed) with ⟨v, B, X', hpost, hsteps⟩ | ⟨q, B, X', hpost, hsteps⟩
  · exact Or.inl ⟨v, vm₁, B, X₁.warmed, X', hpost, fun target h => hstep₁ _ fun acts => by rw [doInvoke_state]; exact hsteps.trans h⟩
  · exact Or.inr ⟨q, vm₁, B, X₁.warmed, X', hpost, hstep₁ _ fun acts => by rw [doInvoke_state]; exact hsteps⟩
theorem vx_callS (X : Stand p l e R s m args below meth c T locs cells slots) (hexec : p.tables.exec = Jvm.exec) {own : String} {index : Nat} {y : MethodName} {bytes : ByteArray} {maxL : Nat} {ret : Option FieldType}
    (hown : s.vm.findClass own = some m.cls) (hlink : (Cond.methodLink own index y).before args s = true) (hstat : (Cond.static y).before args s = true) (hinit : (Cond.initialized y.cls).before args s = true)
    (hcode : (Cond.code y bytes maxL ret).before args s = true) (hy : y.cls ≠ "java/lang/invoke/MethodHandle" ∧ y.cls ≠ "java/lang/invoke/VarHandle")
    {W9 : Nat} {Pre : Pt → Array Value → Prop} {Post : Pt → Array Value → Option Value → Pt → Prop} {PostX : Pt → Array Value → Addr → Pt → Prop} (hK : vx_Back l R p e below s args y 3 W9 Pre Post PostX)
    {g : JFrame} (hg : g.method = m) (hsize : g.locals.size = c.maxLocals) {argsL rest : List Value} (hlen : ∀ sig, parseMethodDescriptor y.desc = some sig → argsL.length = sig.parameters.length)
    (hstack : g.stack = argsL.reverse ++ rest) (hW : 2 * g.monitorRoom + (rest.map fun v => v.category).sum ≤ W9) (hdg : decode c.code g.pc = .ok (.invokestatic index, 3))
    (hpre : ∀ vm₁, s.WarmedH vm₁ → Pre ⟨T.setVm vm₁, locs, cells, slots⟩ argsL.toArray) :
    (∃ (v : Option Value) (vm₁ : Vm) (B : Pt), s.WarmedH vm₁ ∧ Stand p l e R s m args below meth c B.U B.locs B.cells B.slots ∧ Post ⟨T.setVm vm₁, locs, cells, slots⟩ argsL.toArray v B ∧
      ∀ target, Steps p.tables e below (B.U.setTop { g with pc := g.pc + 3, stack := v.toList ++ rest }) target → Steps p.tables e below (T.setTop g) target) ∨
    (∃ (q : Addr) (vm₁ : Vm) (B : Pt), s.WarmedH vm₁ ∧ Stand p l e R s m args below meth c B.U B.locs B.cells B.slots ∧ PostX ⟨T.setVm vm₁, locs, cells, slots⟩ argsL.toArray q B ∧
      Steps p.tables e below (T.setTop g) ((B.U.setTop { g with stack := rest }).pushFrame (.throwing q))) := by
  obtain ⟨mk, hnamed⟩ := Cond.code_named hcode
  obtain ⟨methM, cM, hmethM, -, -, -, -, -, -, hsigM⟩ := Cond.code_spec hnamed hcode
  have hstatic : methM.isStatic = true := Cond.static_spec hnamed hmethM hstat
  obtain ⟨kP, hkP, -⟩ := className_of_methodNamed hnamed
  have hinitP : kP.init = .initialized := Cond.initialized_spec (findClass_of_methodNamed hnamed) hkP hinit
  obtain ⟨vm₁, X₁, hstep₁⟩ := X.invokestatic hexec hown hlink hnamed hmethM hstatic hkP hinitP hy (g := g) hg (argsL := argsL) (rest := rest) (hlen _ hsigM) hstack hdg
  rcases hK m meth c ⟨T.setVm vm₁, locs, cells, slots⟩ { g with stack := rest } (.invokestatic index) mk argsL.toArray X₁ hg hsize hdg hW (X₁.named hnamed) (hpre vm₁ X₁.warmed) with ⟨v, B, X', hpost, hsteps⟩ | ⟨q, B, X', hpost, hsteps⟩
  · exact Or.inl ⟨v, vm₁, B, X₁.warmed, X', hpost, fun target h => hstep₁ _ fun acts => by rw [doInvoke_state]; exact hsteps.trans h⟩
  · exact Or.inr ⟨q, vm₁, B, X₁.warmed, X', hpost, hstep₁ _ fun acts => by rw [doInvoke_state]; exact hsteps⟩
end Calls
theorem vx_cls {s : State} {T : State} {vm₁ : Vm} {E : String} {k : ClassId} (hW : s.WarmedH vm₁) (h : (T.setVm vm₁).vm.findClass E = some k) : s.vm.findClass E = some k := by
  have h1 : vm₁.findClass E = some k := h
  rw [hW.alike.findClass] at h1
  exact h1
/-- the method's frame g, with q thrown over it -/
def vx_W (p : Program) (l : Launch) (e : Env) (R : Room) (s : State) (m : MethodId) (args : Array Value) (below : List Frame) (meth : Method) (c : Code) (H : Heap) (locs : List Loc) (cells slots : Nat) (Q : State → Prop) (g : JFrame) (q : Addr) : Prop :=
  ∀ T : State, T.heap = H → Stand p l e R s m args below meth c T locs cells slots → ∃ t, Steps p.tables e below ((T.setTop g).pushFrame (.throwing q)) t ∧ Q t
def vx_Run (p : Program) (l : Launch) (e : Env) (R : Room) (s : State) (m : MethodId) (args : Array Value) (below : List Frame) (meth : Method) (c : Code) (H : Heap) (locs : List Loc) (cells slots mc ms : Nat) (g : JFrame) (rest : List Value) (Qa : State → Outcome → State → Prop) (XC : String → State → State → Prop) (free : Addr → Prop) : Prop :=
  ∀ T : State, T.heap = H → Stand p l e R s m args below meth c T locs cells slots →
    (∃ (v : Option Value) (st₀ t T' : State) (L : List Loc), st₀.heap = H ∧ Stand p l e R s m args below meth c T' (locs ++ L) (cells + mc) (slots + ms) ∧ (∀ q ∈ L, free q.base) ∧ T'.heap = t.heap ∧ T'.vm = t.vm ∧ Qa st₀ (.returned v) t ∧
      Goes p e below T g T' { g with pc := g.pc + 3, stack := v.toList ++ rest }) ∨
    (∃ (q : Addr) (st₀ t T' : State) (L : List Loc) (E : String) (ce : Cell), st₀.heap = H ∧ Stand p l e R s m args below meth c T' (locs ++ L) (cells + mc) (slots + ms) ∧ (∀ z ∈ L, free z.base) ∧ T'.heap = t.heap ∧ T'.vm = t.vm ∧ XC E st₀ t ∧ t.heap[q]? = some ce ∧ ce.vm = .none ∧ s.vm.findClass E = some ce.cls ∧
      Steps p.tables e below (T.setTop g) ((T'.setTop { g with stack := rest }).pushFrame (.throwing q)))
def vx_X {S : Type} (px : S → Prop) (B : String → S → State → Prop) (A : Nat → Prop) : String → State → State → Prop := fun E st t => ∃ u : S, px u ∧ B E u t ∧ va_F A st t
section Runs
variable {p : Program} {l : Launch} {e : Env} {R : Room} {s : State} {m : MethodId} {args : Array Value} {below : List Frame} {meth : Method} {c : Code} {H : Heap} {locs : List Loc} {cells slots : Nat}
variable {y : MethodName} {bytes cc : ByteArray} {maxL nL mc ms n index : Nat} {ret : Option FieldType} {ws : List Cond} {rm : Room} {Pc : Array Value → State → Prop} {Qc : Array Value → State → Outcome → State → Prop} {XC : String → State → State → Prop} {free : Addr → Prop} {Ts : List Cond} {own C : String} {b : Addr} {As rest : List Value} {g : JFrame}
theorem vx_callBack (cb : CallB R s args own index y bytes maxL ret ws rm mc ms n) (hM : vx_Met l y ws rm Pc Qc XC mc ms free) (hbl : FrameBlind Pc) : vx_Back l R p e below s args y 3 8 (PreOf R mc ms Pc) (PostOf Qc mc ms free) (vx_Post XC mc ms free) := by
  obtain ⟨hrc, hrs, hfr, hlo, hws, hcw, -, hini, -⟩ := cb
  exact vx_back (bytes := bytes) (maxL := maxL) (ret := ret) hM hbl hrc hrs hfr hlo hws hcw (fun a' U hW => word_at hW (Or.inl (by first | rfl | simp [Cond.onTables, Cond.keeps, Cond.steady])) hini)
theorem vx_runV (S : CallFix p m c cc nL s args Ts own) (hM : vx_Met l y ws rm Pc Qc XC mc ms free) (cw : CallW R s args own C index y bytes maxL ret ws rm mc ms n) (hp : PreV s H C b Pc As)
    (hg : g.method = m) (hn : As.length = n) (hsize : g.locals.size = nL) (hstack : g.stack = As.reverse ++ .ref b :: rest) (hW : 2 * g.monitorRoom + (rest.map fun v => v.category).sum ≤ 8) (hdg : decode cc g.pc = .ok (.invokevirtual index, 3)) (hf : cells + mc ≤ R.cells ∧ slots + ms ≤ R.slots) :
    vx_Run p l e R s m args below meth c H locs cells slots mc ms g rest (Qc (Value.ref b :: As).toArray) XC free := by
  have hK : vx_Back l R p e below s args y 3 8 (PreOf R mc ms Pc) (PostOf Qc mc ms free) (vx_Post XC mc ms free) := vx_callBack cw.1 hM hp.1
  obtain ⟨⟨-, -, -, -, -, -, hcode, -, hy, hlen, hl⟩, hin, hse⟩ := cw
  obtain ⟨hx, hb, hml, ho, -⟩ := S
  obtain ⟨-, ⟨cellB, hcB, hoB, hclB⟩, hPc⟩ := hp
  intro T hT X
  rcases vx_callV X hx (C := C) (bytes := bytes) (maxL := maxL) (ret := ret) ho hl hin hse hcode hy hK (by rw [hT]; exact hcB) hoB hclB hg (hsize.trans hml.symm) (argsL := As) (rest := rest) (fun sig h => hn.trans (hlen sig h)) hstack hW (by rw [hb]; exact hdg)
    (fun vm₁ hW₁ => ⟨hf.1, hf.2, hPc (T.setVm vm₁) hT hW₁⟩) with ⟨v, vm₁, ⟨U', l2, c2, s2⟩, hW₁, X', ⟨g', mk, t, L, e1, e2, hq, h1, hL, h2, h3⟩, st⟩ | ⟨q, vm₁, ⟨U', l2, c2, s2⟩, hW₁, X', ⟨g', mk, t, L, E, ce, e1, e2, hq, hce, hcv, hcl, h1, hL, h2, h3⟩, st⟩
  · dsimp only [Pt.U, Pt.locs, Pt.cells, Pt.slots] at X' e1 e2 h1 h2 h3 st
    subst h1; subst h2; subst h3
    exact Or.inl ⟨v, (T.setVm vm₁).calling g' mk (Value.ref b :: As).toArray, t, U', L, hT, X', hL, e1, e2, hq, st⟩
  · dsimp only [Pt.U, Pt.locs, Pt.cells, Pt.slots] at X' e1 e2 h1 h2 h3 st hcl
    subst h1; subst h2; subst h3
    exact Or.inr ⟨q, (T.setVm vm₁).calling g' mk (Value.ref b :: As).toArray, t, U', L, E, ce, hT, X', hL, e1, e2, hq, hce, hcv, vx_cls hW₁ hcl, st⟩
theorem vx_runS (S : CallFix p m c cc nL s args Ts own) (hM : vx_Met l y ws rm Pc Qc XC mc ms free) (cw : CallB R s args own index y bytes maxL ret ws rm mc ms n ∧ (Cond.static y).before args s = true) (hp : PreS s H Pc As)
    (hg : g.method = m) (hn : As.length = n) (hsize : g.locals.size = nL) (hstack : g.stack = As.reverse ++ rest) (hW : 2 * g.monitorRoom + (rest.map fun v => v.category).sum ≤ 8) (hdg : decode cc g.pc = .ok (.invokestatic index, 3)) (hf : cells + mc ≤ R.cells ∧ slots + ms ≤ R.slots) :
    vx_Run p l e R s m args below meth c H locs cells slots mc ms g rest (Qc As.toArray) XC free := by
  have hK : vx_Back l R p e below s args y 3 8 (PreOf R mc ms Pc) (PostOf Qc mc ms free) (vx_Post XC mc ms free) := vx_callBack cw.1 hM hp.1
  obtain ⟨⟨-, -, -, -, -, -, hcode, hini, hy, hlen, hl⟩, hstt⟩ := cw
  obtain ⟨hx, hb, hml, ho, -⟩ := S
  intro T hT X
  rcases vx_callS X hx (bytes := bytes) (maxL := maxL) (ret := ret) ho hl hstt hini hcode hy hK hg (hsize.trans hml.symm) (argsL := As) (rest := rest) (fun sig h => hn.trans (hlen sig h)) hstack hW (by rw [hb]; exact hdg)
    (fun vm₁ hW₁ => ⟨hf.1, hf.2, hp.2 (T.setVm vm₁) hT hW₁⟩) with ⟨v, vm₁, ⟨U', l2, c2, s2⟩, hW₁, X', ⟨g', mk, t, L, e1, e2, hq, h1, hL, h2, h3⟩, st⟩ | ⟨q, vm₁, ⟨U', l2, c2, s2⟩, hW₁, X', ⟨g', mk, t, L, E, ce, e1, e2, hq, hce, hcv, hcl, h1, hL, h2, h3⟩, st⟩
  · dsimp only [Pt.U, Pt.locs, Pt.cells, Pt.slots] at X' e1 e2 h1 h2 h3 st
    subst h1; subst h2; subst h3
    exact Or.inl ⟨v, (T.setVm vm₁).calling g' mk As.toArray, t, U', L, hT, X', hL, e1, e2, hq, st⟩
  · dsimp only [Pt.U, Pt.locs, Pt.cells, Pt.slots] at X' e1 e2 h1 h2 h3 st hcl
    subst h1; subst h2; subst h3
    exact Or.inr ⟨q, (T.setVm vm₁).calling g' mk As.toArray, t, U', L, E, ce, hT, X', hL, e1, e2, hq, hce, hcv, vx_cls hW₁ hcl, st⟩
end Runs
section Rows
variable {p : Program} {l : Launch} {e : Env} {R : Room} {s : State} {m : MethodId} {args : Array Value} {below : List Frame} {meth : Method} {c : Code} {H : Heap} {locs : List Loc} {cells slots : Nat} {Q : State → Prop}
variable {mc ms : Nat} {free : Addr → Prop} {A0 A1 : Nat → Prop} {H0 : Heap} {a : Array Value} {pc : Nat} {ls : Array Slot} {st0 rest : List Value}
theorem vx_keep {st₀ t T' : State} {L : List Loc} (h0 : st₀.heap = H) (e1 : T'.heap = t.heap) (hS : va_S A0 H0 H locs) (hA : ∀ q, q < H.size → A1 q → A0 q) (hf : ∀ q, free q → A0 q) (hL : ∀ q ∈ L, free q.base) (hF : va_F A1 st₀ t) :
    H.size ≤ T'.heap.size ∧ (∀ q : Nat, q < H.size → ¬ A1 q → T'.heap[q]? = H[q]?) ∧ va_S A0 H0 T'.heap (locs ++ L) := by
  obtain ⟨hz, hk⟩ := hF
  rw [h0] at hz hk
  exact ⟨by rw [e1]; exact hz, fun q h1 h2 => by rw [e1]; exact hk q h1 h2,
    ⟨Nat.le_trans hS.1 (by rw [e1]; exact hz), fun q h1 h2 => by rw [e1, hk q (Nat.lt_of_lt_of_le h1 hS.1) (fun z => h2 (hA q (Nat.lt_of_lt_of_le h1 hS.1) z))]; exact hS.2.1 q h1 h2, fun q hq => by
      rcases List.mem_append.mp hq with h | h
      · exact hS.2.2 q h
      · exact hf _ (hL q h)⟩⟩
theorem vx_calli {S SX : Type} {post : Int32 → S → Prop} {px : SX → Prop} {B : S → State → Prop} {BX : String → SX → State → Prop} {AX : Nat → Prop} (hr : vx_Run p l e R s m args below meth c H locs cells slots mc ms (F0 m pc ls st0) rest (va_Qi post B A1 a) (vx_X px BX AX) free) (hS : va_S A0 H0 H locs) (hA : ∀ q, q < H.size → A1 q → A0 q) (hf : ∀ q, free q → A0 q) (hAX : ∀ q, q < H.size → AX q → A0 q)
    (kx : ∀ (E : String) (ce : Cell) (q9 : Addr) (u : SX) (t : State) (H1 : Heap) (locs1 : List Loc), t.heap = H1 → s.vm.Alike t.vm → px u → BX E u t → H.size ≤ H1.size → (∀ q : Nat, q < H.size → ¬ AX q → H1[q]? = H[q]?) → va_S A0 H0 H1 locs1 → H1[q9]? = some ce → ce.vm = .none → s.vm.findClass E = some ce.cls → vx_W p l e R s m args below meth c H1 locs1 (cells + mc) (slots + ms) Q (F0 m pc ls rest) q9)
    (kk : ∀ (r : Int32) (u : S) (t : State) (H1 : Heap) (locs1 : List Loc), t.heap = H1 → s.vm.Alike t.vm → post r u → B u t → H.size ≤ H1.size → (∀ q : Nat, q < H.size → ¬ A1 q → H1[q]? = H[q]?) → va_S A0 H0 H1 locs1 → W p l e R s m args below meth c H1 locs1 (cells + mc) (slots + ms) Q (F0 m (pc + 3) ls (.int r :: rest))) : W p l e R s m args below meth c H locs cells slots Q (F0 m pc ls st0) := by
  intro T hT X
  rcases hr T hT X with ⟨v, st₀, t, T', L, h0, X', hL, e1, e2, ⟨⟨r, u, hv, hp, hb⟩, hF⟩, st⟩ | ⟨q, st₀, t, T', L, E, ce, h0, X', hL, e1, e2, ⟨u, hp, hb, hF⟩, hce, hcv, hcl, st⟩
  · cases hv
    obtain ⟨k1, k2, k3⟩ := vx_keep h0 e1 hS hA hf hL hF
    obtain ⟨t2, a1, b1⟩ := kk r u t T'.heap (locs ++ L) e1.symm (by rw [← e2]; exact X'.warmed.alike) hp hb k1 k2 k3 T' rfl X'
    exact ⟨t2, st t2 a1, b1⟩
  · obtain ⟨k1, k2, k3⟩ := vx_keep h0 e1 hS hAX hf hL hF
    obtain ⟨t2, a1, b1⟩ := kx E ce q u t T'.heap (locs ++ L) e1.symm (by rw [← e2]; exact X'.warmed.alike) hp hb k1 k2 k3 (by rw [e1]; exact hce) hcv hcl T' rfl X'
    exact ⟨t2, st.trans a1, b1⟩
theorem vx_calll {S SX : Type} {post : Int64 → S → Prop} {px : SX → Prop} {B : S → State → Prop} {BX : String → SX → State → Prop} {AX : Nat → Prop} (hr : vx_Run p l e R s m args below meth c H locs cells slots mc ms (F0 m pc ls st0) rest (va_Ql post B A1 a) (vx_X px BX AX) free) (hS : va_S A0 H0 H locs) (hA : ∀ q, q < H.size → A1 q → A0 q) (hf : ∀ q, free q → A0 q) (hAX : ∀ q, q < H.size → AX q → A0 q)
    (kx : ∀ (E : String) (ce : Cell) (q9 : Addr) (u : SX) (t : State) (H1 : Heap) (locs1 : List Loc), t.heap = H1 → s.vm.Alike t.vm → px u → BX E u t → H.size ≤ H1.size → (∀ q : Nat, q < H.size → ¬ AX q → H1[q]? = H[q]?) → va_S A0 H0 H1 locs1 → H1[q9]? = some ce → ce.vm = .none → s.vm.findClass E = some ce.cls → vx_W p l e R s m args below meth c H1 locs1 (cells + mc) (slots + ms) Q (F0 m pc ls rest) q9)
    (kk : ∀ (r : Int64) (u : S) (t : State) (H1 : Heap) (locs1 : List Loc), t.heap = H1 → s.vm.Alike t.vm → post r u → B u t → H.size ≤ H1.size → (∀ q : Nat, q < H.size → ¬ A1 q → H1[q]? = H[q]?) → va_S A0 H0 H1 locs1 → W p l e R s m args below meth c H1 locs1 (cells + mc) (slots + ms) Q (F0 m (pc + 3) ls (.long r :: rest))) : W p l e R s m args below meth c H locs cells slots Q (F0 m pc ls st0) := by
  intro T hT X
  rcases hr T hT X with ⟨v, st₀, t, T', L, h0, X', hL, e1, e2, ⟨⟨r, u, hv, hp, hb⟩, hF⟩, st⟩ | ⟨q, st₀, t, T', L, E, ce, h0, X', hL, e1, e2, ⟨u, hp, hb, hF⟩, hce, hcv, hcl, st⟩
  · cases hv
    obtain ⟨k1, k2, k3⟩ := vx_keep h0 e1 hS hA hf hL hF
    obtain ⟨t2, a1, b1⟩ := kk r u t T'.heap (locs ++ L) e1.symm (by rw [← e2]; exact X'.warmed.alike) hp hb k1 k2 k3 T' rfl X'
    exact ⟨t2, st t2 a1, b1⟩
  · obtain ⟨k1, k2, k3⟩ := vx_keep h0 e1 hS hAX hf hL hF
    obtain ⟨t2, a1, b1⟩ := kx E ce q u t T'.heap (locs ++ L) e1.symm (by rw [← e2]; exact X'.warmed.alike) hp hb k1 k2 k3 (by rw [e1]; exact hce) hcv hcl T' rfl X'
    exact ⟨t2, st.trans a1, b1⟩
theorem vx_callf {S SX : Type} {post : UInt32 → S → Prop} {px : SX → Prop} {B : S → State → Prop} {BX : String → SX → State → Prop} {AX : Nat → Prop} (hr : vx_Run p l e R s m args below meth c H locs cells slots mc ms (F0 m pc ls st0) rest (va_Qf post B A1 a) (vx_X px BX AX) free) (hS : va_S A0 H0 H locs) (hA : ∀ q, q < H.size → A1 q → A0 q) (hf : ∀ q, free q → A0 q) (hAX : ∀ q, q < H.size → AX q → A0 q)
    (kx : ∀ (E : String) (ce : Cell) (q9 : Addr) (u : SX) (t : State) (H1 : Heap) (locs1 : List Loc), t.heap = H1 → s.vm.Alike t.vm → px u → BX E u t → H.size ≤ H1.size → (∀ q : Nat, q < H.size → ¬ AX q → H1[q]? = H[q]?) → va_S A0 H0 H1 locs1 → H1[q9]? = some ce → ce.vm = .none → s.vm.findClass E = some ce.cls → vx_W p l e R s m args below meth c H1 locs1 (cells + mc) (slots + ms) Q (F0 m pc ls rest) q9)
    (kk : ∀ (r : UInt32) (u : S) (t : State) (H1 : Heap) (locs1 : List Loc), t.heap = H1 → s.vm.Alike t.vm → post r u → B u t → H.size ≤ H1.size → (∀ q : Nat, q < H.size → ¬ A1 q → H1[q]? = H[q]?) → va_S A0 H0 H1 locs1 → W p l e R s m args below meth c H1 locs1 (cells + mc) (slots + ms) Q (F0 m (pc + 3) ls (.float r :: rest))) : W p l e R s m args below meth c H locs cells slots Q (F0 m pc ls st0) := by
  intro T hT X
  rcases hr T hT X with ⟨v, st₀, t, T', L, h0, X', hL, e1, e2, ⟨⟨r, u, hv, hp, hb⟩, hF⟩, st⟩ | ⟨q, st₀, t, T', L, E, ce, h0, X', hL, e1, e2, ⟨u, hp, hb, hF⟩, hce, hcv, hcl, st⟩
  · cases hv
    obtain ⟨k1, k2, k3⟩ := vx_keep h0 e1 hS hA hf hL hF
    obtain ⟨t2, a1, b1⟩ := kk r u t T'.heap (locs ++ L) e1.symm (by rw [← e2]; exact X'.warmed.alike) hp hb k1 k2 k3 T' rfl X'
    exact ⟨t2, st t2 a1, b1⟩
  · obtain ⟨k1, k2, k3⟩ := vx_keep h0 e1 hS hAX hf hL hF
    obtain ⟨t2, a1, b1⟩ := kx E ce q u t T'.heap (locs ++ L) e1.symm (by rw [← e2]; exact X'.warmed.alike) hp hb k1 k2 k3 (by rw [e1]; exact hce) hcv hcl T' rfl X'
    exact ⟨t2, st.trans a1, b1⟩
theorem vx_calld {S SX : Type} {post : UInt64 → S → Prop} {px : SX → Prop} {B : S → State → Prop} {BX : String → SX → State → Prop} {AX : Nat → Prop} (hr : vx_Run p l e R s m args below meth c H locs cells slots mc ms (F0 m pc ls st0) rest (va_Qd post B A1 a) (vx_X px BX AX) free) (hS : va_S A0 H0 H locs) (hA : ∀ q, q < H.size → A1 q → A0 q) (hf : ∀ q, free q → A0 q) (hAX : ∀ q, q < H.size → AX q → A0 q)
    (kx : ∀ (E : String) (ce : Cell) (q9 : Addr) (u : SX) (t : State) (H1 : Heap) (locs1 : List Loc), t.heap = H1 → s.vm.Alike t.vm → px u → BX E u t → H.size ≤ H1.size → (∀ q : Nat, q < H.size → ¬ AX q → H1[q]? = H[q]?) → va_S A0 H0 H1 locs1 → H1[q9]? = some ce → ce.vm = .none → s.vm.findClass E = some ce.cls → vx_W p l e R s m args below meth c H1 locs1 (cells + mc) (slots + ms) Q (F0 m pc ls rest) q9)
    (kk : ∀ (r : UInt64) (u : S) (t : State) (H1 : Heap) (locs1 : List Loc), t.heap = H1 → s.vm.Alike t.vm → post r u → B u t → H.size ≤ H1.size → (∀ q : Nat, q < H.size → ¬ A1 q → H1[q]? = H[q]?) → va_S A0 H0 H1 locs1 → W p l e R s m args below meth c H1 locs1 (cells + mc) (slots + ms) Q (F0 m (pc + 3) ls (.double r :: rest))) : W p l e R s m args below meth c H locs cells slots Q (F0 m pc ls st0) := by
  intro T hT X
  rcases hr T hT X with ⟨v, st₀, t, T', L, h0, X', hL, e1, e2, ⟨⟨r, u, hv, hp, hb⟩, hF⟩, st⟩ | ⟨q, st₀, t, T', L, E, ce, h0, X', hL, e1, e2, ⟨u, hp, hb, hF⟩, hce, hcv, hcl, st⟩
  · cases hv
    obtain ⟨k1, k2, k3⟩ := vx_keep h0 e1 hS hA hf hL hF
    obtain ⟨t2, a1, b1⟩ := kk r u t T'.heap (locs ++ L) e1.symm (by rw [← e2]; exact X'.warmed.alike) hp hb k1 k2 k3 T' rfl X'
    exact ⟨t2, st t2 a1, b1⟩
  · obtain ⟨k1, k2, k3⟩ := vx_keep h0 e1 hS hAX hf hL hF
    obtain ⟨t2, a1, b1⟩ := kx E ce q u t T'.heap (locs ++ L) e1.symm (by rw [← e2]; exact X'.warmed.alike) hp hb k1 k2 k3 (by rw [e1]; exact hce) hcv hcl T' rfl X'
    exact ⟨t2, st.trans a1, b1⟩
theorem vx_callv {S SX : Type} {post : S → Prop} {px : SX → Prop} {B : S → State → Prop} {BX : String → SX → State → Prop} {AX : Nat → Prop} (hr : vx_Run p l e R s m args below meth c H locs cells slots mc ms (F0 m pc ls st0) rest (va_Qv post B A1 a) (vx_X px BX AX) free) (hS : va_S A0 H0 H locs) (hA : ∀ q, q < H.size → A1 q → A0 q) (hf : ∀ q, free q → A0 q) (hAX : ∀ q, q < H.size → AX q → A0 q)
    (kx : ∀ (E : String) (ce : Cell) (q9 : Addr) (u : SX) (t : State) (H1 : Heap) (locs1 : List Loc), t.heap = H1 → s.vm.Alike t.vm → px u → BX E u t → H.size ≤ H1.size → (∀ q : Nat, q < H.size → ¬ AX q → H1[q]? = H[q]?) → va_S A0 H0 H1 locs1 → H1[q9]? = some ce → ce.vm = .none → s.vm.findClass E = some ce.cls → vx_W p l e R s m args below meth c H1 locs1 (cells + mc) (slots + ms) Q (F0 m pc ls rest) q9)
    (kk : ∀ (u : S) (t : State) (H1 : Heap) (locs1 : List Loc), t.heap = H1 → s.vm.Alike t.vm → post u → B u t → H.size ≤ H1.size → (∀ q : Nat, q < H.size → ¬ A1 q → H1[q]? = H[q]?) → va_S A0 H0 H1 locs1 → W p l e R s m args below meth c H1 locs1 (cells + mc) (slots + ms) Q (F0 m (pc + 3) ls (rest))) : W p l e R s m args below meth c H locs cells slots Q (F0 m pc ls st0) := by
  intro T hT X
  rcases hr T hT X with ⟨v, st₀, t, T', L, h0, X', hL, e1, e2, ⟨⟨u, hv, hp, hb⟩, hF⟩, st⟩ | ⟨q, st₀, t, T', L, E, ce, h0, X', hL, e1, e2, ⟨u, hp, hb, hF⟩, hce, hcv, hcl, st⟩
  · cases hv
    obtain ⟨k1, k2, k3⟩ := vx_keep h0 e1 hS hA hf hL hF
    obtain ⟨t2, a1, b1⟩ := kk u t T'.heap (locs ++ L) e1.symm (by rw [← e2]; exact X'.warmed.alike) hp hb k1 k2 k3 T' rfl X'
    exact ⟨t2, st t2 a1, b1⟩
  · obtain ⟨k1, k2, k3⟩ := vx_keep h0 e1 hS hAX hf hL hF
    obtain ⟨t2, a1, b1⟩ := kx E ce q u t T'.heap (locs ++ L) e1.symm (by rw [← e2]; exact X'.warmed.alike) hp hb k1 k2 k3 (by rw [e1]; exact hce) hcv hcl T' rfl X'
    exact ⟨t2, st.trans a1, b1⟩
/-- caught by the row x of this method's table; the rows ahead don't take it -/
theorem vx_catch {own name : String} {E : String} {ce : Cell} {q : Addr} (hown : s.vm.findClass own = some m.cls) (pre : List ExceptionTableEntry) (x : ExceptionTableEntry) (suf : List ExceptionTableEntry) (hsplit : c.exceptionTable.toList = pre ++ x :: suf)
    (hpass : ∀ z ∈ pre, covers z pc = false ∨ (z.catchType ≠ 0 ∧ ∃ nm : String, (Cond.classLink own z.catchType nm).before args s = true ∧ va_Nc E nm s)) (hx : covers x pc = true) (h0 : x.catchType ≠ 0)
    (hlink : (Cond.classLink own x.catchType name).before args s = true) (hcast : (Cond.castable E name).before args s = true) (hcell : H[q]? = some ce) (hv : ce.vm = .none) (hcl : s.vm.findClass E = some ce.cls)
    (kk : W p l e R s m args below meth c H locs cells slots Q (F0 m x.handlerPc ls [.ref q])) : vx_W p l e R s m args below meth c H locs cells slots Q (F0 m pc ls rest) q := by
  intro T hT X
  have hpl : e.platform.magicAccessors = ({} : Platform).magicAccessors := by rw [X.admits.platform]
  obtain ⟨c3, c4, hc3, hc4, hasg⟩ := Cond.castable_spec hcast
  cases Option.some.inj (hc3.symm.trans hcl)
  obtain ⟨c5, hc5, hcl5⟩ := Cond.classLink_spec hown hlink e.platform hpl
  cases Option.some.inj (hc4.symm.trans hc5)
  obtain ⟨vm', X', st⟩ := X.thenCaughtThrough q (g := F0 m pc ls rest) rfl (Steps.refl _) (by rw [hT]; exact hcell) (by rw [hv]; rfl) (by obtain ⟨k9, h9, -⟩ := Vm.findClass_spec hcl; exact ⟨k9, h9⟩) pre x suf hsplit
    (fun z hz => by
      rcases hpass z hz with h | ⟨hz0, nm, hl1, hn1⟩
      · exact Or.inl h
      · obtain ⟨c6, hc6, hcl6⟩ := Cond.classLink_spec hown hl1 e.platform hpl
        obtain ⟨a8, b8, h1, h2, h3⟩ := hn1
        cases Option.some.inj (h1.symm.trans hcl)
        cases Option.some.inj (h2.symm.trans hc6)
        exact Or.inr ⟨hz0, _, hcl6, h3⟩) hx (Or.inr ⟨h0, c4, hcl5, hasg⟩)
  obtain ⟨t, a1, b1⟩ := kk (T.setVm vm') hT X'
  exact ⟨t, st.trans a1, b1⟩
end Rows
section Ends
variable {p : Program} {l : Launch} {e : Env} {R : Room} {s : State} {m : MethodId} {args : Array Value} {below : List Frame} {meth : Method} {c : Code} {H : Heap} {locs : List Loc} {cells slots : Nat} {Q : State → Prop}
variable {mc ms : Nat} {free : Addr → Prop} {A0 A1 : Nat → Prop} {H0 : Heap} {a : Array Value} {ls : Array Slot} {st0 rest : List Value}
variable {Qc : Array Value → State → Outcome → State → Prop} {XC : String → State → State → Prop}
/-- what a body that may throw owes at its end -/
def vx_MQ (below : List Frame) (Qc : Array Value → State → Outcome → State → Prop) (XC : String → State → State → Prop) (a : Array Value) (s : State) (mc ms : Nat) (free : Addr → Prop) : State → Prop := fun t =>
  ∃ o, t.status = .running ∧ Ended t below o ∧ vx_Q Qc XC mc ms free a s o t
theorem vx_ret {g : JFrame} {mc ms : Nat} (k : W p l e R s m args below meth c H locs cells slots (MQ below Qc args s mc ms free) g) : W p l e R s m args below meth c H locs cells slots (vx_MQ below Qc XC args s mc ms free) g := by
  intro T hT X
  obtain ⟨t, a1, o, b1, b2, b3, b4⟩ := k T hT X
  exact ⟨t, a1, o, b1, b2, Or.inl ⟨b3, b4⟩⟩
/-- not caught here: it goes on to the caller -/
theorem vx_widen {g : JFrame} {q : Addr} {k n : Nat} (h1 : cells ≤ k) (h2 : slots ≤ n) (kk : vx_W p l e R s m args below meth c H locs k n Q g q) : vx_W p l e R s m args below meth c H locs cells slots Q g q := fun T hT X => kk T hT (stand_widen X h1 h2)
theorem vx_out {pc : Nat} {E : String} {ce : Cell} {q : Addr} {mc ms : Nat} (hout : ∀ x ∈ c.exceptionTable.toList, covers x pc = false) (hlocks : meth.locks = false) (hcell : H[q]? = some ce) (hv : ce.vm = .none) (hcl : s.vm.findClass E = some ce.cls)
    (hx : ∀ t : State, t.heap = H → s.vm.Alike t.vm → XC E s t) (hf : ∀ z ∈ locs, free z.base) (hc : cells ≤ mc) (hs : slots ≤ ms) :
    vx_W p l e R s m args below meth c H locs cells slots (vx_MQ below Qc XC args s mc ms free) (F0 m pc ls rest) q := by
  intro T hT X
  obtain ⟨st1, hrun, hend, hW, hsm⟩ := X.leaveThrown q (g := F0 m pc ls rest) rfl rfl rfl hout hlocks
  have hcell9 : (T.setFrames (.throwing q :: below)).heap[q]? = some ce := by
    show T.heap[q]? = some ce
    rw [hT]; exact hcell
  exact ⟨_, st1, .threw q, hrun, hend, Or.inr ⟨q, rfl, E, ce, locs, hx _ hT hW.alike, hcell9, hv, hcl, hW, hsm.mono hc hs, hf⟩⟩
theorem vx_frame {U : State} {k n : Nat} (h : s.sameButNew ({ U with vm := s.vm } : State) locs k n) : s.heap.size ≤ U.heap.size ∧ ∀ q : Nat, q < s.heap.size → (∀ z ∈ locs, z.base ≠ q) → U.heap[q]? = s.heap[q]? := by
  obtain ⟨-, h2, -, -, -, h6⟩ := h
  refine ⟨h2, fun q hq hz => ?_⟩
  obtain ⟨c9, e1, e2, e3, e4⟩ := h6 q _ (Array.getElem?_eq_getElem hq)
  have hs : c9.slots = (s.heap[q]).slots := Array.ext_getElem? fun i => e4 i fun hm => hz _ hm rfl
  have h9 : c9 = s.heap[q] := by
    rw [hs] at e2
    exact e2
  have e5 : U.heap[q]? = some c9 := e1
  rw [e5, h9, Array.getElem?_eq_getElem hq]
/-- the words of a throw but the four that speak of the heap -/
def vx_no (w : Cond) : Bool := decide (w ≠ .isRef (.static Bundle.tN "UNASSIGNED_STACK" Bundle.steD)) && decide (w ≠ .isRef (.static Bundle.tN "SUPPRESSED_SENTINEL" Bundle.listD)) && decide (w ≠ .laysStatic Bundle.tN "UNASSIGNED_STACK" Bundle.steD) && decide (w ≠ .laysStatic Bundle.tN "SUPPRESSED_SENTINEL" Bundle.listD)
def vx_at0 (own : String) (ic : Nat) (X : String) (names : List String) : List Cond := (Bundle.ownAtoms0 own ic X names).filter vx_no
def vx_atS (own : String) (ic : Nat) (X : String) (names : List String) : List Cond := (Bundle.ownAtoms own ic X names).filter vx_no
/-- a word that the tables alone decide, or a good one -/
def vx_ot (w : Cond) : Bool := w.onTables || goodWord w
theorem vx_ot_at {args a' : Array Value} {s U : State} {w : Cond} (hW : s.WarmedH U.vm) (hvm : s.vm = U.vm) (hg : vx_ot w = true) (h : w.before args s = true) : w.before a' U = true := by
  simp only [vx_ot, Bool.or_eq_true] at hg
  rcases hg with hg | hg
  · exact va_tabs hg hvm h
  · exact word_at hW (good_of_word hg) h
/-- a list's words: the good ones out of the method's own list, the others by premises of their own -/
theorem vx_hat {args : Array Value} {s : State} {L B : List Cond} (h1 : ∀ w ∈ L.filter goodWord, w.before args s = true) (h2 : ∀ w ∈ L.filter (fun w => !goodWord w), w ∈ B) (h3 : ∀ w ∈ B, w.before args s = true) : ∀ w ∈ L, w.before args s = true := by
  intro w hw
  by_cases g : goodWord w = true
  · exact h1 w (List.mem_filter.mpr ⟨hw, g⟩)
  · refine h3 w (h2 w (List.mem_filter.mpr ⟨hw, ?_⟩))
    show (!goodWord w) = true
    cases hgw : goodWord w
    · rfl
    · exact absurd hgw g
theorem vx_c {args : Array Value} {s : State} {w : Cond} {B : List Cond} (h : w.before args s = true) (t : ∀ w ∈ B, w.before args s = true) : ∀ w' ∈ w :: B, w'.before args s = true := fun w' h' => (List.mem_cons.mp h').elim (fun e => by rw [e]; exact h) (t w')
theorem vx_n {args : Array Value} {s : State} : ∀ w ∈ ([] : List Cond), w.before args s = true := fun _ h => nomatch h
theorem vx_own {args : Array Value} {s : State} {L : List Cond} (h1 : ∀ w ∈ L.filter vx_no, w.before args s = true)
    (hU : (Cond.isRef (.static Bundle.tN "UNASSIGNED_STACK" Bundle.steD)).before args s = true) (hN : (Cond.isRef (.static Bundle.tN "SUPPRESSED_SENTINEL" Bundle.listD)).before args s = true)
    (lU : (Cond.laysStatic Bundle.tN "UNASSIGNED_STACK" Bundle.steD).before args s = true) (lN : (Cond.laysStatic Bundle.tN "SUPPRESSED_SENTINEL" Bundle.listD).before args s = true) : ∀ w ∈ L, w.before args s = true := by
  intro w hw
  by_cases e1 : w = .isRef (.static Bundle.tN "UNASSIGNED_STACK" Bundle.steD)
  · rw [e1]; exact hU
  · by_cases e2 : w = .isRef (.static Bundle.tN "SUPPRESSED_SENTINEL" Bundle.listD)
    · rw [e2]; exact hN
    · by_cases e3 : w = .laysStatic Bundle.tN "UNASSIGNED_STACK" Bundle.steD
      · rw [e3]; exact lU
      · by_cases e4 : w = .laysStatic Bundle.tN "SUPPRESSED_SENTINEL" Bundle.listD
        · rw [e4]; exact lN
        · exact h1 w (List.mem_filter.mpr ⟨hw, by unfold vx_no; rw [decide_eq_true e1, decide_eq_true e2, decide_eq_true e3, decide_eq_true e4]; rfl⟩)
/-- where a static field lies, its class's statics cell in H -/
def vx_L (C n d : String) (A : Nat → Prop) (U : State) (H : Heap) : Prop := ∃ (c : ClassId) (k : Class) (i : Nat) (f : Field) (a : Nat) (cell : Cell), U.vm.findClass C = some c ∧ U.fieldFound? C n d = some (c, k, i, f) ∧ f.isStatic = true ∧ k.statics = some a ∧ H[a]? = some cell ∧ cell.vm.isStatics = true ∧ cell.cls = c ∧ f.slot < cell.slots.size ∧ k.staticTypes[f.slot]? = some f.type ∧ ¬ A a
theorem vx_L.moved {C n d : String} {A : Nat → Prop} {u U : State} {H : Heap} (hvm : u.vm.Alike U.vm) (h : vx_L C n d A u H) : vx_L C n d A U H := by
  obtain ⟨c, k, i, f, a, cell, h1, h2, h3, h4, h5, h6, h7, h8, h9, h10⟩ := h
  obtain ⟨k', hi', he⟩ := State.fieldFound?_setVm hvm h2
  exact ⟨c, k', i, f, a, cell, by rw [hvm.findClass]; exact h1, hi', h3, by rw [he]; exact h4, h5, h6, h7, h8, by rw [he]; exact h9, h10⟩
theorem vx_L.kept {C n d : String} {A : Nat → Prop} {U : State} {H H1 : Heap} (h : vx_L C n d A U H) (hq : ∀ a : Nat, a < H.size → ¬ A a → H1[a]? = H[a]?) : vx_L C n d A U H1 := by
  obtain ⟨c, k, i, f, a, cell, h1, h2, h3, h4, h5, h6, h7, h8, h9, h10⟩ := h
  exact ⟨c, k, i, f, a, cell, h1, h2, h3, h4, by rw [hq a (Array.getElem?_eq_some_iff.mp h5).1 h10]; exact h5, h6, h7, h8, h9, h10⟩
theorem vx_L.narrow {C n d : String} {A B : Nat → Prop} {U : State} {H : Heap} (h : vx_L C n d A U H) (hAB : ∀ q, B q → A q) : vx_L C n d B U H := by
  obtain ⟨c, k, i, f, a, cell, h1, h2, h3, h4, h5, h6, h7, h8, h9, h10⟩ := h
  exact ⟨c, k, i, f, a, cell, h1, h2, h3, h4, h5, h6, h7, h8, h9, fun z => h10 (hAB _ z)⟩
theorem vx_L.word {C n d : String} {A : Nat → Prop} {s : State} {args : Array Value} (h : vx_L C n d A s s.heap) : (Cond.laysStatic C n d).before args s = true := by
  obtain ⟨c, k, i, f, a, cell, h1, h2, h3, h4, h5, h6, h7, h8, h9, -⟩ := h
  show (Cond.laysStatic C n d).holds args s none s [] = true
  exact Cond.laysStatic_of h1 h2 h3 h4 h5 h6 h7 h8 h9
/-- .. and what it holds: null or some reference -/
def vx_Zq (C n d : String) (A : Nat → Prop) (U : State) (H : Heap) : Prop := va_Zq C n d A U H ∧ vx_L C n d A U H
theorem vx_Zq.moved {C n d : String} {A : Nat → Prop} {u U : State} {H : Heap} (hvm : u.vm.Alike U.vm) (h : vx_Zq C n d A u H) : vx_Zq C n d A U H := ⟨va_Zq.moved hvm h.1, vx_L.moved hvm h.2⟩
theorem vx_Zq.kept {C n d : String} {A : Nat → Prop} {U : State} {H H1 : Heap} (h : vx_Zq C n d A U H) (hq : ∀ a : Nat, a < H.size → ¬ A a → H1[a]? = H[a]?) : vx_Zq C n d A U H1 := ⟨va_Zq.kept h.1 hq, vx_L.kept h.2 hq⟩
theorem vx_Zq.narrow {C n d : String} {A B : Nat → Prop} {U : State} {H : Heap} (h : vx_Zq C n d A U H) (hAB : ∀ q, B q → A q) : vx_Zq C n d B U H := ⟨va_Zq.narrow h.1 hAB, vx_L.narrow h.2 hAB⟩
theorem vx_Zqof {args : Array Value} {s : State} {C n d : String} {A : Nat → Prop} (hl : (Cond.laysStatic C n d).before args s = true) (hini : (Cond.initialized C).before args s = true) (h : (Cond.isRef (.static C n d)).before args s = true) (hA : ∀ a : Nat, a < s.heap.size → ¬ A a) : vx_Zq C n d A s s.heap := by
  refine ⟨va_Zqof hl hini h hA, ?_⟩
  obtain ⟨c, k, i, f, a, cell, h1, h2, h3, h4, h5, h6, h7, h8, h9⟩ := Cond.laysStatic_spec hl
  exact ⟨c, k, i, f, a, cell, h1, h2, h3, h4, h5, h6, h7, h8, h9, hA a (Array.getElem?_eq_some_iff.mp h5).1⟩
theorem vx_isRef {C n d : String} {v : Value} {A : Nat → Prop} {s : State} {args : Array Value} (h : va_Z C n d v A s s.heap) (hv : v.isRef = true) : (Cond.isRef (.static C n d)).before args s = true := by
  obtain ⟨cf, kf, fi, f, a, cell, h1, h2, h3, h4, h5, h6, h7, -⟩ := h
  have he : (Term.static C n d).eval args s none [] s = some v := by
    simp [Term.eval, State.fieldNamed?, h1, h2, h4, h5, h6, h7]
  simp only [Cond.before, Cond.holds, Cond.value, he]
  cases v <;> simp_all [Value.isRef]
theorem vx_isRefq {C n d : String} {A : Nat → Prop} {s : State} {args : Array Value} (h : va_Zq C n d A s s.heap) : (Cond.isRef (.static C n d)).before args s = true := by
  rcases h with h | ⟨t, h⟩
  · exact vx_isRef h rfl
  · exact vx_isRef h rfl
/-- the same frame, seen from here: as if the method were called anew in this heap -/
theorem vx_rebase {T : State} (X : Stand p l e R s m args below meth c T locs cells slots) {R' : Room} (hf : R'.frames ≤ R.frames) (hl : R'.locals ≤ R.locals) (hc : cells + R'.cells ≤ R.cells) (hs : slots + R'.slots ≤ R.slots) :
    Stand p l e R' ((T.setVm s.vm).setFrames (.invoking m args :: below)) m args below meth c T [] 0 0 := by
  have htop : (T.setVm s.vm).topJava?.isSome := X.here.top
  have hF : ((T.setVm s.vm).setFrames (.invoking m args :: below)).frames = .invoking m args :: below := State.frames_setFrames _ (State.cur_lt_of_top htop)
  obtain ⟨g₀, hg0⟩ := Option.isSome_iff_exists.mp htop
  obtain ⟨r, hr⟩ := State.topJava?_eq_some.mp hg0
  have hl9 : e.platform.stackLimits (T.setVm s.vm).me = e.platform.stackLimits s.me := X.limits
  have hb9 : (T.setVm s.vm).me.stackBytes = s.me.stackBytes := X.bytes
  refine ⟨X.admits, X.cas, X.clock, hF, ?_, X.hears, X.method, X.code, X.here, X.tail, X.warmed, ?_, ?_, ?_⟩
  · have h := X.room
    have hU : ((T.setVm s.vm).setFrames (.invoking m args :: below)).localsInUse = s.localsInUse := by
      rw [State.localsInUse_invoking hF (meth := meth) (c := c) X.method X.code, State.localsInUse_invoking X.frames X.method X.code]
    simp only [State.hasRoom, Bool.and_eq_true, decide_eq_true_eq] at h ⊢
    obtain ⟨⟨⟨⟨h1, h2, h3, h4, h5, h6⟩, h7⟩, h8⟩, h9⟩ := h
    rw [X.frames, List.length_cons] at h2 h3
    have q1 := X.heapSize
    have q2 := X.used
    simp only [hF, hU, List.length_cons, State.stackLimits_setFrames, State.stackBytes_setFrames, hl9, hb9]
    refine ⟨⟨⟨⟨by omega, by omega, by omega, by omega, by omega, h6⟩, ?_⟩, ?_⟩, X.book⟩
    · show T.heap.size + R'.cells ≤ e.platform.maxCells
      omega
    · show T.slotsUsed + R'.slots ≤ e.platform.maxSlots
      omega
  · rw [State.stackLimits_setFrames]; rfl
  · rw [State.stackBytes_setFrames]; rfl
  · refine ⟨?_, Nat.le_refl _, Nat.le_refl _, ?_, ?_, fun a c9 h9 => ⟨c9, h9, rfl, rfl, fun _ _ => rfl⟩⟩
    · obtain ⟨t, ht, -⟩ := State.frames_cons hr
      show T.setVm s.vm = { ((T.setVm s.vm).setFrames (.invoking m args :: below)).setFrames (T.setVm s.vm).frames with heap := T.heap, slotsUsed := T.slotsUsed }
      rw [State.setFrames_setFrames, State.setFrames_self ht]
      rfl
    · show T.slotsUsed = T.slotsUsed + ((T.heap.toList.drop T.heap.size).map (·.slots.size)).sum
      rw [List.drop_eq_nil_of_le (Nat.le_of_eq Array.length_toList)]
      rfl
    · show ((T.heap.toList.drop T.heap.size).map (·.slots.size)).sum ≤ 0
      rw [List.drop_eq_nil_of_le (Nat.le_of_eq Array.length_toList)]
      exact Nat.le_refl _
/-- 'throw new E()': new; dup; invokespecial; athrow -/
theorem vx_throw0 {cc : ByteArray} {pc : Nat} (hexec : p.tables.exec = Jvm.exec) (hb : c.code = cc) (hl : l.stackTraces = false) {own cls : String} {names : List String} {ik ic mc ms : Nat} {A : Nat → Prop}
    (hown : s.vm.findClass own = some m.cls) (hcls : Bundle.fit cls = true) (hnames : ∀ n ∈ names, Bundle.fit n = true)
    (hk : (Cond.classLink own ik cls).before args s = true) (hini : (Cond.initialized cls).before args s = true) (hat : ∀ w ∈ vx_at0 own ic cls names, w.before args s = true)
    (hgood : ∀ w ∈ Cond.classLink own ik cls :: Cond.initialized cls :: vx_at0 own ic cls names, vx_ot w = true)
    (hU : vx_Zq Bundle.tN "UNASSIGNED_STACK" Bundle.steD A s s.heap) (hN : vx_Zq Bundle.tN "SUPPRESSED_SENTINEL" Bundle.listD A s s.heap) (hS : va_S A s.heap H locs) (hsize : ls.size = c.maxLocals)
    (d0 : decode cc pc = .ok (.new ik, 3)) (d3 : decode cc (pc + 3) = .ok (.dup, 1)) (d4 : decode cc (pc + 4) = .ok (.invokespecial ic, 3)) (d7 : decode cc (pc + 7) = .ok (.athrow, 1))
    (hout : ∀ x ∈ c.exceptionTable.toList, covers x (pc + 7) = false)
    (hRframes : names.length + 3 < R.frames) (hRlocals : (rest.map fun v => v.category).sum + (13 * (names.length + 1) + 42) ≤ R.locals) (hRcells : cells + 1 ≤ R.cells) (hRslots : slots + 6 ≤ R.slots) (hlocks : meth.locks = false)
    (hx : ∀ t : State, s.vm.Alike t.vm → H.size ≤ t.heap.size → (∀ q : Nat, q < H.size → t.heap[q]? = H[q]?) → XC cls s t)
    (hf : ∀ z ∈ locs, free z.base) (hc : cells + 1 ≤ mc) (hs : slots + 6 ≤ ms) :
    W p l e R s m args below meth c H locs cells slots (vx_MQ below Qc XC args s mc ms free) (F0 m pc ls rest) := by
  intro T hT X
  have htr : e.platform.stackTraces = false := (show e.platform.stackTraces = l.stackTraces by rw [X.admits.platform]).trans hl
  have Y := vx_rebase X (R' := { frames := R.frames, locals := R.locals, cells := 1, slots := 6 }) (Nat.le_refl _) (Nat.le_refl _) hRcells hRslots
  obtain ⟨s', hA⟩ : ∃ z, z = (T.setVm s.vm).setFrames (.invoking m args :: below) := ⟨_, rfl⟩
  rw [← hA] at Y
  have hvm : s'.vm = s.vm := by rw [hA]; rfl
  have hhp : s'.heap = H := by rw [hA]; exact hT
  have hW0 : s.WarmedH s'.vm := by rw [hvm]; exact State.WarmedH.refl s
  have hat' : ∀ w ∈ vx_at0 own ic cls names, w.before args s' = true := fun w hw => vx_ot_at hW0 hvm.symm (hgood w (List.mem_cons_of_mem _ (List.mem_cons_of_mem _ hw))) (hat w hw)
  have hk' : (Cond.classLink own ik cls).before args s' = true := vx_ot_at hW0 hvm.symm (hgood _ List.mem_cons_self) hk
  have hini' : (Cond.initialized cls).before args s' = true := vx_ot_at hW0 hvm.symm (hgood _ (List.mem_cons_of_mem _ List.mem_cons_self)) hini
  have hU' : vx_Zq Bundle.tN "UNASSIGNED_STACK" Bundle.steD A s' s'.heap := by rw [hhp]; exact vx_Zq.moved hW0.alike (hU.kept hS.2.1)
  have hN' : vx_Zq Bundle.tN "SUPPRESSED_SENTINEL" Bundle.listD A s' s'.heap := by rw [hhp]; exact vx_Zq.moved hW0.alike (hN.kept hS.2.1)
  have h : ∀ w ∈ Bundle.ownAtoms0 own ic cls names, w.before args s' = true := vx_own hat' (vx_isRefq hU'.1) (vx_isRefq hN'.1) hU'.2.word hN'.2.word
  have hown' : s'.vm.findClass own = some m.cls := by rw [hvm]; exact hown
  have hins : (Cond.instantiable cls 6).before args s' = true := h _ (by simp [Bundle.ownAtoms0])
  obtain ⟨vm₁, cX, kX, hfX, hkX, -, -, X₁, st1⟩ := Y.newCold hexec (own := own) (C := cls) (index := ik) (n := 6) hown' hk' hins hini'
    (g := F0 m pc ls rest) rfl (by rw [hb]; exact d0) (Nat.le_refl _) (Nat.le_refl _)
  generalize hT1 : (T.setVm vm₁).pushCell { cls := cX, slots := kX.instanceTypes.map defaultValue, vm := .none } = T1 at X₁ st1
  have hcat : (Value.ref T.heap.size).category = 1 := rfl
  have hcellA : T1.heap[T.heap.size]? = some (freshCell cX kX) := by rw [← hT1]; exact State.heap_pushCell_size _ _
  have d3' : decode c.code (pc + 3) = .ok (.dup, 1) := by rw [hb]; exact d3
  obtain ⟨U, hsteps, hrun, hend, hW, hsame, ce, hce, hO⟩ := X₁.ctorThrow0 hexec htr (own := own) (cls := cls) (names := names) (ic := ic) hown' hcls hnames h (fun x hx => nomatch hx) hfX hkX hcellA (by rw [hhp, hT]; exact Nat.le_refl _)
    (g := { method := m, pc := pc + 4, locals := ls, stack := .ref T.heap.size :: .ref T.heap.size :: rest, locked := none }) rfl hsize rfl rfl (rest := rest) rfl
    (by rw [hb]; exact d4) (by rw [hb]; exact d7) hout hRframes (by simp only [List.map_cons, List.sum_cons, hcat]; omega) hlocks
  obtain ⟨f1, f2⟩ := vx_frame hsame
  rw [hhp] at f1 f2
  have hWs : s.WarmedH U.vm := State.WarmedH.trans hW0 hW
  have hcl : s.vm.findClass cls = some ce.cls := by
    have h9 := hO.cls
    rw [hvm] at h9
    exact h9
  have hall : s.sameButNew ({ U with vm := s.vm } : State) locs mc ms := by
    subst hA
    obtain ⟨e1, e2⟩ := hsame
    rw [State.setFrames_setFrames] at e1
    have h2 : (T.setVm s.vm).sameButNew ({ U with vm := s.vm } : State) [] (0 + 1) (0 + 6) := ⟨e1, e2⟩
    have h3 := X.same.trans h2
    rw [List.append_nil] at h3
    exact h3.mono hc hs
  refine ⟨U, ?_, .threw T.heap.size, hrun, hend, Or.inr ⟨T.heap.size, rfl, cls, ce, locs, hx U hWs.alike f1 (fun q hq => f2 q hq (fun z hz => nomatch hz)), hce, hO.vm, hcl, hWs, hall, hf⟩⟩
  refine st1 _ ?_
  show Steps p.tables e below (T1.setTop { method := m, pc := pc + 3, locals := ls, stack := .ref T.heap.size :: rest, locked := none }) _
  jvm_step X₁.here [X₁.here.top, hexec, d3', Value.category]
  exact hsteps
/-- 'throw new E("text")': new; dup; ldc; invokespecial; athrow -/
theorem vx_throwS {cc : ByteArray} {pc : Nat} (hexec : p.tables.exec = Jvm.exec) (hb : c.code = cc) (hl : l.stackTraces = false) {own cls text : String} {names : List String} {ik is ic mc ms sa : Nat} {A : Nat → Prop}
    (hown : s.vm.findClass own = some m.cls) (hcls : Bundle.fit cls = true) (hnames : ∀ n ∈ names, Bundle.fit n = true)
    (hk : (Cond.classLink own ik cls).before args s = true) (hini : (Cond.initialized cls).before args s = true) (hstr : vk_R own is text sa s) (hat : ∀ w ∈ vx_atS own ic cls names, w.before args s = true)
    (hgood : ∀ w ∈ Cond.classLink own ik cls :: Cond.initialized cls :: vx_atS own ic cls names, vx_ot w = true)
    (hU : vx_Zq Bundle.tN "UNASSIGNED_STACK" Bundle.steD A s s.heap) (hN : vx_Zq Bundle.tN "SUPPRESSED_SENTINEL" Bundle.listD A s s.heap) (hS : va_S A s.heap H locs) (hsize : ls.size = c.maxLocals)
    (d0 : decode cc pc = .ok (.new ik, 3)) (d3 : decode cc (pc + 3) = .ok (.dup, 1)) (d4 : decode cc (pc + 4) = .ok (.ldc is, 2)) (d6 : decode cc (pc + 6) = .ok (.invokespecial ic, 3)) (d9 : decode cc (pc + 9) = .ok (.athrow, 1))
    (hout : ∀ x ∈ c.exceptionTable.toList, covers x (pc + 9) = false)
    (hRframes : names.length + 3 < R.frames) (hRlocals : (rest.map fun v => v.category).sum + (13 * (names.length + 1) + 43) ≤ R.locals) (hRcells : cells + 1 ≤ R.cells) (hRslots : slots + 6 ≤ R.slots) (hlocks : meth.locks = false)
    (hx : ∀ t : State, s.vm.Alike t.vm → H.size ≤ t.heap.size → (∀ q : Nat, q < H.size → t.heap[q]? = H[q]?) → XC cls s t)
    (hf : ∀ z ∈ locs, free z.base) (hc : cells + 1 ≤ mc) (hs : slots + 6 ≤ ms) :
    W p l e R s m args below meth c H locs cells slots (vx_MQ below Qc XC args s mc ms free) (F0 m pc ls rest) := by
  intro T hT X
  have htr : e.platform.stackTraces = false := (show e.platform.stackTraces = l.stackTraces by rw [X.admits.platform]).trans hl
  have Y := vx_rebase X (R' := { frames := R.frames, locals := R.locals, cells := 1, slots := 6 }) (Nat.le_refl _) (Nat.le_refl _) hRcells hRslots
  obtain ⟨s', hA⟩ : ∃ z, z = (T.setVm s.vm).setFrames (.invoking m args :: below) := ⟨_, rfl⟩
  rw [← hA] at Y
  have hvm : s'.vm = s.vm := by rw [hA]; rfl
  have hhp : s'.heap = H := by rw [hA]; exact hT
  have hW0 : s.WarmedH s'.vm := by rw [hvm]; exact State.WarmedH.refl s
  have hat' : ∀ w ∈ vx_atS own ic cls names, w.before args s' = true := fun w hw => vx_ot_at hW0 hvm.symm (hgood w (List.mem_cons_of_mem _ (List.mem_cons_of_mem _ hw))) (hat w hw)
  have hk' : (Cond.classLink own ik cls).before args s' = true := vx_ot_at hW0 hvm.symm (hgood _ List.mem_cons_self) hk
  have hini' : (Cond.initialized cls).before args s' = true := vx_ot_at hW0 hvm.symm (hgood _ (List.mem_cons_of_mem _ List.mem_cons_self)) hini
  have hU' : vx_Zq Bundle.tN "UNASSIGNED_STACK" Bundle.steD A s' s'.heap := by rw [hhp]; exact vx_Zq.moved hW0.alike (hU.kept hS.2.1)
  have hN' : vx_Zq Bundle.tN "SUPPRESSED_SENTINEL" Bundle.listD A s' s'.heap := by rw [hhp]; exact vx_Zq.moved hW0.alike (hN.kept hS.2.1)
  have h : ∀ w ∈ Bundle.ownAtoms own ic cls names, w.before args s' = true := vx_own hat' (vx_isRefq hU'.1) (vx_isRefq hN'.1) hU'.2.word hN'.2.word
  have hown' : s'.vm.findClass own = some m.cls := by rw [hvm]; exact hown
  have hins : (Cond.instantiable cls 6).before args s' = true := h _ (by simp [Bundle.ownAtoms])
  obtain ⟨vm₁, cX, kX, hfX, hkX, -, -, X₁, st1⟩ := Y.newCold hexec (own := own) (C := cls) (index := ik) (n := 6) hown' hk' hins hini'
    (g := F0 m pc ls rest) rfl (by rw [hb]; exact d0) (Nat.le_refl _) (Nat.le_refl _)
  generalize hT1 : (T.setVm vm₁).pushCell { cls := cX, slots := kX.instanceTypes.map defaultValue, vm := .none } = T1 at X₁ st1
  have hcat : (Value.ref T.heap.size).category = 1 := rfl
  have hcellA : T1.heap[T.heap.size]? = some (freshCell cX kX) := by rw [← hT1]; exact State.heap_pushCell_size _ _
  have d3' : decode c.code (pc + 3) = .ok (.dup, 1) := by rw [hb]; exact d3
  have d4' : decode c.code (pc + 4) = .ok (.ldc is, 2) := by rw [hb]; exact d4
  have hstr' : vk_R own is text sa s' := vk_R.warm hW0 hstr
  obtain ⟨U, hsteps, hrun, hend, hW, hsame, ce, hce, hO⟩ := X₁.ctorThrowS hexec htr (own := own) (cls := cls) (names := names) (ic := ic) hown' hcls hnames h (fun x hx => nomatch hx) hfX hkX hcellA (by rw [hhp, hT]; exact Nat.le_refl _) (msg := .ref sa) rfl
    (g := { method := m, pc := pc + 6, locals := ls, stack := .ref sa :: .ref T.heap.size :: .ref T.heap.size :: rest, locked := none }) rfl hsize rfl rfl (rest := rest) rfl
    (by rw [hb]; exact d6) (by rw [hb]; exact d9) hout hRframes (by simp only [List.map_cons, List.sum_cons, hcat]; omega) hlocks
  obtain ⟨f1, f2⟩ := vx_frame hsame
  rw [hhp] at f1 f2
  have hWs : s.WarmedH U.vm := State.WarmedH.trans hW0 hW
  have hcl : s.vm.findClass cls = some ce.cls := by
    have h9 := hO.cls
    rw [hvm] at h9
    exact h9
  have hall : s.sameButNew ({ U with vm := s.vm } : State) locs mc ms := by
    subst hA
    obtain ⟨e1, e2⟩ := hsame
    rw [State.setFrames_setFrames] at e1
    have h2 : (T.setVm s.vm).sameButNew ({ U with vm := s.vm } : State) [] (0 + 1) (0 + 6) := ⟨e1, e2⟩
    have h3 := X.same.trans h2
    rw [List.append_nil] at h3
    exact h3.mono hc hs
  refine ⟨U, ?_, .threw T.heap.size, hrun, hend, Or.inr ⟨T.heap.size, rfl, cls, ce, locs, hx U hWs.alike f1 (fun q hq => f2 q hq (fun z hz => nomatch hz)), hce, hO.vm, hcl, hWs, hall, hf⟩⟩
  refine st1 _ ?_
  show Steps p.tables e below (T1.setTop { method := m, pc := pc + 3, locals := ls, stack := .ref T.heap.size :: rest, locked := none }) _
  jvm_step X₁.here [X₁.here.top, hexec, d3', Value.category]
  exact X₁.ldcString hexec (own := own) (text := text) (index := is) (a := sa) hown' hstr'.1 hstr'.2
    (g := { method := m, pc := pc + 4, locals := ls, stack := .ref T.heap.size :: .ref T.heap.size :: rest, locked := none }) rfl d4' _ hsteps
/-- 'throw new E("text")', the text by a wide index -/
theorem vx_throwSW {cc : ByteArray} {pc : Nat} (hexec : p.tables.exec = Jvm.exec) (hb : c.code = cc) (hl : l.stackTraces = false) {own cls text : String} {names : List String} {ik is ic mc ms sa : Nat} {A : Nat → Prop}
    (hown : s.vm.findClass own = some m.cls) (hcls : Bundle.fit cls = true) (hnames : ∀ n ∈ names, Bundle.fit n = true)
    (hk : (Cond.classLink own ik cls).before args s = true) (hini : (Cond.initialized cls).before args s = true) (hstr : vk_R own is text sa s) (hat : ∀ w ∈ vx_atS own ic cls names, w.before args s = true)
    (hgood : ∀ w ∈ Cond.classLink own ik cls :: Cond.initialized cls :: vx_atS own ic cls names, vx_ot w = true)
    (hU : vx_Zq Bundle.tN "UNASSIGNED_STACK" Bundle.steD A s s.heap) (hN : vx_Zq Bundle.tN "SUPPRESSED_SENTINEL" Bundle.listD A s s.heap) (hS : va_S A s.heap H locs) (hsize : ls.size = c.maxLocals)
    (d0 : decode cc pc = .ok (.new ik, 3)) (d3 : decode cc (pc + 3) = .ok (.dup, 1)) (d4 : decode cc (pc + 4) = .ok (.ldc_w is, 3)) (d7 : decode cc (pc + 7) = .ok (.invokespecial ic, 3)) (d10 : decode cc (pc + 10) = .ok (.athrow, 1))
    (hout : ∀ x ∈ c.exceptionTable.toList, covers x (pc + 10) = false)
    (hRframes : names.length + 3 < R.frames) (hRlocals : (rest.map fun v => v.category).sum + (13 * (names.length + 1) + 43) ≤ R.locals) (hRcells : cells + 1 ≤ R.cells) (hRslots : slots + 6 ≤ R.slots) (hlocks : meth.locks = false)
    (hx : ∀ t : State, s.vm.Alike t.vm → H.size ≤ t.heap.size → (∀ q : Nat, q < H.size → t.heap[q]? = H[q]?) → XC cls s t)
    (hf : ∀ z ∈ locs, free z.base) (hc : cells + 1 ≤ mc) (hs : slots + 6 ≤ ms) :
    W p l e R s m args below meth c H locs cells slots (vx_MQ below Qc XC args s mc ms free) (F0 m pc ls rest) := by
  intro T hT X
  have htr : e.platform.stackTraces = false := (show e.platform.stackTraces = l.stackTraces by rw [X.admits.platform]).trans hl
  have Y := vx_rebase X (R' := { frames := R.frames, locals := R.locals, cells := 1, slots := 6 }) (Nat.le_refl _) (Nat.le_refl _) hRcells hRslots
  obtain ⟨s', hA⟩ : ∃ z, z = (T.setVm s.vm).setFrames (.invoking m args :: below) := ⟨_, rfl⟩
  rw [← hA] at Y
  have hvm : s'.vm = s.vm := by rw [hA]; rfl
  have hhp : s'.heap = H := by rw [hA]; exact hT
  have hW0 : s.WarmedH s'.vm := by rw [hvm]; exact State.WarmedH.refl s
  have hat' : ∀ w ∈ vx_atS own ic cls names, w.before args s' = true := fun w hw => vx_ot_at hW0 hvm.symm (hgood w (List.mem_cons_of_mem _ (List.mem_cons_of_mem _ hw))) (hat w hw)
  have hk' : (Cond.classLink own ik cls).before args s' = true := vx_ot_at hW0 hvm.symm (hgood _ List.mem_cons_self) hk
  have hini' : (Cond.initialized cls).before args s' = true := vx_ot_at hW0 hvm.symm (hgood _ (List.mem_cons_of_mem _ List.mem_cons_self)) hini
  have hU' : vx_Zq Bundle.tN "UNASSIGNED_STACK" Bundle.steD A s' s'.heap := by rw [hhp]; exact vx_Zq.moved hW0.alike (hU.kept hS.2.1)
  have hN' : vx_Zq Bundle.tN "SUPPRESSED_SENTINEL" Bundle.listD A s' s'.heap := by rw [hhp]; exact vx_Zq.moved hW0.alike (hN.kept hS.2.1)
  have h : ∀ w ∈ Bundle.ownAtoms own ic cls names, w.before args s' = true := vx_own hat' (vx_isRefq hU'.1) (vx_isRefq hN'.1) hU'.2.word hN'.2.word
  have hown' : s'.vm.findClass own = some m.cls := by rw [hvm]; exact hown
  have hins : (Cond.instantiable cls 6).before args s' = true := h _ (by simp [Bundle.ownAtoms])
  obtain ⟨vm₁, cX, kX, hfX, hkX, -, -, X₁, st1⟩ := Y.newCold hexec (own := own) (C := cls) (index := ik) (n := 6) hown' hk' hins hini'
    (g := F0 m pc ls rest) rfl (by rw [hb]; exact d0) (Nat.le_refl _) (Nat.le_refl _)
  generalize hT1 : (T.setVm vm₁).pushCell { cls := cX, slots := kX.instanceTypes.map defaultValue, vm := .none } = T1 at X₁ st1
  have hcat : (Value.ref T.heap.size).category = 1 := rfl
  have hcellA : T1.heap[T.heap.size]? = some (freshCell cX kX) := by rw [← hT1]; exact State.heap_pushCell_size _ _
  have d3' : decode c.code (pc + 3) = .ok (.dup, 1) := by rw [hb]; exact d3
  have d4' : decode c.code (pc + 4) = .ok (.ldc_w is, 3) := by rw [hb]; exact d4
  have hstr' : vk_R own is text sa s' := vk_R.warm hW0 hstr
  obtain ⟨U, hsteps, hrun, hend, hW, hsame, ce, hce, hO⟩ := X₁.ctorThrowS hexec htr (own := own) (cls := cls) (names := names) (ic := ic) hown' hcls hnames h (fun x hx => nomatch hx) hfX hkX hcellA (by rw [hhp, hT]; exact Nat.le_refl _) (msg := .ref sa) rfl
    (g := { method := m, pc := pc + 7, locals := ls, stack := .ref sa :: .ref T.heap.size :: .ref T.heap.size :: rest, locked := none }) rfl hsize rfl rfl (rest := rest) rfl
    (by rw [hb]; exact d7) (by rw [hb]; exact d10) hout hRframes (by simp only [List.map_cons, List.sum_cons, hcat]; omega) hlocks
  obtain ⟨f1, f2⟩ := vx_frame hsame
  rw [hhp] at f1 f2
  have hWs : s.WarmedH U.vm := State.WarmedH.trans hW0 hW
  have hcl : s.vm.findClass cls = some ce.cls := by
    have h9 := hO.cls
    rw [hvm] at h9
    exact h9
  have hall : s.sameButNew ({ U with vm := s.vm } : State) locs mc ms := by
    subst hA
    obtain ⟨e1, e2⟩ := hsame
    rw [State.setFrames_setFrames] at e1
    have h2 : (T.setVm s.vm).sameButNew ({ U with vm := s.vm } : State) [] (0 + 1) (0 + 6) := ⟨e1, e2⟩
    have h3 := X.same.trans h2
    rw [List.append_nil] at h3
    exact h3.mono hc hs
  refine ⟨U, ?_, .threw T.heap.size, hrun, hend, Or.inr ⟨T.heap.size, rfl, cls, ce, locs, hx U hWs.alike f1 (fun q hq => f2 q hq (fun z hz => nomatch hz)), hce, hO.vm, hcl, hWs, hall, hf⟩⟩
  refine st1 _ ?_
  show Steps p.tables e below (T1.setTop { method := m, pc := pc + 3, locals := ls, stack := .ref T.heap.size :: rest, locked := none }) _
  jvm_step X₁.here [X₁.here.top, hexec, d3', Value.category]
  exact X₁.ldcStringW hexec (own := own) (text := text) (index := is) (a := sa) hown' hstr'.1 hstr'.2
    (g := { method := m, pc := pc + 4, locals := ls, stack := .ref T.heap.size :: .ref T.heap.size :: rest, locked := none }) rfl d4' _ hsteps
end Ends
section Bodies
variable {l : Launch}
theorem vx_ofW {y : MethodName} {ws ws' : List Cond} {rm : Room} {Pc : Array Value → State → Prop} {Qc : Array Value → State → Outcome → State → Prop} {XC : String → State → State → Prop} {mc ms : Nat} {free : Addr → Prop} {cc : ByteArray} {maxL : Nat} {ret : Option FieldType}
    (hy : plainName y.cls = true) (hw : ws = Cond.code y cc maxL ret :: ws')
    (body : ∀ p e s m args below meth c s₁, BodyLoose p l y (headSpec ws rm) cc maxL ret e s m args below meth c s₁ → c.maxLocals = maxL → (∀ x ∈ c.exceptionTable.toList, False) → Pc args s →
      W p l e (headSpec ws rm).room s m args below meth c s.heap [] 0 0 (vx_MQ below Qc XC args s mc ms free) (entryFrame m args maxL)) : vx_Met l y ws rm Pc Qc XC mc ms free := by
  refine MetFree.of_bodyS (code := cc) (maxLocals := maxL) (ret := ret) hy ?_ ?_
  · intro args s m h hn
    obtain ⟨meth, c, h1, h2, h3, h4, h5, h6, -, -⟩ := Cond.code_spec hn (atoms_spec (ws := ws) h _ (by rw [hw]; exact List.mem_cons_self))
    exact ⟨meth, c, h1, h2, h3, h4, h5, h6⟩
  · intro p e s m args below meth c s₁ B hml hP _
    have hh0 : s₁.heap = s.heap := by rw [B.state]; rfl
    have ht : ∀ x ∈ c.exceptionTable.toList, False := by
      obtain ⟨meth9, c9, h1, h2, -, -, -, -, h7, -⟩ := Cond.code_spec B.named (atoms_spec (ws := ws) B.pre _ (by rw [hw]; exact List.mem_cons_self))
      cases Option.some.inj (h1.symm.trans B.method)
      cases Option.some.inj (h2.symm.trans (Stand.of_body B).code)
      intro x hx
      rw [Array.isEmpty_iff.mp h7] at hx
      cases hx
    obtain ⟨t, a1, o, b1, b2, b3⟩ := body p e s m args below meth c s₁ B hml ht hP s₁ hh0 (Stand.of_body B)
    exact ⟨t, o, a1, b1, b2, b3⟩
/-- the table of a body with handlers -/
theorem vx_table {p : Program} {x y : MethodName} {S : Spec} {cc bytes : ByteArray} {maxL maxL' : Nat} {ret ret' : Option FieldType} {e : Env} {s s₁ : State} {m : MethodId} {args : Array Value} {below : List Frame} {meth : Method} {c : Code} {hh : List (Nat × Nat × Nat × Nat)}
    (B : BodyLoose p l y S cc maxL ret e s m args below meth c s₁) (h : (Cond.codeWith y bytes maxL' ret' hh).before args s = true) : c.exceptionTable.toList = tableOf hh := by
  obtain ⟨m9, meth9, c9, hn9, h1, h2, -, -, h6, -⟩ := Cond.codeWith_spec h
  cases Option.some.inj (hn9.symm.trans B.named)
  cases Option.some.inj (h1.symm.trans B.method)
  cases Option.some.inj (h2.symm.trans (Stand.of_body B).code)
  rw [← h6, table_eq]
end Bodies
end VXA
/-! ===== END ===== -/
/-! ===== BEGIN a static call of a method with an exception table ===== -/
section VXS
variable {p : Program} {l : Launch} {e : Env} {R : Room} {s : State} {m : MethodId} {args : Array Value} {below : List Frame} {meth : Method} {c : Code} {T : State} {H : Heap} {locs : List Loc} {cells slots : Nat}
abbrev vx_CSW (R : Room) (s : State) (args : Array Value) (own : String) (index : Nat) (y : MethodName) (bytes : ByteArray) (maxL : Nat) (ret : Option FieldType) (hh : List (Nat × Nat × Nat × Nat)) (ws : List Cond) (rm : Room) (mc ms n : Nat) : Prop :=
  (rm.cells = mc ∧ rm.slots = ms ∧ rm.frames + 1 ≤ R.frames ∧ 8 + (maxL + 11) + rm.locals ≤ R.locals ∧ (∀ w ∈ ws, ∀ (a' : Array Value) (U : State), s.WarmedH U.vm → w.before a' U = true) ∧ Cond.codeWith y bytes maxL ret hh ∈ ws) ∧
  (Cond.codeWith y bytes maxL ret hh).before args s = true ∧ (Cond.initialized y.cls).before args s = true ∧ (y.cls ≠ "java/lang/invoke/MethodHandle" ∧ y.cls ≠ "java/lang/invoke/VarHandle") ∧
  (∀ sig, parseMethodDescriptor y.desc = some sig → n = sig.parameters.length) ∧ (Cond.methodLink own index y).before args s = true ∧ (Cond.static y).before args s = true
theorem vx_cwSW {own : String} {index maxL mc ms : Nat} {y : MethodName} {bytes : ByteArray} {ret : Option FieldType} {hh : List (Nat × Nat × Nat × Nat)} {Ts ws ws' : List Cond} {rm : Room} (n : Nat) (ht : ∀ w ∈ Ts, w.before args s = true) (hT : GoodIn Ts (va_wsS own index y ws)) (hw : ws = Cond.codeWith y bytes maxL ret hh :: ws') (hrc : rm.cells = mc) (hrs : rm.slots = ms)
    (hd : y.cls ≠ "java/lang/invoke/MethodHandle" ∧ y.cls ≠ "java/lang/invoke/VarHandle" ∧ (parseMethodDescriptor y.desc).map (fun d => d.parameters.length) = some n) (hR : rm.frames + 1 ≤ R.frames ∧ 8 + (maxL + 11) + rm.locals ≤ R.locals) :
    vx_CSW R s args own index y bytes maxL ret hh ws rm mc ms n := by
  have ok : ∀ w ∈ va_wsS own index y ws, w.before args s = true := fun w h => ht w (hT w h).1
  have hG : GoodIn Ts ws := fun w h => hT w (by unfold va_wsS; exact List.mem_append_right _ h)
  have hc : Cond.codeWith y bytes maxL ret hh ∈ ws := by rw [hw]; exact List.mem_cons_self
  refine ⟨⟨hrc, hrs, hR.1, hR.2, pay_in ht hG, hc⟩, ht _ (hG _ hc).1, ok _ (by simp [va_wsS]), ⟨hd.1, hd.2.1⟩, fun sig h => ?_, ok _ (by simp [va_wsS]), ok _ (by simp [va_wsS])⟩
  have h2 := hd.2.2
  rw [h] at h2
  exact (Option.some.inj h2).symm
theorem vx_callSW (X : Stand p l e R s m args below meth c T locs cells slots) (hexec : p.tables.exec = Jvm.exec) {own : String} {index : Nat} {y : MethodName} {bytes : ByteArray} {maxL : Nat} {ret : Option FieldType} {hh : List (Nat × Nat × Nat × Nat)}
    (hown : s.vm.findClass own = some m.cls) (hlink : (Cond.methodLink own index y).before args s = true) (hstat : (Cond.static y).before args s = true) (hinit : (Cond.initialized y.cls).before args s = true)
    (hcode : (Cond.codeWith y bytes maxL ret hh).before args s = true) (hy : y.cls ≠ "java/lang/invoke/MethodHandle" ∧ y.cls ≠ "java/lang/invoke/VarHandle")
    {W9 : Nat} {Pre : Pt → Array Value → Prop} {Post : Pt → Array Value → Option Value → Pt → Prop} (hK : Back l R p e below s args y 3 W9 Pre Post)
    {g : JFrame} (hg : g.method = m) (hsize : g.locals.size = c.maxLocals) {argsL rest : List Value} (hlen : ∀ sig, parseMethodDescriptor y.desc = some sig → argsL.length = sig.parameters.length)
    (hstack : g.stack = argsL.reverse ++ rest) (hW : 2 * g.monitorRoom + (rest.map fun v => v.category).sum ≤ W9) (hdg : decode c.code g.pc = .ok (.invokestatic index, 3))
    (hpre : ∀ vm₁, s.WarmedH vm₁ → Pre ⟨T.setVm vm₁, locs, cells, slots⟩ argsL.toArray) :
    ∃ (v : Option Value) (vm₁ : Vm) (B : Pt), s.WarmedH vm₁ ∧ Stand p l e R s m args below meth c B.U B.locs B.cells B.slots ∧ Post ⟨T.setVm vm₁, locs, cells, slots⟩ argsL.toArray v B ∧
      ∀ target, Steps p.tables e below (B.U.setTop { g with pc := g.pc + 3, stack := v.toList ++ rest }) target → Steps p.tables e below (T.setTop g) target := by
  obtain ⟨mk, methM, cM, hnamed, hmethM, -, -, -, -, -, -, hsigM⟩ := Cond.codeWith_spec hcode
  have hstatic : methM.isStatic = true := Cond.static_spec hnamed hmethM hstat
  obtain ⟨kP, hkP, -⟩ := className_of_methodNamed hnamed
  have hinitP : kP.init = .initialized := Cond.initialized_spec (findClass_of_methodNamed hnamed) hkP hinit
  obtain ⟨vm₁, X₁, hstep₁⟩ := X.invokestatic hexec hown hlink hnamed hmethM hstatic hkP hinitP hy (g := g) hg (argsL := argsL) (rest := rest) (hlen _ hsigM) hstack hdg
  obtain ⟨v, B, X', hpost, hsteps⟩ := hK m meth c ⟨T.setVm vm₁, locs, cells, slots⟩ { g with stack := rest } (.invokestatic index) mk argsL.toArray X₁ hg hsize hdg hW (X₁.named hnamed) (hpre vm₁ X₁.warmed)
  exact ⟨v, vm₁, B, X₁.warmed, X', hpost, fun target h => hstep₁ _ fun acts => by rw [doInvoke_state]; exact hsteps.trans h⟩
theorem vx_runSW {y : MethodName} {bytes cc : ByteArray} {maxL nL mc ms n index : Nat} {ret : Option FieldType} {hh : List (Nat × Nat × Nat × Nat)} {ws : List Cond} {rm : Room} {Pc : Array Value → State → Prop} {Qc : Array Value → State → Outcome → State → Prop} {free : Addr → Prop} {Ts : List Cond} {own : String} {As rest : List Value} {g : JFrame}
    (S : CallFix p m c cc nL s args Ts own) (hM : Met l y ws rm Pc Qc mc ms free) (cw : vx_CSW R s args own index y bytes maxL ret hh ws rm mc ms n) (hp : PreS s H Pc As)
    (hg : g.method = m) (hn : As.length = n) (hsize : g.locals.size = nL) (hstack : g.stack = As.reverse ++ rest) (hW : 2 * g.monitorRoom + (rest.map fun v => v.category).sum ≤ 8) (hdg : decode cc g.pc = .ok (.invokestatic index, 3)) (hf : cells + mc ≤ R.cells ∧ slots + ms ≤ R.slots) :
    va_Run p l e R s m args below meth c H locs cells slots mc ms g rest (Qc As.toArray) (free) := by
  obtain ⟨⟨hrc, hrs, hfr, hlo, hws, hcw⟩, hcode, hini, hy, hlen, hl, hstt⟩ := cw
  have hK : Back l R p e below s args y 3 8 (PreOf R mc ms Pc) (PostOf Qc mc ms free) := va_backW (hh := hh) (bytes := bytes) (maxL := maxL) (ret := ret) hM hp.1 hrc hrs hfr hlo hws hcw (fun a' U hW => word_at hW (Or.inl (by first | rfl | simp [Cond.onTables, Cond.keeps, Cond.steady])) hini)
  obtain ⟨hx, hb, hml, ho, -⟩ := S
  intro T hT X
  obtain ⟨v, vm₁, ⟨U', l2, c2, s2⟩, hW₁, X', ⟨g', mk, t, L, e1, e2, hq, h1, hL, h2, h3⟩, st⟩ := vx_callSW X hx (hh := hh) (bytes := bytes) (maxL := maxL) (ret := ret) ho hl hstt hini hcode hy hK hg (hsize.trans hml.symm) (argsL := As) (rest := rest) (fun sig h => hn.trans (hlen sig h)) hstack hW (by rw [hb]; exact hdg)
    (fun vm₁ hW₁ => ⟨hf.1, hf.2, hp.2 (T.setVm vm₁) hT hW₁⟩)
  dsimp only [Pt.U, Pt.locs, Pt.cells, Pt.slots] at X' e1 e2 h1 h2 h3 st
  subst h1; subst h2; subst h3
  exact ⟨v, (T.setVm vm₁).calling g' mk As.toArray, t, U', L, hT, X', hL, e1, e2, hq, st⟩
/-- not caught here, past rows that name other classes: it goes on to the caller -/
theorem vx_outP {p : Program} {l : Launch} {e : Env} {R : Room} {s : State} {m : MethodId} {args : Array Value} {below : List Frame} {meth : Method} {c : Code} {H : Heap} {locs : List Loc} {cells slots : Nat} {free : Addr → Prop} {ls : Array Slot} {rest : List Value} {Qc : Array Value → State → Outcome → State → Prop} {XC : String → State → State → Prop}
    {pc : Nat} {own E : String} {ce : Cell} {q : Addr} {mc ms : Nat} (hown : s.vm.findClass own = some m.cls) (hlocks : meth.locks = false)
    (hpass : ∀ z ∈ c.exceptionTable.toList, covers z pc = false ∨ (z.catchType ≠ 0 ∧ ∃ nm : String, (Cond.classLink own z.catchType nm).before args s = true ∧ va_Nc E nm s)) (hcell : H[q]? = some ce) (hv : ce.vm = .none) (hcl : s.vm.findClass E = some ce.cls)
    (hx : ∀ t : State, t.heap = H → s.vm.Alike t.vm → XC E s t) (hf : ∀ z ∈ locs, free z.base) (hc : cells ≤ mc) (hs : slots ≤ ms) :
    vx_W p l e R s m args below meth c H locs cells slots (vx_MQ below Qc XC args s mc ms free) (F0 m pc ls rest) q := by
  intro T hT X
  have hpl : e.platform.magicAccessors = ({} : Platform).magicAccessors := by rw [X.admits.platform]
  obtain ⟨vm', hW', X', st⟩ := X.outThrough hlocks q (g := F0 m pc ls rest) rfl rfl rfl (cell := ce) (by rw [hT]; exact hcell) (by rw [hv]; rfl)
    (by obtain ⟨k9, h9, -⟩ := Vm.findClass_spec hcl; exact ⟨k9, h9⟩) (fun z hz => by
      rcases hpass z hz with h | ⟨hz0, nm, hl1, hn1⟩
      · exact Or.inl h
      · obtain ⟨c6, hc6, hcl6⟩ := Cond.classLink_spec hown hl1 e.platform hpl
        obtain ⟨a8, b8, h1, h2, h3⟩ := hn1
        cases Option.some.inj (h1.symm.trans hcl)
        cases Option.some.inj (h2.symm.trans hc6)
        exact Or.inr ⟨hz0, _, hcl6, h3⟩)
  obtain ⟨g₀, hfr⟩ := X'.frames_eq
  have hcell9 : ((T.setVm vm').setFrames (.throwing q :: below)).heap[q]? = some ce := by
    show T.heap[q]? = some ce
    rw [hT]; exact hcell
  have hend : Ended ((T.setVm vm').setFrames (.throwing q :: below)) below (.threw q) := State.frames_setFrames _ (State.cur_lt_of_frames hfr)
  refine ⟨(T.setVm vm').setFrames (.throwing q :: below), ?_, .threw q, X'.here.running, hend, Or.inr ⟨q, rfl, E, ce, locs, hx _ hT (X'.ends _).1.alike, hcell9, hv, hcl, (X'.ends _).1, (X'.ends _).2.mono hc hs, hf⟩⟩
  rw [X.pushThrowing_eq]
  exact st
/-- a thing of a world lies in the heap -/
theorem vx_lt {D : va_G} {cl : List vw_C} {ws : va_W} {H1 : Heap} (h : va_P D cl ws H1) {k : Nat} {q : Nat × va_E} (hk : ws[k]? = some q) : q.1 < H1.size := (h k q hk).lt
end VXS
/-! ===== END ===== -/
/-! ===== BEGIN methods with a table of their own: called by a name, returning or throwing ===== -/
section VXH
/-! vx_backW, vx_callVX, vx_callSX, vx_callVW, vx_runVW, vx_runVX, vx_runSX, vx_ofWH follow the same proofs as their sisters above (Free/Laws.lean, Shelf42/LK1.lean); vx_outP calls Shelf42/NT130.lean (outThrough). -/
section
variable {l : Launch} {R : Room} {p : Program} {e : Env} {below : List Frame} {s : State} {sargs : Array Value} {y : MethodName} {len W9 : Nat}
theorem vx_backW {ws : List Cond} {rm : Room} {Pc : Array Value → State → Prop} {Qc : Array Value → State → Outcome → State → Prop} {XC : String → State → State → Prop} {mc ms : Nat} {free : Addr → Prop} {bytes : ByteArray} {maxL : Nat} {ret : Option FieldType} {hh : List (Nat × Nat × Nat × Nat)}
    (hM : vx_Met l y ws rm Pc Qc XC mc ms free) (hblind : FrameBlind Pc) (hrc : rm.cells = mc) (hrs : rm.slots = ms)
    (hframes : rm.frames + 1 ≤ R.frames) (hlocals : W9 + (maxL + 11) + rm.locals ≤ R.locals)
    (hws : ∀ w ∈ ws, ∀ a' U, s.WarmedH U.vm → w.before a' U = true) (hcode : Cond.codeWith y bytes maxL ret hh ∈ ws) (hinit : ∀ a' U, s.WarmedH U.vm → (Cond.initialized y.cls).before a' U = true) :
    vx_Back l R p e below s sargs y len W9 (PreOf R mc ms Pc) (PostOf Qc mc ms free) (vx_Post XC mc ms free) := by
  intro m meth c A g ig mk a X hg hsize hdg hW hn hp
  have h1 : (headSpec ws rm).pre.before a A.U = true := atoms_intro fun w hw => hws w hw _ _ X.warmed
  have h2 : (Cond.codeWith y bytes maxL ret hh).before a A.U = true := hws _ hcode _ _ X.warmed
  have h3 : (Cond.initialized y.cls).before a A.U = true := hinit _ _ X.warmed
  have h4 : A.cells + (headSpec ws rm).room.cells ≤ R.cells := by rw [show (headSpec ws rm).room.cells = mc from hrc]; exact hp.1
  have h5 : A.slots + (headSpec ws rm).room.slots ≤ R.slots := by rw [show (headSpec ws rm).room.slots = ms from hrs]; exact hp.2.1
  have hPc : Pc a (A.U.calling g mk a) := hblind _ _ _ _ hp.2.2
  obtain ⟨U, Ls, c0, s0⟩ := A
  dsimp only [Pt.U, Pt.locs, Pt.cells, Pt.slots] at h1 h2 h3 h4 h5 X hn hPc ⊢
  obtain ⟨m9, methY, cY, hn9, hmY, hcY, -, hlY, -⟩ := Cond.codeWith_spec h2
  cases Option.some.inj (hn9.symm.trans hn)
  obtain ⟨kY, hkY, -⟩ := className_of_methodNamed hn
  have hinitY : kY.init = .initialized := Cond.initialized_spec (findClass_of_methodNamed hn) hkY h3
  have h : At U g.method c below := by rw [hg]; exact X.here
  have hlocals9 : W9 + (maxL + 11) + (headSpec ws rm).room.locals ≤ R.locals := hlocals
  have happ : (headSpec ws rm).appliesLoose y e.platform (U.calling g mk a) = true :=
    Spec.appliesLoose_calling (g := g) h hdg hn hkY hinitY
      (X.room_calling (g := g) (R' := (headSpec ws rm).room) hsize hmY hcY hframes (by rw [hlY]; omega) h4 h5) h1
  obtain ⟨mid, hmid⟩ := h.above
  have hfr : (U.setTop g).frames = (.java g :: mid) ++ below := by rw [State.frames_setTop' g h.top, hmid]; rfl
  obtain ⟨o, s₂, hsteps, -, hend, hq⟩ := Steps.callFree hM p X.admits X.cas X.clock (acts := []) hfr happ hPc trivial
  have hq' : vx_Q Qc XC mc ms free a (U.calling g mk a) o s₂ := hq
  rw [State.frames_setTop' g h.top] at hend
  obtain ⟨g₀, hg0⟩ := Option.isSome_iff_exists.mp h.top
  obtain ⟨r, hr⟩ := State.topJava?_eq_some.mp hg0
  have hr' : (({ U with heap := s₂.heap, slotsUsed := s₂.slotsUsed } : State).setVm s₂.vm).frames = .java g₀ :: r := hr
  rcases hq' with ⟨hqc, L, hfe, hL⟩ | ⟨q, rfl, E, ce, L, hx, hce, hcv, hcl, hW₂, hsm, hL⟩
  · obtain ⟨⟨v, rfl⟩, hW₂, e2, q2, q3, q4, q5, q6⟩ := id hfe
    have e3 : s₂ = ({ (U.calling g mk a).setFrames s₂.frames with heap := s₂.heap, slotsUsed := s₂.slotsUsed } : State).setVm s₂.vm := by
      have : s₂ = ({ s₂ with vm := (U.calling g mk a).vm } : State).setVm s₂.vm := rfl
      rw [e2] at this
      exact this
    obtain ⟨c₂, i₂, len₂, hc₂, hd₂, hf₂⟩ := hend
    have hW' : U.WarmedH s₂.vm := hW₂
    have hcc : c₂ = c := by
      have h1 : s₂.code? g.method = U.code? g.method := by
        rw [State.code?_eq, State.code?_eq, hW'.alike.method?]
      exact Option.some.inj (hc₂.symm.trans (h1.trans h.code))
    subst hcc
    have hlen : len₂ = len := by rw [hdg] at hd₂; cases hd₂; rfl
    subst hlen
    have hs₂ : s₂ = (({ U with heap := s₂.heap, slotsUsed := s₂.slotsUsed } : State).setVm s₂.vm).setTop { g with pc := g.pc + len₂, stack := v.toList ++ g.stack } := by
      refine e3.trans ?_
      rw [hf₂, State.calling_eq h.top, State.setFrames_setFrames, State.setTop_of_frames _ hr', hr]
      rfl
    have hsame : U.sameButNew ({ U with heap := s₂.heap, slotsUsed := s₂.slotsUsed } : State) L mc ms := by
      refine ⟨?_, q2, q3, q4, q5, q6⟩
      obtain ⟨t, ht, -⟩ := State.frames_cons hr
      show ({ U with heap := s₂.heap, slotsUsed := s₂.slotsUsed } : State) = { U.setFrames U.frames with heap := s₂.heap, slotsUsed := s₂.slotsUsed }
      rw [State.setFrames_self ht]
    subst hg
    refine Or.inl ⟨v, ⟨(({ U with heap := s₂.heap, slotsUsed := s₂.slotsUsed } : State).setVm s₂.vm), Ls ++ L, c0 + mc, s0 + ms⟩,
      ⟨X.admits, X.cas, X.clock, X.frames, X.room, X.hears, X.method, X.code, (X.here.setHeapUsed s₂.heap s₂.slotsUsed).setVm hW'.alike, X.tail, State.WarmedH.trans X.warmed hW', X.limits, X.bytes, X.same.trans (hsame.setVm s.vm)⟩,
      ⟨g, mk, s₂, L, rfl, rfl, hqc, rfl, hL, rfl, rfl⟩, ?_⟩
    show Steps p.tables e below _ ((({ U with heap := s₂.heap, slotsUsed := s₂.slotsUsed } : State).setVm s₂.vm).setTop { g with pc := g.pc + len₂, stack := v.toList ++ g.stack })
    rw [← hs₂]
    exact hsteps
  · obtain ⟨e2, q2, q3, q4, q5, q6⟩ := id hsm
    have e3 : s₂ = ({ (U.calling g mk a).setFrames s₂.frames with heap := s₂.heap, slotsUsed := s₂.slotsUsed } : State).setVm s₂.vm := by
      have : s₂ = ({ s₂ with vm := (U.calling g mk a).vm } : State).setVm s₂.vm := rfl
      rw [e2] at this
      exact this
    have hf₂ : s₂.frames = .throwing q :: .java g :: U.frames.tail := hend
    have hW' : U.WarmedH s₂.vm := hW₂
    have hs₂ : s₂ = ((({ U with heap := s₂.heap, slotsUsed := s₂.slotsUsed } : State).setVm s₂.vm).setTop g).pushFrame (.throwing q) := by
      refine e3.trans ?_
      rw [hf₂, State.calling_eq h.top, State.setFrames_setFrames, State.pushFrame, State.frames_setTop _ hr', State.setTop_of_frames _ hr', State.setFrames_setFrames, hr]
      rfl
    have hsame : U.sameButNew ({ U with heap := s₂.heap, slotsUsed := s₂.slotsUsed } : State) L mc ms := by
      refine ⟨?_, q2, q3, q4, q5, q6⟩
      obtain ⟨t, ht, -⟩ := State.frames_cons hr
      show ({ U with heap := s₂.heap, slotsUsed := s₂.slotsUsed } : State) = { U.setFrames U.frames with heap := s₂.heap, slotsUsed := s₂.slotsUsed }
      rw [State.setFrames_self ht]
    subst hg
    refine Or.inr ⟨q, ⟨(({ U with heap := s₂.heap, slotsUsed := s₂.slotsUsed } : State).setVm s₂.vm), Ls ++ L, c0 + mc, s0 + ms⟩,
      ⟨X.admits, X.cas, X.clock, X.frames, X.room, X.hears, X.method, X.code, (X.here.setHeapUsed s₂.heap s₂.slotsUsed).setVm hW'.alike, X.tail, State.WarmedH.trans X.warmed hW', X.limits, X.bytes, X.same.trans (hsame.setVm s.vm)⟩,
      ⟨g, mk, s₂, L, E, ce, rfl, rfl, hx, hce, hcv, hcl, rfl, hL, rfl, rfl⟩, ?_⟩
    show Steps p.tables e below _ (((({ U with heap := s₂.heap, slotsUsed := s₂.slotsUsed } : State).setVm s₂.vm).setTop g).pushFrame (.throwing q))
    rw [← hs₂]
    exact hsteps
end
variable {p : Program} {l : Launch} {e : Env} {R : Room} {s : State} {m : MethodId} {args : Array Value} {below : List Frame} {meth : Method} {c : Code} {T : State} {H : Heap} {locs : List Loc} {cells slots : Nat}
theorem vx_callVX (X : Stand p l e R s m args below meth c T locs cells slots) (hexec : p.tables.exec = Jvm.exec) {own C : String} {index : Nat} {y : MethodName} {bytes : ByteArray} {maxL : Nat} {ret : Option FieldType} {hh : List (Nat × Nat × Nat × Nat)}
    (hown : s.vm.findClass own = some m.cls) (hlink : (Cond.methodLink own index y).before args s = true) (hinst : (Cond.instanceMethod y).before args s = true) (hsel : (Cond.selects C y y).before args s = true)
    (hcode : (Cond.codeWith y bytes maxL ret hh).before args s = true) (hy : y.cls ≠ "java/lang/invoke/MethodHandle" ∧ y.cls ≠ "java/lang/invoke/VarHandle")
    {W9 : Nat} {Pre : Pt → Array Value → Prop} {Post : Pt → Array Value → Option Value → Pt → Prop} {PostX : Pt → Array Value → Addr → Pt → Prop} (hK : vx_Back l R p e below s args y 3 W9 Pre Post PostX)
    {b : Addr} {cellB : Cell} (hcell : T.heap[b]? = some cellB) (hobj : cellB.vm.isStatics = false) (hcls : s.vm.findClass C = some cellB.cls)
    {g : JFrame} (hg : g.method = m) (hsize : g.locals.size = c.maxLocals) {argsL rest : List Value} (hlen : ∀ sig, parseMethodDescriptor y.desc = some sig → argsL.length = sig.parameters.length)
    (hstack : g.stack = argsL.reverse ++ .ref b :: rest) (hW : 2 * g.monitorRoom + (rest.map fun v => v.category).sum ≤ W9) (hdg : decode c.code g.pc = .ok (.invokevirtual index, 3))
    (hpre : ∀ vm₁, s.WarmedH vm₁ → Pre ⟨T.setVm vm₁, locs, cells, slots⟩ (Value.ref b :: argsL).toArray) :
    (∃ (v : Option Value) (vm₁ : Vm) (B : Pt), s.WarmedH vm₁ ∧ Stand p l e R s m args below meth c B.U B.locs B.cells B.slots ∧ Post ⟨T.setVm vm₁, locs, cells, slots⟩ (Value.ref b :: argsL).toArray v B ∧
      ∀ target, Steps p.tables e below (B.U.setTop { g with pc := g.pc + 3, stack := v.toList ++ rest }) target → Steps p.tables e below (T.setTop g) target) ∨
    (∃ (q : Addr) (vm₁ : Vm) (B : Pt), s.WarmedH vm₁ ∧ Stand p l e R s m args below meth c B.U B.locs B.cells B.slots ∧ PostX ⟨T.setVm vm₁, locs, cells, slots⟩ (Value.ref b :: argsL).toArray q B ∧
      Steps p.tables e below (T.setTop g) ((B.U.setTop { g with stack := rest }).pushFrame (.throwing q))) := by
  obtain ⟨mk, methM, hnamed, hmethM, hstM, habM⟩ := Cond.instanceMethod_spec hinst
  obtain ⟨m8, methM', cM, hn8, hmethM', -, -, -, -, -, -, hsigM⟩ := Cond.codeWith_spec hcode
  cases Option.some.inj (hn8.symm.trans hnamed)
  cases hmethM.symm.trans hmethM'
  obtain ⟨c2, r2, m2, q1, q2, q3, q4, kP, hkP, hkPi⟩ := Cond.selects_spec hsel
  cases hcls.symm.trans q1
  cases (State.methodFound?_of_named hnamed hy).symm.trans q2
  cases hnamed.symm.trans q3
  have hselP : selectMethod e.platform s.vm cellB.cls mk = .method mk := by rw [Launch.admits_selectMethod X.admits]; exact q4
  obtain ⟨vm₁, X₁, hstep₁⟩ := X.invokevirtual hexec hown hlink hnamed hmethM hstM hkP hkPi hy (a := b) (cell := cellB) hcell
    (fun z h => by rw [h] at hobj; cases hobj) hselP hmethM habM hkP hkPi (g := g) hg (argsL := argsL) (rest := rest) (hlen _ hsigM) hstack hdg
  rcases hK m meth c ⟨T.setVm vm₁, locs, cells, slots⟩ { g with stack := rest } (.invokevirtual index) mk (Value.ref b :: argsL).toArray X₁ hg hsize hdg hW (X₁.named hnamed) (hpre vm₁ X₁.warmed) with ⟨v, B, X', hpost, hsteps⟩ | ⟨q, B, X', hpost, hsteps⟩
  · exact Or.inl ⟨v, vm₁, B, X₁.warmed, X', hpost, fun target h => hstep₁ _ fun acts => by rw [doInvoke_state]; exact hsteps.trans h⟩
  · exact Or.inr ⟨q, vm₁, B, X₁.warmed, X', hpost, hstep₁ _ fun acts => by rw [doInvoke_state]; exact hsteps⟩
theorem vx_callSX (X : Stand p l e R s m args below meth c T locs cells slots) (hexec : p.tables.exec = Jvm.exec) {own : String} {index : Nat} {y : MethodName} {bytes : ByteArray} {maxL : Nat} {ret : Option FieldType} {hh : List (Nat × Nat × Nat × Nat)}
    (hown : s.vm.findClass own = some m.cls) (hlink : (Cond.methodLink own index y).before args s = true) (hstat : (Cond.static y).before args s = true) (hinit : (Cond.initialized y.cls).before args s = true)
    (hcode : (Cond.codeWith y bytes maxL ret hh).before args s = true) (hy : y.cls ≠ "java/lang/invoke/MethodHandle" ∧ y.cls ≠ "java/lang/invoke/VarHandle")
    {W9 : Nat} {Pre : Pt → Array Value → Prop} {Post : Pt → Array Value → Option Value → Pt → Prop} {PostX : Pt → Array Value → Addr → Pt → Prop} (hK : vx_Back l R p e below s args y 3 W9 Pre Post PostX)
    {g : JFrame} (hg : g.method = m) (hsize : g.locals.size = c.maxLocals) {argsL rest : List Value} (hlen : ∀ sig, parseMethodDescriptor y.desc = some sig → argsL.length = sig.parameters.length)
    (hstack : g.stack = argsL.reverse ++ rest) (hW : 2 * g.monitorRoom + (rest.map fun v => v.category).sum ≤ W9) (hdg : decode c.code g.pc = .ok (.invokestatic index, 3))
    (hpre : ∀ vm₁, s.WarmedH vm₁ → Pre ⟨T.setVm vm₁, locs, cells, slots⟩ argsL.toArray) :
    (∃ (v : Option Value) (vm₁ : Vm) (B : Pt), s.WarmedH vm₁ ∧ Stand p l e R s m args below meth c B.U B.locs B.cells B.slots ∧ Post ⟨T.setVm vm₁, locs, cells, slots⟩ argsL.toArray v B ∧
      ∀ target, Steps p.tables e below (B.U.setTop { g with pc := g.pc + 3, stack := v.toList ++ rest }) target → Steps p.tables e below (T.setTop g) target) ∨
    (∃ (q : Addr) (vm₁ : Vm) (B : Pt), s.WarmedH vm₁ ∧ Stand p l e R s m args below meth c B.U B.locs B.cells B.slots ∧ PostX ⟨T.setVm vm₁, locs, cells, slots⟩ argsL.toArray q B ∧
      Steps p.tables e below (T.setTop g) ((B.U.setTop { g with stack := rest }).pushFrame (.throwing q))) := by
  obtain ⟨mk, methM, cM, hnamed, hmethM, -, -, -, -, -, -, hsigM⟩ := Cond.codeWith_spec hcode
  have hstatic : methM.isStatic = true := Cond.static_spec hnamed hmethM hstat
  obtain ⟨kP, hkP, -⟩ := className_of_methodNamed hnamed
  have hinitP : kP.init = .initialized := Cond.initialized_spec (findClass_of_methodNamed hnamed) hkP hinit
  obtain ⟨vm₁, X₁, hstep₁⟩ := X.invokestatic hexec hown hlink hnamed hmethM hstatic hkP hinitP hy (g := g) hg (argsL := argsL) (rest := rest) (hlen _ hsigM) hstack hdg
  rcases hK m meth c ⟨T.setVm vm₁, locs, cells, slots⟩ { g with stack := rest } (.invokestatic index) mk argsL.toArray X₁ hg hsize hdg hW (X₁.named hnamed) (hpre vm₁ X₁.warmed) with ⟨v, B, X', hpost, hsteps⟩ | ⟨q, B, X', hpost, hsteps⟩
  · exact Or.inl ⟨v, vm₁, B, X₁.warmed, X', hpost, fun target h => hstep₁ _ fun acts => by rw [doInvoke_state]; exact hsteps.trans h⟩
  · exact Or.inr ⟨q, vm₁, B, X₁.warmed, X', hpost, hstep₁ _ fun acts => by rw [doInvoke_state]; exact hsteps⟩
theorem vx_callVW (X : Stand p l e R s m args below meth c T locs cells slots) (hexec : p.tables.exec = Jvm.exec) {own C : String} {index : Nat} {y : MethodName} {bytes : ByteArray} {maxL : Nat} {ret : Option FieldType} {hh : List (Nat × Nat × Nat × Nat)}
    (hown : s.vm.findClass own = some m.cls) (hlink : (Cond.methodLink own index y).before args s = true) (hinst : (Cond.instanceMethod y).before args s = true) (hsel : (Cond.selects C y y).before args s = true)
    (hcode : (Cond.codeWith y bytes maxL ret hh).before args s = true) (hy : y.cls ≠ "java/lang/invoke/MethodHandle" ∧ y.cls ≠ "java/lang/invoke/VarHandle")
    {W9 : Nat} {Pre : Pt → Array Value → Prop} {Post : Pt → Array Value → Option Value → Pt → Prop} (hK : Back l R p e below s args y 3 W9 Pre Post)
    {b : Addr} {cellB : Cell} (hcell : T.heap[b]? = some cellB) (hobj : cellB.vm.isStatics = false) (hcls : s.vm.findClass C = some cellB.cls)
    {g : JFrame} (hg : g.method = m) (hsize : g.locals.size = c.maxLocals) {argsL rest : List Value} (hlen : ∀ sig, parseMethodDescriptor y.desc = some sig → argsL.length = sig.parameters.length)
    (hstack : g.stack = argsL.reverse ++ .ref b :: rest) (hW : 2 * g.monitorRoom + (rest.map fun v => v.category).sum ≤ W9) (hdg : decode c.code g.pc = .ok (.invokevirtual index, 3))
    (hpre : ∀ vm₁, s.WarmedH vm₁ → Pre ⟨T.setVm vm₁, locs, cells, slots⟩ (Value.ref b :: argsL).toArray) :
    ∃ (v : Option Value) (vm₁ : Vm) (B : Pt), s.WarmedH vm₁ ∧ Stand p l e R s m args below meth c B.U B.locs B.cells B.slots ∧ Post ⟨T.setVm vm₁, locs, cells, slots⟩ (Value.ref b :: argsL).toArray v B ∧
      ∀ target, Steps p.tables e below (B.U.setTop { g with pc := g.pc + 3, stack := v.toList ++ rest }) target → Steps p.tables e below (T.setTop g) target := by
  obtain ⟨mk, methM, hnamed, hmethM, hstM, habM⟩ := Cond.instanceMethod_spec hinst
  obtain ⟨m8, methM', cM, hn8, hmethM', -, -, -, -, -, -, hsigM⟩ := Cond.codeWith_spec hcode
  cases Option.some.inj (hn8.symm.trans hnamed)
  cases hmethM.symm.trans hmethM'
  obtain ⟨c2, r2, m2, q1, q2, q3, q4, kP, hkP, hkPi⟩ := Cond.selects_spec hsel
  cases hcls.symm.trans q1
  cases (State.methodFound?_of_named hnamed hy).symm.trans q2
  cases hnamed.symm.trans q3
  have hselP : selectMethod e.platform s.vm cellB.cls mk = .method mk := by rw [Launch.admits_selectMethod X.admits]; exact q4
  obtain ⟨vm₁, X₁, hstep₁⟩ := X.invokevirtual hexec hown hlink hnamed hmethM hstM hkP hkPi hy (a := b) (cell := cellB) hcell
    (fun z h => by rw [h] at hobj; cases hobj) hselP hmethM habM hkP hkPi (g := g) hg (argsL := argsL) (rest := rest) (hlen _ hsigM) hstack hdg
  obtain ⟨v, B, X', hpost, hsteps⟩ := hK m meth c ⟨T.setVm vm₁, locs, cells, slots⟩ { g with stack := rest } (.invokevirtual index) mk (Value.ref b :: argsL).toArray X₁ hg hsize hdg hW (X₁.named hnamed) (hpre vm₁ X₁.warmed)
  exact ⟨v, vm₁, B, X₁.warmed, X', hpost, fun target h => hstep₁ _ fun acts => by rw [doInvoke_state]; exact hsteps.trans h⟩
abbrev vx_CVW (R : Room) (s : State) (args : Array Value) (own C : String) (index : Nat) (y : MethodName) (bytes : ByteArray) (maxL : Nat) (ret : Option FieldType) (hh : List (Nat × Nat × Nat × Nat)) (ws : List Cond) (rm : Room) (mc ms n : Nat) : Prop :=
  (rm.cells = mc ∧ rm.slots = ms ∧ rm.frames + 1 ≤ R.frames ∧ 8 + (maxL + 11) + rm.locals ≤ R.locals ∧ (∀ w ∈ ws, ∀ (a' : Array Value) (U : State), s.WarmedH U.vm → w.before a' U = true) ∧ Cond.codeWith y bytes maxL ret hh ∈ ws) ∧
  (Cond.codeWith y bytes maxL ret hh).before args s = true ∧ (Cond.initialized y.cls).before args s = true ∧ (y.cls ≠ "java/lang/invoke/MethodHandle" ∧ y.cls ≠ "java/lang/invoke/VarHandle") ∧
  (∀ sig, parseMethodDescriptor y.desc = some sig → n = sig.parameters.length) ∧ (Cond.methodLink own index y).before args s = true ∧ (Cond.instanceMethod y).before args s = true ∧ (Cond.selects C y y).before args s = true
theorem vx_cwVW {own C : String} {index maxL mc ms : Nat} {y : MethodName} {bytes : ByteArray} {ret : Option FieldType} {hh : List (Nat × Nat × Nat × Nat)} {Ts ws ws' : List Cond} {rm : Room} (n : Nat) (ht : ∀ w ∈ Ts, w.before args s = true) (hT : GoodIn Ts (wsV own index C y ws)) (hw : ws = Cond.codeWith y bytes maxL ret hh :: ws') (hrc : rm.cells = mc) (hrs : rm.slots = ms)
    (hd : y.cls = C ∧ y.cls ≠ "java/lang/invoke/MethodHandle" ∧ y.cls ≠ "java/lang/invoke/VarHandle" ∧ (parseMethodDescriptor y.desc).map (fun d => d.parameters.length) = some n) (hR : rm.frames + 1 ≤ R.frames ∧ 8 + (maxL + 11) + rm.locals ≤ R.locals) :
    vx_CVW R s args own C index y bytes maxL ret hh ws rm mc ms n := by
  obtain ⟨hC, hd⟩ := hd
  subst hC
  have ok : ∀ w ∈ wsV own index y.cls y ws, w.before args s = true := fun w h => ht w (hT w h).1
  have hG : GoodIn Ts ws := fun w h => hT w (by unfold wsV; exact List.mem_append_right _ h)
  have hc : Cond.codeWith y bytes maxL ret hh ∈ ws := by rw [hw]; exact List.mem_cons_self
  refine ⟨⟨hrc, hrs, hR.1, hR.2, pay_in ht hG, hc⟩, ht _ (hG _ hc).1, ok _ (by simp [wsV]), ⟨hd.1, hd.2.1⟩, fun sig h => ?_, ok _ (by simp [wsV]), ok _ (by simp [wsV]), ok _ (by simp [wsV])⟩
  have h2 := hd.2.2
  rw [h] at h2
  exact (Option.some.inj h2).symm
theorem vx_runVW {y : MethodName} {bytes cc : ByteArray} {maxL nL mc ms n index : Nat} {ret : Option FieldType} {hh : List (Nat × Nat × Nat × Nat)} {ws : List Cond} {rm : Room} {Pc : Array Value → State → Prop} {Qc : Array Value → State → Outcome → State → Prop} {free : Addr → Prop} {Ts : List Cond} {own C : String} {b : Addr} {As rest : List Value} {g : JFrame}
    (S : CallFix p m c cc nL s args Ts own) (hM : Met l y ws rm Pc Qc mc ms free) (cw : vx_CVW R s args own C index y bytes maxL ret hh ws rm mc ms n) (hp : PreV s H C b Pc As)
    (hg : g.method = m) (hn : As.length = n) (hsize : g.locals.size = nL) (hstack : g.stack = As.reverse ++ .ref b :: rest) (hW : 2 * g.monitorRoom + (rest.map fun v => v.category).sum ≤ 8) (hdg : decode cc g.pc = .ok (.invokevirtual index, 3)) (hf : cells + mc ≤ R.cells ∧ slots + ms ≤ R.slots) :
    va_Run p l e R s m args below meth c H locs cells slots mc ms g rest (Qc (Value.ref b :: As).toArray) free := by
  obtain ⟨⟨hrc, hrs, hfr, hlo, hws, hcw⟩, hcode, hini, hy, hlen, hl, hin, hse⟩ := cw
  have hK : Back l R p e below s args y 3 8 (PreOf R mc ms Pc) (PostOf Qc mc ms free) := va_backW (hh := hh) (bytes := bytes) (maxL := maxL) (ret := ret) hM hp.1 hrc hrs hfr hlo hws hcw (fun a' U hW => word_at hW (Or.inl (by first | rfl | simp [Cond.onTables, Cond.keeps, Cond.steady])) hini)
  obtain ⟨hx, hb, hml, ho, -⟩ := S
  obtain ⟨-, ⟨cellB, hcB, hoB, hclB⟩, hPc⟩ := hp
  intro T hT X
  obtain ⟨v, vm₁, ⟨U', l2, c2, s2⟩, hW₁, X', ⟨g', mk, t, L, e1, e2, hq, h1, hL, h2, h3⟩, st⟩ := vx_callVW X hx (C := C) (hh := hh) (bytes := bytes) (maxL := maxL) (ret := ret) ho hl hin hse hcode hy hK (by rw [hT]; exact hcB) hoB hclB hg (hsize.trans hml.symm) (argsL := As) (rest := rest) (fun sig h => hn.trans (hlen sig h)) hstack hW (by rw [hb]; exact hdg)
    (fun vm₁ hW₁ => ⟨hf.1, hf.2, hPc (T.setVm vm₁) hT hW₁⟩)
  dsimp only [Pt.U, Pt.locs, Pt.cells, Pt.slots] at X' e1 e2 h1 h2 h3 st
  subst h1; subst h2; subst h3
  exact ⟨v, (T.setVm vm₁).calling g' mk (Value.ref b :: As).toArray, t, U', L, hT, X', hL, e1, e2, hq, st⟩
section
variable {y : MethodName} {bytes cc : ByteArray} {maxL nL mc ms n index : Nat} {ret : Option FieldType} {ws : List Cond} {rm : Room} {Pc : Array Value → State → Prop} {Qc : Array Value → State → Outcome → State → Prop} {XC : String → State → State → Prop} {free : Addr → Prop} {Ts : List Cond} {own C : String} {b : Addr} {As rest : List Value} {g : JFrame}
theorem vx_runVX {hh : List (Nat × Nat × Nat × Nat)} (S : CallFix p m c cc nL s args Ts own) (hM : vx_Met l y ws rm Pc Qc XC mc ms free) (cw : vx_CVW R s args own C index y bytes maxL ret hh ws rm mc ms n) (hp : PreV s H C b Pc As)
    (hg : g.method = m) (hn : As.length = n) (hsize : g.locals.size = nL) (hstack : g.stack = As.reverse ++ .ref b :: rest) (hW : 2 * g.monitorRoom + (rest.map fun v => v.category).sum ≤ 8) (hdg : decode cc g.pc = .ok (.invokevirtual index, 3)) (hf : cells + mc ≤ R.cells ∧ slots + ms ≤ R.slots) :
    vx_Run p l e R s m args below meth c H locs cells slots mc ms g rest (Qc (Value.ref b :: As).toArray) XC free := by
  obtain ⟨⟨hrc, hrs, hfr, hlo, hws, hcw⟩, hcode, hini, hy, hlen, hl, hin, hse⟩ := cw
  have hK : vx_Back l R p e below s args y 3 8 (PreOf R mc ms Pc) (PostOf Qc mc ms free) (vx_Post XC mc ms free) := vx_backW (hh := hh) (bytes := bytes) (maxL := maxL) (ret := ret) hM hp.1 hrc hrs hfr hlo hws hcw (fun a' U hW => word_at hW (Or.inl (by first | rfl | simp [Cond.onTables, Cond.keeps, Cond.steady])) hini)
  obtain ⟨hx, hb, hml, ho, -⟩ := S
  obtain ⟨-, ⟨cellB, hcB, hoB, hclB⟩, hPc⟩ := hp
  intro T hT X
  rcases vx_callVX X hx (C := C) (hh := hh) (bytes := bytes) (maxL := maxL) (ret := ret) ho hl hin hse hcode hy hK (by rw [hT]; exact hcB) hoB hclB hg (hsize.trans hml.symm) (argsL := As) (rest := rest) (fun sig h => hn.trans (hlen sig h)) hstack hW (by rw [hb]; exact hdg)
    (fun vm₁ hW₁ => ⟨hf.1, hf.2, hPc (T.setVm vm₁) hT hW₁⟩) with ⟨v, vm₁, ⟨U', l2, c2, s2⟩, hW₁, X', ⟨g', mk, t, L, e1, e2, hq, h1, hL, h2, h3⟩, st⟩ | ⟨q, vm₁, ⟨U', l2, c2, s2⟩, hW₁, X', ⟨g', mk, t, L, E, ce, e1, e2, hq, hce, hcv, hcl, h1, hL, h2, h3⟩, st⟩
  · dsimp only [Pt.U, Pt.locs, Pt.cells, Pt.slots] at X' e1 e2 h1 h2 h3 st
    subst h1; subst h2; subst h3
    exact Or.inl ⟨v, (T.setVm vm₁).calling g' mk (Value.ref b :: As).toArray, t, U', L, hT, X', hL, e1, e2, hq, st⟩
  · dsimp only [Pt.U, Pt.locs, Pt.cells, Pt.slots] at X' e1 e2 h1 h2 h3 st hcl
    subst h1; subst h2; subst h3
    exact Or.inr ⟨q, (T.setVm vm₁).calling g' mk (Value.ref b :: As).toArray, t, U', L, E, ce, hT, X', hL, e1, e2, hq, hce, hcv, vx_cls hW₁ hcl, st⟩
theorem vx_runSX {hh : List (Nat × Nat × Nat × Nat)} (S : CallFix p m c cc nL s args Ts own) (hM : vx_Met l y ws rm Pc Qc XC mc ms free) (cw : vx_CSW R s args own index y bytes maxL ret hh ws rm mc ms n) (hp : PreS s H Pc As)
    (hg : g.method = m) (hn : As.length = n) (hsize : g.locals.size = nL) (hstack : g.stack = As.reverse ++ rest) (hW : 2 * g.monitorRoom + (rest.map fun v => v.category).sum ≤ 8) (hdg : decode cc g.pc = .ok (.invokestatic index, 3)) (hf : cells + mc ≤ R.cells ∧ slots + ms ≤ R.slots) :
    vx_Run p l e R s m args below meth c H locs cells slots mc ms g rest (Qc As.toArray) XC free := by
  obtain ⟨⟨hrc, hrs, hfr, hlo, hws, hcw⟩, hcode, hini, hy, hlen, hl, hstt⟩ := cw
  have hK : vx_Back l R p e below s args y 3 8 (PreOf R mc ms Pc) (PostOf Qc mc ms free) (vx_Post XC mc ms free) := vx_backW (hh := hh) (bytes := bytes) (maxL := maxL) (ret := ret) hM hp.1 hrc hrs hfr hlo hws hcw (fun a' U hW => word_at hW (Or.inl (by first | rfl | simp [Cond.onTables, Cond.keeps, Cond.steady])) hini)
  obtain ⟨hx, hb, hml, ho, -⟩ := S
  intro T hT X
  rcases vx_callSX X hx (hh := hh) (bytes := bytes) (maxL := maxL) (ret := ret) ho hl hstt hini hcode hy hK hg (hsize.trans hml.symm) (argsL := As) (rest := rest) (fun sig h => hn.trans (hlen sig h)) hstack hW (by rw [hb]; exact hdg)
    (fun vm₁ hW₁ => ⟨hf.1, hf.2, hp.2 (T.setVm vm₁) hT hW₁⟩) with ⟨v, vm₁, ⟨U', l2, c2, s2⟩, hW₁, X', ⟨g', mk, t, L, e1, e2, hq, h1, hL, h2, h3⟩, st⟩ | ⟨q, vm₁, ⟨U', l2, c2, s2⟩, hW₁, X', ⟨g', mk, t, L, E, ce, e1, e2, hq, hce, hcv, hcl, h1, hL, h2, h3⟩, st⟩
  · dsimp only [Pt.U, Pt.locs, Pt.cells, Pt.slots] at X' e1 e2 h1 h2 h3 st
    subst h1; subst h2; subst h3
    exact Or.inl ⟨v, (T.setVm vm₁).calling g' mk As.toArray, t, U', L, hT, X', hL, e1, e2, hq, st⟩
  · dsimp only [Pt.U, Pt.locs, Pt.cells, Pt.slots] at X' e1 e2 h1 h2 h3 st hcl
    subst h1; subst h2; subst h3
    exact Or.inr ⟨q, (T.setVm vm₁).calling g' mk As.toArray, t, U', L, E, ce, hT, X', hL, e1, e2, hq, hce, hcv, vx_cls hW₁ hcl, st⟩
end
end VXH
theorem vx_ofWH {l : Launch} {y : MethodName} {ws ws' : List Cond} {rm : Room} {Pc : Array Value → State → Prop} {Qc : Array Value → State → Outcome → State → Prop} {XC : String → State → State → Prop} {mc ms : Nat} {free : Addr → Prop} {cc : ByteArray} {maxL : Nat} {ret : Option FieldType} {hh : List (Nat × Nat × Nat × Nat)}
    (hy : plainName y.cls = true) (hw : ws = Cond.codeWith y cc maxL ret hh :: ws')
    (body : ∀ p e s m args below meth c s₁, BodyLoose p l y (headSpec ws rm) cc maxL ret e s m args below meth c s₁ → c.maxLocals = maxL → Pc args s →
      W p l e (headSpec ws rm).room s m args below meth c s.heap [] 0 0 (vx_MQ below Qc XC args s mc ms free) (entryFrame m args maxL)) : vx_Met l y ws rm Pc Qc XC mc ms free := by
  refine MetFree.of_bodyS (code := cc) (maxLocals := maxL) (ret := ret) hy ?_ ?_
  · intro args s m h hn
    obtain ⟨m9, meth, c, hn9, h1, h2, h3, h4, -, h5, h6, -⟩ := Cond.codeWith_spec (atoms_spec (ws := ws) h _ (by rw [hw]; exact List.mem_cons_self))
    cases hn.symm.trans hn9
    exact ⟨meth, c, h1, h2, h3, h4, h5, h6⟩
  · intro p e s m args below meth c s₁ B hml hP _
    have hh0 : s₁.heap = s.heap := by rw [B.state]; rfl
    obtain ⟨t, a1, o, b1, b2, b3⟩ := body p e s m args below meth c s₁ B hml hP s₁ hh0 (Stand.of_body B)
    exact ⟨t, o, a1, b1, b2, b3⟩
/-! ===== END ===== -/

/-! ===== BEGIN a constructor that throws (launches without stack traces) ===== -/
section VXIA
variable {p : Program} {l : Launch} {e : Env} {R : Room} {s : State} {m : MethodId} {args : Array Value} {below : List Frame} {meth : Method} {c : Code} {T : State} {locs : List Loc} {cells slots : Nat}
theorem vx_callI (X : Stand p l e R s m args below meth c T locs cells slots) (hexec : p.tables.exec = Jvm.exec) {own : String} {index : Nat} {y : MethodName} {bytes : ByteArray} {maxL : Nat}
    (hown : s.vm.findClass own = some m.cls) (hy1 : y.name = "<init>") (hlink : (Cond.methodLink own index y).before args s = true) (hinst : (Cond.instanceMethod y).before args s = true)
    (hcode : (Cond.code y bytes maxL none).before args s = true) (hy : y.cls ≠ "java/lang/invoke/MethodHandle" ∧ y.cls ≠ "java/lang/invoke/VarHandle")
    {W9 : Nat} {Pre : Pt → Array Value → Prop} {Post : Pt → Array Value → Option Value → Pt → Prop} {PostX : Pt → Array Value → Addr → Pt → Prop} (hK : vx_Back l R p e below s args y 3 W9 Pre Post PostX)
    {g : JFrame} (hg : g.method = m) (hsize : g.locals.size = c.maxLocals) {a : Addr} {argsL rest : List Value} (hlen : ∀ sig, parseMethodDescriptor y.desc = some sig → argsL.length = sig.parameters.length)
    (hstack : g.stack = argsL.reverse ++ .ref a :: rest) (hW : 2 * g.monitorRoom + (rest.map fun v => v.category).sum ≤ W9) (hdg : decode c.code g.pc = .ok (.invokespecial index, 3))
    (hpre : ∀ vm₁, s.WarmedH vm₁ → Pre ⟨T.setVm vm₁, locs, cells, slots⟩ (Value.ref a :: argsL).toArray) :
    (∃ (v : Option Value) (vm₁ : Vm) (B : Pt), s.WarmedH vm₁ ∧ Stand p l e R s m args below meth c B.U B.locs B.cells B.slots ∧ Post ⟨T.setVm vm₁, locs, cells, slots⟩ (Value.ref a :: argsL).toArray v B ∧
      ∀ target, Steps p.tables e below (B.U.setTop { g with pc := g.pc + 3, stack := v.toList ++ rest }) target → Steps p.tables e below (T.setTop g) target) ∨
    (∃ (q : Addr) (vm₁ : Vm) (B : Pt), s.WarmedH vm₁ ∧ Stand p l e R s m args below meth c B.U B.locs B.cells B.slots ∧ PostX ⟨T.setVm vm₁, locs, cells, slots⟩ (Value.ref a :: argsL).toArray q B ∧
      Steps p.tables e below (T.setTop g) ((B.U.setTop { g with stack := rest }).pushFrame (.throwing q))) := by
  subst hg
  have hpl : e.platform.magicAccessors = ({} : Platform).magicAccessors := by rw [X.admits.platform]
  obtain ⟨mk, methM, cM, kP, vm₁, hnamed, hmethM, hcodeM, -, hlocalsM, -, hkP, -, hW₁, hstep₁⟩ := Steps.initColdArgs (e := e) X.here hexec X.warmed hpl hown hy1 hy hlink hinst hcode (f := g) rfl hlen hstack hdg
  have X₁ := X.noted hW₁
  rcases hK g.method meth c ⟨T.setVm vm₁, locs, cells, slots⟩ { g with stack := rest } (.invokespecial index) mk (Value.ref a :: argsL).toArray X₁ rfl hsize hdg hW (X₁.named hnamed) (hpre vm₁ X₁.warmed) with ⟨v, B, X', hpost, hsteps⟩ | ⟨q, B, X', hpost, hsteps⟩
  · exact Or.inl ⟨v, vm₁, B, X₁.warmed, X', hpost, fun target h => hstep₁ _ fun acts => by rw [doInvoke_state]; exact hsteps.trans h⟩
  · exact Or.inr ⟨q, vm₁, B, X₁.warmed, X', hpost, hstep₁ _ fun acts => by rw [doInvoke_state]; exact hsteps⟩
end VXIA
section VXIB
variable {p : Program} {l : Launch} {e : Env} {R : Room} {s : State} {m : MethodId} {args : Array Value} {below : List Frame} {meth : Method} {c : Code} {H : Heap} {locs : List Loc} {cells slots : Nat}
variable {y : MethodName} {bytes cc : ByteArray} {maxL nL mc ms n index : Nat} {ret : Option FieldType} {ws : List Cond} {rm : Room} {Pc : Array Value → State → Prop} {Qc : Array Value → State → Outcome → State → Prop} {XC : String → State → State → Prop} {free : Addr → Prop} {Ts : List Cond} {own C : String} {b : Addr} {As rest : List Value} {g : JFrame}
theorem vx_runI (S : CallFix p m c cc nL s args Ts own) (hM : vx_Met l y ws rm Pc Qc XC mc ms free) (cw : CallB R s args own index y bytes maxL none ws rm mc ms n ∧ y.name = "<init>" ∧ (Cond.instanceMethod y).before args s = true) (hp : PreS s H Pc (.ref b :: As))
    (hg : g.method = m) (hn : As.length = n) (hsize : g.locals.size = nL) (hstack : g.stack = As.reverse ++ .ref b :: rest) (hW : 2 * g.monitorRoom + (rest.map fun v => v.category).sum ≤ 8) (hdg : decode cc g.pc = .ok (.invokespecial index, 3)) (hf : cells + mc ≤ R.cells ∧ slots + ms ≤ R.slots) :
    vx_Run p l e R s m args below meth c H locs cells slots mc ms g rest (Qc (Value.ref b :: As).toArray) XC free := by
  have hK : vx_Back l R p e below s args y 3 8 (PreOf R mc ms Pc) (PostOf Qc mc ms free) (vx_Post XC mc ms free) := vx_callBack cw.1 hM hp.1
  obtain ⟨⟨-, -, -, -, -, -, hcode, -, hy, hlen, hl⟩, hy1, hin⟩ := cw
  obtain ⟨hx, hb, hml, ho, -⟩ := S
  have hPc := hp.2
  intro T hT X
  rcases vx_callI X hx (bytes := bytes) (maxL := maxL) ho hy1 hl hin hcode hy hK hg (hsize.trans hml.symm) (a := b) (argsL := As) (rest := rest) (fun sig h => hn.trans (hlen sig h)) hstack hW (by rw [hb]; exact hdg)
    (fun vm₁ hW₁ => ⟨hf.1, hf.2, hPc (T.setVm vm₁) hT hW₁⟩) with ⟨v, vm₁, ⟨U', l2, c2, s2⟩, hW₁, X', ⟨g', mk, t, L, e1, e2, hq, h1, hL, h2, h3⟩, st⟩ | ⟨q, vm₁, ⟨U', l2, c2, s2⟩, hW₁, X', ⟨g', mk, t, L, E, ce, e1, e2, hq, hce, hcv, hcl, h1, hL, h2, h3⟩, st⟩
  · dsimp only [Pt.U, Pt.locs, Pt.cells, Pt.slots] at X' e1 e2 h1 h2 h3 st
    subst h1; subst h2; subst h3
    exact Or.inl ⟨v, (T.setVm vm₁).calling g' mk (Value.ref b :: As).toArray, t, U', L, hT, X', hL, e1, e2, hq, st⟩
  · dsimp only [Pt.U, Pt.locs, Pt.cells, Pt.slots] at X' e1 e2 h1 h2 h3 st hcl
    subst h1; subst h2; subst h3
    exact Or.inr ⟨q, (T.setVm vm₁).calling g' mk (Value.ref b :: As).toArray, t, U', L, E, ce, hT, X', hL, e1, e2, hq, hce, hcv, vx_cls hW₁ hcl, st⟩
end VXIB
/-! ===== END ===== -/
/-! ===== BEGIN a private constructor of a nest mate that throws ===== -/
section VXIC
variable {p : Program} {l : Launch} {e : Env} {R : Room} {s : State} {m : MethodId} {args : Array Value} {below : List Frame} {meth : Method} {c : Code} {T : State} {locs : List Loc} {cells slots : Nat}
theorem vx_callIN (X : Stand p l e R s m args below meth c T locs cells slots) (hexec : p.tables.exec = Jvm.exec) {own : String} {index : Nat} {host : String} {y : MethodName} {bytes : ByteArray} {maxL : Nat}
    (hown : s.vm.findClass own = some m.cls) (hy1 : y.name = "<init>") (hlink : (Cond.methodLinkNest own index y host).before args s = true) (hinst : (Cond.instanceMethod y).before args s = true)
    (hcode : (Cond.code y bytes maxL none).before args s = true) (hy : y.cls ≠ "java/lang/invoke/MethodHandle" ∧ y.cls ≠ "java/lang/invoke/VarHandle")
    {W9 : Nat} {Pre : Pt → Array Value → Prop} {Post : Pt → Array Value → Option Value → Pt → Prop} {PostX : Pt → Array Value → Addr → Pt → Prop} (hK : vx_Back l R p e below s args y 3 W9 Pre Post PostX)
    {g : JFrame} (hg : g.method = m) (hsize : g.locals.size = c.maxLocals) {a : Addr} {argsL rest : List Value} (hlen : ∀ sig, parseMethodDescriptor y.desc = some sig → argsL.length = sig.parameters.length)
    (hstack : g.stack = argsL.reverse ++ .ref a :: rest) (hW : 2 * g.monitorRoom + (rest.map fun v => v.category).sum ≤ W9) (hdg : decode c.code g.pc = .ok (.invokespecial index, 3))
    (hpre : ∀ vm₁, s.WarmedH vm₁ → Pre ⟨T.setVm vm₁, locs, cells, slots⟩ (Value.ref a :: argsL).toArray) :
    (∃ (v : Option Value) (vm₁ : Vm) (B : Pt), s.WarmedH vm₁ ∧ Stand p l e R s m args below meth c B.U B.locs B.cells B.slots ∧ Post ⟨T.setVm vm₁, locs, cells, slots⟩ (Value.ref a :: argsL).toArray v B ∧
      ∀ target, Steps p.tables e below (B.U.setTop { g with pc := g.pc + 3, stack := v.toList ++ rest }) target → Steps p.tables e below (T.setTop g) target) ∨
    (∃ (q : Addr) (vm₁ : Vm) (B : Pt), s.WarmedH vm₁ ∧ Stand p l e R s m args below meth c B.U B.locs B.cells B.slots ∧ PostX ⟨T.setVm vm₁, locs, cells, slots⟩ (Value.ref a :: argsL).toArray q B ∧
      Steps p.tables e below (T.setTop g) ((B.U.setTop { g with stack := rest }).pushFrame (.throwing q))) := by
  subst hg
  have hpl : e.platform.magicAccessors = ({} : Platform).magicAccessors := by rw [X.admits.platform]
  obtain ⟨mk, methM, cM, kP, vm₁, hnamed, hmethM, hcodeM, -, hlocalsM, -, hkP, -, hW₁, hstep₁⟩ := Steps.initColdArgsNest (e := e) X.here hexec X.warmed hpl hown hy1 hy hlink hinst hcode (f := g) rfl hlen hstack hdg
  have X₁ := X.noted hW₁
  rcases hK g.method meth c ⟨T.setVm vm₁, locs, cells, slots⟩ { g with stack := rest } (.invokespecial index) mk (Value.ref a :: argsL).toArray X₁ rfl hsize hdg hW (X₁.named hnamed) (hpre vm₁ X₁.warmed) with ⟨v, B, X', hpost, hsteps⟩ | ⟨q, B, X', hpost, hsteps⟩
  · exact Or.inl ⟨v, vm₁, B, X₁.warmed, X', hpost, fun target h => hstep₁ _ fun acts => by rw [doInvoke_state]; exact hsteps.trans h⟩
  · exact Or.inr ⟨q, vm₁, B, X₁.warmed, X', hpost, hstep₁ _ fun acts => by rw [doInvoke_state]; exact hsteps⟩
end VXIC
section VXID
variable {p : Program} {l : Launch} {e : Env} {R : Room} {s : State} {m : MethodId} {args : Array Value} {below : List Frame} {meth : Method} {c : Code} {H : Heap} {locs : List Loc} {cells slots : Nat}
theorem vx_runIN {y : MethodName} {bytes cc : ByteArray} {maxL nL mc ms n index : Nat} {ws : List Cond} {rm : Room} {Pc : Array Value → State → Prop} {Qc : Array Value → State → Outcome → State → Prop} {XC : String → State → State → Prop} {free : Addr → Prop} {Ts : List Cond} {own host : String} {b : Addr} {As rest : List Value} {g : JFrame}
    (S : CallFix p m c cc nL s args Ts own) (hM : vx_Met l y ws rm Pc Qc XC mc ms free) (cw : va_CN R s args own index y host bytes maxL none ws rm mc ms n ∧ y.name = "<init>" ∧ (Cond.instanceMethod y).before args s = true) (hp : PreS s H Pc (.ref b :: As))
    (hg : g.method = m) (hn : As.length = n) (hsize : g.locals.size = nL) (hstack : g.stack = As.reverse ++ .ref b :: rest) (hW : 2 * g.monitorRoom + (rest.map fun v => v.category).sum ≤ 8) (hdg : decode cc g.pc = .ok (.invokespecial index, 3)) (hf : cells + mc ≤ R.cells ∧ slots + ms ≤ R.slots) :
    vx_Run p l e R s m args below meth c H locs cells slots mc ms g rest (Qc (Value.ref b :: As).toArray) XC free := by
  obtain ⟨⟨⟨hrc, hrs, hfr, hlo, hws, hcw⟩, hcode, hini, hy, hlen, hl⟩, hx1, hx2⟩ := cw
  have hK : vx_Back l R p e below s args y 3 8 (PreOf R mc ms Pc) (PostOf Qc mc ms free) (vx_Post XC mc ms free) := vx_back (bytes := bytes) (maxL := maxL) (ret := none) hM hp.1 hrc hrs hfr hlo hws hcw (fun a' U hW => word_at hW (Or.inl (by first | rfl | simp [Cond.onTables, Cond.keeps, Cond.steady])) hini)
  obtain ⟨hx, hb, hml, ho, -⟩ := S
  have hPc := hp.2
  intro T hT X
  rcases vx_callIN X hx (bytes := bytes) (maxL := maxL) ho hx1 hl hx2 hcode hy hK hg (hsize.trans hml.symm) (a := b) (argsL := As) (rest := rest) (fun sig h => hn.trans (hlen sig h)) hstack hW (by rw [hb]; exact hdg)
    (fun vm₁ hW₁ => ⟨hf.1, hf.2, hPc (T.setVm vm₁) hT hW₁⟩) with ⟨v, vm₁, ⟨U', l2, c2, s2⟩, hW₁, X', ⟨g', mk, t, L, e1, e2, hq, h1, hL, h2, h3⟩, st⟩ | ⟨q, vm₁, ⟨U', l2, c2, s2⟩, hW₁, X', ⟨g', mk, t, L, E, ce, e1, e2, hq, hce, hcv, hcl, h1, hL, h2, h3⟩, st⟩
  · dsimp only [Pt.U, Pt.locs, Pt.cells, Pt.slots] at X' e1 e2 h1 h2 h3 st
    subst h1; subst h2; subst h3
    exact Or.inl ⟨v, (T.setVm vm₁).calling g' mk (Value.ref b :: As).toArray, t, U', L, hT, X', hL, e1, e2, hq, st⟩
  · dsimp only [Pt.U, Pt.locs, Pt.cells, Pt.slots] at X' e1 e2 h1 h2 h3 st hcl
    subst h1; subst h2; subst h3
    exact Or.inr ⟨q, (T.setVm vm₁).calling g' mk (Value.ref b :: As).toArray, t, U', L, E, ce, hT, X', hL, e1, e2, hq, hce, hcv, vx_cls hW₁ hcl, st⟩
end VXID
/-! ===== END ===== -/
/-! ===== BEGIN a private method of a nest mate that may throw (follows va_callVN, va_callSN, va_runVN, va_runSN) ===== -/
section
variable {p : Program} {l : Launch} {e : Env} {R : Room} {s : State} {m : MethodId} {args : Array Value} {below : List Frame} {meth : Method} {c : Code} {H : Heap} {locs : List Loc} {cells slots : Nat}
variable {T : State}
theorem vx_callVN (X : Stand p l e R s m args below meth c T locs cells slots) (hexec : p.tables.exec = Jvm.exec) {own C : String} {index : Nat} {host : String} {y : MethodName} {bytes : ByteArray} {maxL : Nat} {ret : Option FieldType}
    (hown : s.vm.findClass own = some m.cls) (hlink : (Cond.methodLinkNest own index y host).before args s = true) (hinst : (Cond.instanceMethod y).before args s = true) (hsel : (Cond.selects C y y).before args s = true)
    (hcode : (Cond.code y bytes maxL ret).before args s = true) (hy : y.cls ≠ "java/lang/invoke/MethodHandle" ∧ y.cls ≠ "java/lang/invoke/VarHandle")
    {W : Nat} {Pre : Pt → Array Value → Prop} {Post : Pt → Array Value → Option Value → Pt → Prop} {PostX : Pt → Array Value → Addr → Pt → Prop} (hK : vx_Back l R p e below s args y 3 W Pre Post PostX)
    {b : Addr} {cellB : Cell} (hcell : T.heap[b]? = some cellB) (hobj : cellB.vm.isStatics = false) (hcls : s.vm.findClass C = some cellB.cls)
    {g : JFrame} (hg : g.method = m) (hsize : g.locals.size = c.maxLocals) {argsL rest : List Value} (hlen : ∀ sig, parseMethodDescriptor y.desc = some sig → argsL.length = sig.parameters.length)
    (hstack : g.stack = argsL.reverse ++ .ref b :: rest) (hW : 2 * g.monitorRoom + (rest.map fun v => v.category).sum ≤ W) (hdg : decode c.code g.pc = .ok (.invokevirtual index, 3))
    (hpre : ∀ vm₁, s.WarmedH vm₁ → Pre ⟨T.setVm vm₁, locs, cells, slots⟩ (Value.ref b :: argsL).toArray) :
    (∃ (v : Option Value) (vm₁ : Vm) (B : Pt), s.WarmedH vm₁ ∧ Stand p l e R s m args below meth c B.U B.locs B.cells B.slots ∧ Post ⟨T.setVm vm₁, locs, cells, slots⟩ (Value.ref b :: argsL).toArray v B ∧
      ∀ target, Steps p.tables e below (B.U.setTop { g with pc := g.pc + 3, stack := v.toList ++ rest }) target → Steps p.tables e below (T.setTop g) target) ∨
    (∃ (q : Addr) (vm₁ : Vm) (B : Pt), s.WarmedH vm₁ ∧ Stand p l e R s m args below meth c B.U B.locs B.cells B.slots ∧ PostX ⟨T.setVm vm₁, locs, cells, slots⟩ (Value.ref b :: argsL).toArray q B ∧
      Steps p.tables e below (T.setTop g) ((B.U.setTop { g with stack := rest }).pushFrame (.throwing q))) := by
  obtain ⟨mk, methM, hnamed, hmethM, hstM, habM⟩ := Cond.instanceMethod_spec hinst
  obtain ⟨methM', cM, hmethM', -, -, -, -, -, -, hsigM⟩ := Cond.code_spec hnamed hcode
  cases hmethM.symm.trans hmethM'
  obtain ⟨c2, r2, m2, q1, q2, q3, q4, kP, hkP, hkPi⟩ := Cond.selects_spec hsel
  cases hcls.symm.trans q1
  cases (State.methodFound?_of_named hnamed hy).symm.trans q2
  cases hnamed.symm.trans q3
  have hselP : selectMethod e.platform s.vm cellB.cls mk = .method mk := by rw [Launch.admits_selectMethod X.admits]; exact q4
  obtain ⟨vm₁, X₁, hstep₁⟩ := X.invokevirtualNest hexec hown hlink hnamed hmethM hstM hkP hkPi hy (a := b) (cell := cellB) hcell
    (fun z h => by rw [h] at hobj; cases hobj) hselP hmethM habM hkP hkPi (g := g) hg (argsL := argsL) (rest := rest) (hlen _ hsigM) hstack hdg
  rcases hK m meth c ⟨T.setVm vm₁, locs, cells, slots⟩ { g with stack := rest } (.invokevirtual index) mk (Value.ref b :: argsL).toArray X₁ hg hsize hdg hW (X₁.named hnamed) (hpre vm₁ X₁.warmed) with ⟨v, B, X', hpost, hsteps⟩ | ⟨q, B, X', hpost, hsteps⟩
  · exact Or.inl ⟨v, vm₁, B, X₁.warmed, X', hpost, fun target h => hstep₁ _ fun acts => by rw [doInvoke_state]; exact hsteps.trans h⟩
  · exact Or.inr ⟨q, vm₁, B, X₁.warmed, X', hpost, hstep₁ _ fun acts => by rw [doInvoke_state]; exact hsteps⟩
theorem vx_callSN (X : Stand p l e R s m args below meth c T locs cells slots) (hexec : p.tables.exec = Jvm.exec) {own : String} {index : Nat} {host : String} {y : MethodName} {bytes : ByteArray} {maxL : Nat} {ret : Option FieldType}
    (hown : s.vm.findClass own = some m.cls) (hlink : (Cond.methodLinkNest own index y host).before args s = true) (hstat : (Cond.static y).before args s = true) (hinit : (Cond.initialized y.cls).before args s = true)
    (hcode : (Cond.code y bytes maxL ret).before args s = true) (hy : y.cls ≠ "java/lang/invoke/MethodHandle" ∧ y.cls ≠ "java/lang/invoke/VarHandle")
    {W : Nat} {Pre : Pt → Array Value → Prop} {Post : Pt → Array Value → Option Value → Pt → Prop} {PostX : Pt → Array Value → Addr → Pt → Prop} (hK : vx_Back l R p e below s args y 3 W Pre Post PostX)
    {g : JFrame} (hg : g.method = m) (hsize : g.locals.size = c.maxLocals) {argsL rest : List Value} (hlen : ∀ sig, parseMethodDescriptor y.desc = some sig → argsL.length = sig.parameters.length)
    (hstack : g.stack = argsL.reverse ++ rest) (hW : 2 * g.monitorRoom + (rest.map fun v => v.category).sum ≤ W) (hdg : decode c.code g.pc = .ok (.invokestatic index, 3))
    (hpre : ∀ vm₁, s.WarmedH vm₁ → Pre ⟨T.setVm vm₁, locs, cells, slots⟩ argsL.toArray) :
    (∃ (v : Option Value) (vm₁ : Vm) (B : Pt), s.WarmedH vm₁ ∧ Stand p l e R s m args below meth c B.U B.locs B.cells B.slots ∧ Post ⟨T.setVm vm₁, locs, cells, slots⟩ argsL.toArray v B ∧
      ∀ target, Steps p.tables e below (B.U.setTop { g with pc := g.pc + 3, stack := v.toList ++ rest }) target → Steps p.tables e below (T.setTop g) target) ∨
    (∃ (q : Addr) (vm₁ : Vm) (B : Pt), s.WarmedH vm₁ ∧ Stand p l e R s m args below meth c B.U B.locs B.cells B.slots ∧ PostX ⟨T.setVm vm₁, locs, cells, slots⟩ argsL.toArray q B ∧
      Steps p.tables e below (T.setTop g) ((B.U.setTop { g with stack := rest }).pushFrame (.throwing q))) := by
  obtain ⟨mk, hnamed⟩ := Cond.code_named hcode
  obtain ⟨methM, cM, hmethM, -, -, -, -, -, -, hsigM⟩ := Cond.code_spec hnamed hcode
  have hstatic : methM.isStatic = true := Cond.static_spec hnamed hmethM hstat
  obtain ⟨kP, hkP, -⟩ := className_of_methodNamed hnamed
  have hinitP : kP.init = .initialized := Cond.initialized_spec (findClass_of_methodNamed hnamed) hkP hinit
  obtain ⟨vm₁, X₁, hstep₁⟩ := X.invokestaticNest hexec hown hlink hnamed hmethM hstatic hkP hinitP hy (g := g) hg (argsL := argsL) (rest := rest) (hlen _ hsigM) hstack hdg
  rcases hK m meth c ⟨T.setVm vm₁, locs, cells, slots⟩ { g with stack := rest } (.invokestatic index) mk argsL.toArray X₁ hg hsize hdg hW (X₁.named hnamed) (hpre vm₁ X₁.warmed) with ⟨v, B, X', hpost, hsteps⟩ | ⟨q, B, X', hpost, hsteps⟩
  · exact Or.inl ⟨v, vm₁, B, X₁.warmed, X', hpost, fun target h => hstep₁ _ fun acts => by rw [doInvoke_state]; exact hsteps.trans h⟩
  · exact Or.inr ⟨q, vm₁, B, X₁.warmed, X', hpost, hstep₁ _ fun acts => by rw [doInvoke_state]; exact hsteps⟩
theorem vx_runVN {y : MethodName} {bytes cc : ByteArray} {maxL nL mc ms n index : Nat} {ret : Option FieldType} {ws : List Cond} {rm : Room} {Pc : Array Value → State → Prop} {Qc : Array Value → State → Outcome → State → Prop} {XC : String → State → State → Prop} {free : Addr → Prop} {Ts : List Cond} {own C host : String} {b : Addr} {As rest : List Value} {g : JFrame}
    (S : CallFix p m c cc nL s args Ts own) (hM : vx_Met l y ws rm Pc Qc XC mc ms free) (cw : va_CN R s args own index y host bytes maxL ret ws rm mc ms n ∧ (Cond.instanceMethod y).before args s = true ∧ (Cond.selects C y y).before args s = true) (hp : PreV s H C b Pc As)
    (hg : g.method = m) (hn : As.length = n) (hsize : g.locals.size = nL) (hstack : g.stack = As.reverse ++ .ref b :: rest) (hW : 2 * g.monitorRoom + (rest.map fun v => v.category).sum ≤ 8) (hdg : decode cc g.pc = .ok (.invokevirtual index, 3)) (hf : cells + mc ≤ R.cells ∧ slots + ms ≤ R.slots) :
    vx_Run p l e R s m args below meth c H locs cells slots mc ms g rest (Qc (Value.ref b :: As).toArray) XC free := by
  obtain ⟨⟨⟨hrc, hrs, hfr, hlo, hws, hcw⟩, hcode, hini, hy, hlen, hl⟩, hx1, hx2⟩ := cw
  have hK : vx_Back l R p e below s args y 3 8 (PreOf R mc ms Pc) (PostOf Qc mc ms free) (vx_Post XC mc ms free) := vx_back (bytes := bytes) (maxL := maxL) (ret := ret) hM hp.1 hrc hrs hfr hlo hws hcw (fun a' U hW => word_at hW (Or.inl (by first | rfl | simp [Cond.onTables, Cond.keeps, Cond.steady])) hini)
  obtain ⟨hx, hb, hml, ho, -⟩ := S
  obtain ⟨-, ⟨cellB, hcB, hoB, hclB⟩, hPc⟩ := hp
  intro T hT X
  rcases vx_callVN X hx (C := C) (bytes := bytes) (maxL := maxL) (ret := ret) ho hl hx1 hx2 hcode hy hK (by rw [hT]; exact hcB) hoB hclB hg (hsize.trans hml.symm) (argsL := As) (rest := rest) (fun sig h => hn.trans (hlen sig h)) hstack hW (by rw [hb]; exact hdg)
    (fun vm₁ hW₁ => ⟨hf.1, hf.2, hPc (T.setVm vm₁) hT hW₁⟩) with ⟨v, vm₁, ⟨U', l2, c2, s2⟩, hW₁, X', ⟨g', mk, t, L, e1, e2, hq, h1, hL, h2, h3⟩, st⟩ | ⟨q, vm₁, ⟨U', l2, c2, s2⟩, hW₁, X', ⟨g', mk, t, L, E, ce, e1, e2, hq, hce, hcv, hcl, h1, hL, h2, h3⟩, st⟩
  · dsimp only [Pt.U, Pt.locs, Pt.cells, Pt.slots] at X' e1 e2 h1 h2 h3 st
    subst h1; subst h2; subst h3
    exact Or.inl ⟨v, (T.setVm vm₁).calling g' mk (Value.ref b :: As).toArray, t, U', L, hT, X', hL, e1, e2, hq, st⟩
  · dsimp only [Pt.U, Pt.locs, Pt.cells, Pt.slots] at X' e1 e2 h1 h2 h3 st hcl
    subst h1; subst h2; subst h3
    exact Or.inr ⟨q, (T.setVm vm₁).calling g' mk (Value.ref b :: As).toArray, t, U', L, E, ce, hT, X', hL, e1, e2, hq, hce, hcv, vx_cls hW₁ hcl, st⟩
theorem vx_runSN {y : MethodName} {bytes cc : ByteArray} {maxL nL mc ms n index : Nat} {ret : Option FieldType} {ws : List Cond} {rm : Room} {Pc : Array Value → State → Prop} {Qc : Array Value → State → Outcome → State → Prop} {XC : String → State → State → Prop} {free : Addr → Prop} {Ts : List Cond} {own host : String} {As rest : List Value} {g : JFrame}
    (S : CallFix p m c cc nL s args Ts own) (hM : vx_Met l y ws rm Pc Qc XC mc ms free) (cw : va_CN R s args own index y host bytes maxL ret ws rm mc ms n ∧ (Cond.static y).before args s = true ∧ True) (hp : PreS s H Pc As)
    (hg : g.method = m) (hn : As.length = n) (hsize : g.locals.size = nL) (hstack : g.stack = As.reverse ++ rest) (hW : 2 * g.monitorRoom + (rest.map fun v => v.category).sum ≤ 8) (hdg : decode cc g.pc = .ok (.invokestatic index, 3)) (hf : cells + mc ≤ R.cells ∧ slots + ms ≤ R.slots) :
    vx_Run p l e R s m args below meth c H locs cells slots mc ms g rest (Qc As.toArray) XC free := by
  obtain ⟨⟨⟨hrc, hrs, hfr, hlo, hws, hcw⟩, hcode, hini, hy, hlen, hl⟩, hx1, hx2⟩ := cw
  have hK : vx_Back l R p e below s args y 3 8 (PreOf R mc ms Pc) (PostOf Qc mc ms free) (vx_Post XC mc ms free) := vx_back (bytes := bytes) (maxL := maxL) (ret := ret) hM hp.1 hrc hrs hfr hlo hws hcw (fun a' U hW => word_at hW (Or.inl (by first | rfl | simp [Cond.onTables, Cond.keeps, Cond.steady])) hini)
  obtain ⟨hx, hb, hml, ho, -⟩ := S
  have hPc := hp.2
  intro T hT X
  rcases vx_callSN X hx (bytes := bytes) (maxL := maxL) (ret := ret) ho hl hx1 hini hcode hy hK hg (hsize.trans hml.symm) (argsL := As) (rest := rest) (fun sig h => hn.trans (hlen sig h)) hstack hW (by rw [hb]; exact hdg)
    (fun vm₁ hW₁ => ⟨hf.1, hf.2, hPc (T.setVm vm₁) hT hW₁⟩) with ⟨v, vm₁, ⟨U', l2, c2, s2⟩, hW₁, X', ⟨g', mk, t, L, e1, e2, hq, h1, hL, h2, h3⟩, st⟩ | ⟨q, vm₁, ⟨U', l2, c2, s2⟩, hW₁, X', ⟨g', mk, t, L, E, ce, e1, e2, hq, hce, hcv, hcl, h1, hL, h2, h3⟩, st⟩
  · dsimp only [Pt.U, Pt.locs, Pt.cells, Pt.slots] at X' e1 e2 h1 h2 h3 st
    subst h1; subst h2; subst h3
    exact Or.inl ⟨v, (T.setVm vm₁).calling g' mk As.toArray, t, U', L, hT, X', hL, e1, e2, hq, st⟩
  · dsimp only [Pt.U, Pt.locs, Pt.cells, Pt.slots] at X' e1 e2 h1 h2 h3 st hcl
    subst h1; subst h2; subst h3
    exact Or.inr ⟨q, (T.setVm vm₁).calling g' mk As.toArray, t, U', L, E, ce, hT, X', hL, e1, e2, hq, hce, hcv, vx_cls hW₁ hcl, st⟩
end
/-! ===== END ===== -/
end
section
def zm_ex : Nat → String := fun k => match k with
  | 0 => "java/lang/IndexOutOfBoundsException"
  | 1 => "java/lang/IllegalArgumentException"
  | _ => "java/lang/IllegalStateException"
def zm_xk : List (Nat × Nat × Nat) := [(6, 84, 0), (6, 153, 2), (6, 227, 1), (8, 13, 0), (8, 15, 1), (8, 17, 2)]
def zm_xkp : List Nat := [443, 545, 529, 428, 429, 430]
def zm_xkw (q : Nat × Nat × Nat) : Cond := .classLink (zm_cn q.1) q.2.1 (zm_ex q.2.2)
theorem zm_xk_in : ∀ q ∈ zm_xk, zm_xkw q ∈ lw_tbl := zm_all_in (p := zm_xkp) (by decide +kernel)
/-- throws: method, pc, exception, index of the class, of the text, of the constructor, wide -/
def zm_sites : List (Nat × Nat × Nat × Nat × Nat × Nat × Bool) := [(9, 9, 0, 84, 242, 88, false), (41, 32, 1, 227, 229, 231, false), (41, 58, 2, 153, 232, 157, false), (105, 14, 0, 84, 86, 88, false), (110, 7, 1, 227, 248, 231, false), (124, 7, 1, 227, 253, 231, false), (145, 15, 0, 84, 255, 88, false), (150, 64, 0, 84, 151, 88, false), (156, 10, 2, 153, 155, 157, false), (161, 17, 0, 84, 257, 88, true), (210, 25, 1, 227, 259, 231, true), (242, 12, 0, 84, 209, 88, false)]
def zm_text : Nat → String := fun k => match k with
  | 0 => "version is not 0 or 1"
  | 1 => "a name is illegal"
  | 2 => "the log is full"
  | 3 => "there is no such class"
  | 4 => "a class name is not from A to Z"
  | 5 => "a member name is not from a to z"
  | 6 => "there is no such change"
  | 7 => "which is not from 0 to 3"
  | 8 => "the log is empty"
  | 9 => "there is no such change, or none behind it"
  | 10 => "the selection has a bit without a change"
  | _ => "no replay had such a change"
def zm_len : Instr → Nat
  | .bipush _ | .iload _ | .lload _ | .aload _ | .istore _ | .lstore _ | .astore _ | .newarray _ => 2
  | .sipush _ | .iinc _ _ | .ifCond _ _ | .if_icmp _ _ | .goto _ => 3
  | .tableswitch _ _ _ _ => 0
  | _ => 1
def zm_dc (y pc : Nat) (i : Instr) (n : Nat) : Bool := decide (decode (zm_by y) pc = .ok (i, n))
def zm_okI (y : Nat) (q : zm_I) : Bool := match q with
  | (pc, .inl i, pc') => zm_dc y pc i (pc' - pc) && (Nat.beq pc' (pc + zm_len i) || Nat.beq (zm_len i) 0)
  | (pc, .inr (k, idx, a, b), pc') => match k with
    | 0 => zm_dc y pc (.getfield idx) 3 && Nat.beq pc' (pc + 3) && decide ((zm_own y, idx, a, b) ∈ zm_fl) && Nat.blt b (zm_N a) && Nat.blt a 8
    | 1 => zm_dc y pc (.putfield idx) 3 && Nat.beq pc' (pc + 3) && decide ((zm_own y, idx, a, b) ∈ zm_fl) && Nat.blt b (zm_N a) && Nat.blt a 8 && !(zm_T a b).2.2.2
    | 2 => zm_dc y pc (.putfield idx) 3 && Nat.beq pc' (pc + 3) && decide ((zm_own y, idx, a, b) ∈ zm_fl) && Nat.blt b (zm_N a) && Nat.blt a 8 && (zm_T a b).2.2.2 && decide ((zm_md y).1 = "<init>") && decide ((zm_T a b).1 = zm_cn (zm_own y))
    | 3 => zm_dc y pc (.invokestatic idx) 3 && Nat.beq pc' (pc + 3) && decide ((zm_own y, idx, a) ∈ zm_ml) && Nat.beq (zm_kd a) 0
    | 4 => zm_dc y pc (.invokestatic idx) 3 && Nat.beq pc' (pc + 3) && decide ((zm_own y, idx, a) ∈ zm_nl) && Nat.beq (zm_kd a) 0
    | 5 => zm_dc y pc (.invokevirtual idx) 3 && Nat.beq pc' (pc + 3) && decide ((zm_own y, idx, a) ∈ zm_ml) && Nat.beq (zm_kd a) 1 && Nat.blt (zm_own a) 8
    | 6 => zm_dc y pc (.invokespecial idx) 3 && Nat.beq pc' (pc + 3) && decide ((zm_own y, idx, a) ∈ zm_ml) && Nat.beq (zm_kd a) 2
    | 7 => zm_dc y pc (.invokespecial idx) 3 && Nat.beq pc' (pc + 3) && decide ((zm_own y, idx, a) ∈ zm_nl) && Nat.beq (zm_kd a) 2
    | 8 => zm_dc y pc (.invokespecial idx) 3 && Nat.beq pc' (pc + 3) && decide ((zm_own y, idx) ∈ zm_ob)
    | 9 => zm_dc y pc (.new idx) 3 && Nat.beq pc' (pc + 3) && decide ((zm_own y, idx, a) ∈ zm_ck) && Nat.blt a 8
    | 10 => zm_dc y pc (.anewarray idx) 3 && Nat.beq pc' (pc + 3) && decide ((zm_own y, idx, 0) ∈ zm_ck)
    | 11 => zm_dc y pc (.invokestatic idx) 3 && Nat.beq pc' (pc + 3) && decide ((zm_own y, idx) ∈ zm_ac) && Nat.ble 3 (zm_lv y)
    | 12 => match zm_sites[b]? with
      | some (y', p', E, ik, is, ic, wide) => Nat.beq y y' && Nat.beq pc p' && Nat.beq a E && Nat.blt a 3 && Nat.beq (zm_own y) 6 && decide ((6, ik, E) ∈ zm_xk) && Nat.ble 6 (zm_lv y) && Nat.beq (zm_hd y).length 0 && decide ((E, ic) ∈ [(0, 88), (1, 231), (2, 157)]) && zm_dc y pc (.new ik) 3 && zm_dc y (pc + 3) .dup 1 &&
        cond wide (zm_dc y (pc + 4) (.ldc_w is) 3 && zm_dc y (pc + 7) (.invokespecial ic) 3 && zm_dc y (pc + 10) .athrow 1) (zm_dc y (pc + 4) (.ldc is) 2 && zm_dc y (pc + 6) (.invokespecial ic) 3 && zm_dc y (pc + 9) .athrow 1)
      | none => false
    | 13 => zm_dc y pc (.ldc_w idx) 3 && Nat.beq pc' (pc + 3) && decide ((zm_own y, idx, a) ∈ zm_ic)
    | 14 => zm_dc y pc (.ldc2_w idx) 3 && Nat.beq pc' (pc + 3) && decide ((zm_own y, idx, a) ∈ zm_lc)
    | 16 => zm_dc y pc (.invokestatic idx) 3 && Nat.beq pc' (pc + 3) && decide ((zm_own y, idx, a) ∈ zm_mm) && Nat.blt a 2 && Nat.ble 3 (zm_lv y)
    | 15 => zm_dc y pc (.invokestatic idx) 3 && Nat.beq pc' (pc + 3) && decide ((zm_own y, idx, a) ∈ zm_ml) && Nat.beq (zm_kd a) 3
    | _ => false
noncomputable def zm_okC (y : Nat) : Bool := (zm_cd y).all (fun q => q.2.all (zm_okI y))
/-- a method's own facts -/
def zm_okn (y : Nat) : Bool := plainName (zm_nm y).cls && decide ((zm_nm y).cls ≠ "java/lang/invoke/MethodHandle") && decide ((zm_nm y).cls ≠ "java/lang/invoke/VarHandle") && decide ((parseMethodDescriptor (zm_nm y).desc).map (fun d => d.parameters.length) = some (zm_ar y)) && Nat.ble (zm_mx y) 21 && Nat.ble 1 (zm_lv y) && (Nat.beq (zm_kd y) 3 || (Nat.beq (zm_hd y).length 0 && Nat.beq (zm_hh y).length 0)) && (!Nat.beq (zm_kd y) 2 || (decide ((zm_md y).1 = "<init>") && decide (zm_rt y = none)))
/-- the handlers -/
def zm_okh1 (y : Nat) (q : zm_Hd × (Nat × Nat × Nat × Nat)) : Bool := match q with
  | ((f, t, x, j, tg, sl, sh), (f', t', tg', ct)) => Nat.beq f f' && Nat.beq t t' && Nat.beq tg tg' && Nat.blt x 3 && Nat.blt j 6 && Nat.blt sl (zm_mx y) && !Nat.beq ct 0 && decide ((zm_own y, ct, x) ∈ zm_xk) && cond sh (zm_dc y tg (.astore_n (Fin.ofNat 4 sl)) 1 && Nat.blt sl 4 && zm_dc y (tg + 1) (.iconst (j : Int)) 1 && zm_dc y (tg + 2) .ireturn 1) (zm_dc y tg (.astore sl) 2 && zm_dc y (tg + 2) (.iconst (j : Int)) 1 && zm_dc y (tg + 3) .ireturn 1)
def zm_okh (y : Nat) : Bool := !Nat.beq (zm_kd y) 3 || ((zm_hd y).zip (zm_hh y)).all (zm_okh1 y) && Nat.beq (zm_hd y).length (zm_hh y).length && decide (zm_rt y = some .int)
noncomputable def zm_oka (y : Nat) : Bool := zm_okC y && zm_okn y && zm_okh y
theorem zm_ka_0 : zm_oka 0 = true := by decide +kernel
theorem zm_ka_1 : zm_oka 1 = true := by decide +kernel
theorem zm_ka_2 : zm_oka 2 = true := by decide +kernel
theorem zm_ka_3 : zm_oka 3 = true := by decide +kernel
theorem zm_ka_4 : zm_oka 4 = true := by decide +kernel
theorem zm_ka_5 : zm_oka 5 = true := by decide +kernel
theorem zm_ka_6 : zm_oka 6 = true := by decide +kernel
theorem zm_ka_7 : zm_oka 7 = true := by decide +kernel
theorem zm_ka_8 : zm_oka 8 = true := by decide +kernel
theorem zm_ka_9 : zm_oka 9 = true := by decide +kernel
theorem zm_ka_10 : zm_oka 10 = true := by decide +kernel
theorem zm_ka_11 : zm_oka 11 = true := by decide +kernel
theorem zm_ka_12 : zm_oka 12 = true := by decide +kernel
theorem zm_ka_13 : zm_oka 13 = true := by decide +kernel
theorem zm_ka_14 : zm_oka 14 = true := by decide +kernel
theorem zm_ka_15 : zm_oka 15 = true := by decide +kernel
theorem zm_ka_16 : zm_oka 16 = true := by decide +kernel
theorem zm_ka_17 : zm_oka 17 = true := by decide +kernel
theorem zm_ka_18 : zm_oka 18 = true := by decide +kernel
theorem zm_ka_19 : zm_oka 19 = true := by decide +kernel
theorem zm_ka_20 : zm_oka 20 = true := by decide +kernel
theorem zm_ka_21 : zm_oka 21 = true := by decide +kernel
theorem zm_ka_22 : zm_oka 22 = true := by decide +kernel
theorem zm_ka_23 : zm_oka 23 = true := by decide +kernel
theorem zm_ka_24 : zm_oka 24 = true := by decide +kernel
theorem zm_ka_25 : zm_oka 25 = true := by decide +kernel
theorem zm_ka_26 : zm_oka 26 = true := by decide +kernel
theorem zm_ka_27 : zm_oka 27 = true := by decide +kernel
theorem zm_ka_28 : zm_oka 28 = true := by decide +kernel
theorem zm_ka_29 : zm_oka 29 = true := by decide +kernel
theorem zm_ka_30 : zm_oka 30 = true := by decide +kernel
theorem zm_ka_31 : zm_oka 31 = true := by decide +kernel
theorem zm_ka_32 : zm_oka 32 = true := by decide +kernel
theorem zm_ka_33 : zm_oka 33 = true := by decide +kernel
theorem zm_ka_34 : zm_oka 34 = true := by decide +kernel
theorem zm_ka_35 : zm_oka 35 = true := by decide +kernel
theorem zm_ka_36 : zm_oka 36 = true := by decide +kernel
theorem zm_ka_37 : zm_oka 37 = true := by decide +kernel
theorem zm_ka_38 : zm_oka 38 = true := by decide +kernel
theorem zm_ka_39 : zm_oka 39 = true := by decide +kernel
theorem zm_ka_40 : zm_oka 40 = true := by decide +kernel
theorem zm_ka_41 : zm_oka 41 = true := by decide +kernel
theorem zm_ka_42 : zm_oka 42 = true := by decide +kernel
theorem zm_ka_43 : zm_oka 43 = true := by decide +kernel
theorem zm_ka_44 : zm_oka 44 = true := by decide +kernel
theorem zm_ka_45 : zm_oka 45 = true := by decide +kernel
theorem zm_ka_46 : zm_oka 46 = true := by decide +kernel
theorem zm_ka_47 : zm_oka 47 = true := by decide +kernel
theorem zm_ka_48 : zm_oka 48 = true := by decide +kernel
theorem zm_ka_49 : zm_oka 49 = true := by decide +kernel
theorem zm_ka_50 : zm_oka 50 = true := by decide +kernel
theorem zm_ka_51 : zm_oka 51 = true := by decide +kernel
theorem zm_ka_52 : zm_oka 52 = true := by decide +kernel
theorem zm_ka_53 : zm_oka 53 = true := by decide +kernel
theorem zm_ka_54 : zm_oka 54 = true := by decide +kernel
theorem zm_ka_55 : zm_oka 55 = true := by decide +kernel
theorem zm_ka_56 : zm_oka 56 = true := by decide +kernel
theorem zm_ka_57 : zm_oka 57 = true := by decide +kernel
theorem zm_ka_58 : zm_oka 58 = true := by decide +kernel
theorem zm_ka_59 : zm_oka 59 = true := by decide +kernel
theorem zm_ka_60 : zm_oka 60 = true := by decide +kernel
theorem zm_ka_61 : zm_oka 61 = true := by decide +kernel
theorem zm_ka_62 : zm_oka 62 = true := by decide +kernel
theorem zm_ka_63 : zm_oka 63 = true := by decide +kernel
theorem zm_ka_64 : zm_oka 64 = true := by decide +kernel
theorem zm_ka_65 : zm_oka 65 = true := by decide +kernel
theorem zm_ka_66 : zm_oka 66 = true := by decide +kernel
theorem zm_ka_67 : zm_oka 67 = true := by decide +kernel
theorem zm_ka_68 : zm_oka 68 = true := by decide +kernel
theorem zm_ka_69 : zm_oka 69 = true := by decide +kernel
theorem zm_ka_70 : zm_oka 70 = true := by decide +kernel
theorem zm_ka_71 : zm_oka 71 = true := by decide +kernel
theorem zm_ka_72 : zm_oka 72 = true := by decide +kernel
theorem zm_ka_73 : zm_oka 73 = true := by decide +kernel
theorem zm_ka_74 : zm_oka 74 = true := by decide +kernel
theorem zm_ka_75 : zm_oka 75 = true := by decide +kernel
theorem zm_ka_76 : zm_oka 76 = true := by decide +kernel
theorem zm_ka_77 : zm_oka 77 = true := by decide +kernel
theorem zm_ka_78 : zm_oka 78 = true := by decide +kernel
theorem zm_ka_79 : zm_oka 79 = true := by decide +kernel
theorem zm_ka_80 : zm_oka 80 = true := by decide +kernel
theorem zm_ka_81 : zm_oka 81 = true := by decide +kernel
theorem zm_ka_82 : zm_oka 82 = true := by decide +kernel
theorem zm_ka_83 : zm_oka 83 = true := by decide +kernel
theorem zm_ka_84 : zm_oka 84 = true := by decide +kernel
theorem zm_ka_85 : zm_oka 85 = true := by decide +kernel
theorem zm_ka_86 : zm_oka 86 = true := by decide +kernel
theorem zm_ka_87 : zm_oka 87 = true := by decide +kernel
theorem zm_ka_88 : zm_oka 88 = true := by decide +kernel
theorem zm_ka_89 : zm_oka 89 = true := by decide +kernel
theorem zm_ka_90 : zm_oka 90 = true := by decide +kernel
theorem zm_ka_91 : zm_oka 91 = true := by decide +kernel
theorem zm_ka_92 : zm_oka 92 = true := by decide +kernel
theorem zm_ka_93 : zm_oka 93 = true := by decide +kernel
theorem zm_ka_94 : zm_oka 94 = true := by decide +kernel
theorem zm_ka_95 : zm_oka 95 = true := by decide +kernel
theorem zm_ka_96 : zm_oka 96 = true := by decide +kernel
theorem zm_ka_97 : zm_oka 97 = true := by decide +kernel
theorem zm_ka_98 : zm_oka 98 = true := by decide +kernel
theorem zm_ka_99 : zm_oka 99 = true := by decide +kernel
theorem zm_ka_100 : zm_oka 100 = true := by decide +kernel
theorem zm_ka_101 : zm_oka 101 = true := by decide +kernel
theorem zm_ka_102 : zm_oka 102 = true := by decide +kernel
theorem zm_ka_103 : zm_oka 103 = true := by decide +kernel
theorem zm_ka_104 : zm_oka 104 = true := by decide +kernel
theorem zm_ka_105 : zm_oka 105 = true := by decide +kernel
theorem zm_ka_106 : zm_oka 106 = true := by decide +kernel
theorem zm_ka_107 : zm_oka 107 = true := by decide +kernel
theorem zm_ka_108 : zm_oka 108 = true := by decide +kernel
theorem zm_ka_109 : zm_oka 109 = true := by decide +kernel
theorem zm_ka_110 : zm_oka 110 = true := by decide +kernel
theorem zm_ka_111 : zm_oka 111 = true := by decide +kernel
theorem zm_ka_112 : zm_oka 112 = true := by decide +kernel
theorem zm_ka_113 : zm_oka 113 = true := by decide +kernel
theorem zm_ka_114 : zm_oka 114 = true := by decide +kernel
theorem zm_ka_115 : zm_oka 115 = true := by decide +kernel
theorem zm_ka_116 : zm_oka 116 = true := by decide +kernel
theorem zm_ka_117 : zm_oka 117 = true := by decide +kernel
theorem zm_ka_118 : zm_oka 118 = true := by decide +kernel
theorem zm_ka_119 : zm_oka 119 = true := by decide +kernel
theorem zm_ka_120 : zm_oka 120 = true := by decide +kernel
theorem zm_ka_121 : zm_oka 121 = true := by decide +kernel
theorem zm_ka_122 : zm_oka 122 = true := by decide +kernel
theorem zm_ka_123 : zm_oka 123 = true := by decide +kernel
theorem zm_ka_124 : zm_oka 124 = true := by decide +kernel
theorem zm_ka_125 : zm_oka 125 = true := by decide +kernel
theorem zm_ka_126 : zm_oka 126 = true := by decide +kernel
theorem zm_ka_127 : zm_oka 127 = true := by decide +kernel
theorem zm_ka_128 : zm_oka 128 = true := by decide +kernel
theorem zm_ka_129 : zm_oka 129 = true := by decide +kernel
theorem zm_ka_130 : zm_oka 130 = true := by decide +kernel
theorem zm_ka_131 : zm_oka 131 = true := by decide +kernel
theorem zm_ka_132 : zm_oka 132 = true := by decide +kernel
theorem zm_ka_133 : zm_oka 133 = true := by decide +kernel
theorem zm_ka_134 : zm_oka 134 = true := by decide +kernel
theorem zm_ka_135 : zm_oka 135 = true := by decide +kernel
theorem zm_ka_136 : zm_oka 136 = true := by decide +kernel
theorem zm_ka_137 : zm_oka 137 = true := by decide +kernel
theorem zm_ka_138 : zm_oka 138 = true := by decide +kernel
theorem zm_ka_139 : zm_oka 139 = true := by decide +kernel
theorem zm_ka_140 : zm_oka 140 = true := by decide +kernel
theorem zm_ka_141 : zm_oka 141 = true := by decide +kernel
theorem zm_ka_142 : zm_oka 142 = true := by decide +kernel
theorem zm_ka_143 : zm_oka 143 = true := by decide +kernel
theorem zm_ka_144 : zm_oka 144 = true := by decide +kernel
theorem zm_ka_145 : zm_oka 145 = true := by decide +kernel
theorem zm_ka_146 : zm_oka 146 = true := by decide +kernel
theorem zm_ka_147 : zm_oka 147 = true := by decide +kernel
theorem zm_ka_148 : zm_oka 148 = true := by decide +kernel
theorem zm_ka_149 : zm_oka 149 = true := by decide +kernel
theorem zm_ka_150 : zm_oka 150 = true := by decide +kernel
theorem zm_ka_151 : zm_oka 151 = true := by decide +kernel
theorem zm_ka_152 : zm_oka 152 = true := by decide +kernel
theorem zm_ka_153 : zm_oka 153 = true := by decide +kernel
theorem zm_ka_154 : zm_oka 154 = true := by decide +kernel
theorem zm_ka_155 : zm_oka 155 = true := by decide +kernel
theorem zm_ka_156 : zm_oka 156 = true := by decide +kernel
theorem zm_ka_157 : zm_oka 157 = true := by decide +kernel
theorem zm_ka_158 : zm_oka 158 = true := by decide +kernel
theorem zm_ka_159 : zm_oka 159 = true := by decide +kernel
theorem zm_ka_160 : zm_oka 160 = true := by decide +kernel
theorem zm_ka_161 : zm_oka 161 = true := by decide +kernel
theorem zm_ka_162 : zm_oka 162 = true := by decide +kernel
theorem zm_ka_163 : zm_oka 163 = true := by decide +kernel
theorem zm_ka_164 : zm_oka 164 = true := by decide +kernel
theorem zm_ka_165 : zm_oka 165 = true := by decide +kernel
theorem zm_ka_166 : zm_oka 166 = true := by decide +kernel
theorem zm_ka_167 : zm_oka 167 = true := by decide +kernel
theorem zm_ka_168 : zm_oka 168 = true := by decide +kernel
theorem zm_ka_169 : zm_oka 169 = true := by decide +kernel
theorem zm_ka_170 : zm_oka 170 = true := by decide +kernel
theorem zm_ka_171 : zm_oka 171 = true := by decide +kernel
theorem zm_ka_172 : zm_oka 172 = true := by decide +kernel
theorem zm_ka_173 : zm_oka 173 = true := by decide +kernel
theorem zm_ka_174 : zm_oka 174 = true := by decide +kernel
theorem zm_ka_175 : zm_oka 175 = true := by decide +kernel
theorem zm_ka_176 : zm_oka 176 = true := by decide +kernel
theorem zm_ka_177 : zm_oka 177 = true := by decide +kernel
theorem zm_ka_178 : zm_oka 178 = true := by decide +kernel
theorem zm_ka_179 : zm_oka 179 = true := by decide +kernel
theorem zm_ka_180 : zm_oka 180 = true := by decide +kernel
theorem zm_ka_181 : zm_oka 181 = true := by decide +kernel
theorem zm_ka_182 : zm_oka 182 = true := by decide +kernel
theorem zm_ka_183 : zm_oka 183 = true := by decide +kernel
theorem zm_ka_184 : zm_oka 184 = true := by decide +kernel
theorem zm_ka_185 : zm_oka 185 = true := by decide +kernel
theorem zm_ka_186 : zm_oka 186 = true := by decide +kernel
theorem zm_ka_187 : zm_oka 187 = true := by decide +kernel
theorem zm_ka_188 : zm_oka 188 = true := by decide +kernel
theorem zm_ka_189 : zm_oka 189 = true := by decide +kernel
theorem zm_ka_190 : zm_oka 190 = true := by decide +kernel
theorem zm_ka_191 : zm_oka 191 = true := by decide +kernel
theorem zm_ka_192 : zm_oka 192 = true := by decide +kernel
theorem zm_ka_193 : zm_oka 193 = true := by decide +kernel
theorem zm_ka_194 : zm_oka 194 = true := by decide +kernel
theorem zm_ka_195 : zm_oka 195 = true := by decide +kernel
theorem zm_ka_196 : zm_oka 196 = true := by decide +kernel
theorem zm_ka_197 : zm_oka 197 = true := by decide +kernel
theorem zm_ka_198 : zm_oka 198 = true := by decide +kernel
theorem zm_ka_199 : zm_oka 199 = true := by decide +kernel
theorem zm_ka_200 : zm_oka 200 = true := by decide +kernel
theorem zm_ka_201 : zm_oka 201 = true := by decide +kernel
theorem zm_ka_202 : zm_oka 202 = true := by decide +kernel
theorem zm_ka_203 : zm_oka 203 = true := by decide +kernel
theorem zm_ka_204 : zm_oka 204 = true := by decide +kernel
theorem zm_ka_205 : zm_oka 205 = true := by decide +kernel
theorem zm_ka_206 : zm_oka 206 = true := by decide +kernel
theorem zm_ka_207 : zm_oka 207 = true := by decide +kernel
theorem zm_ka_208 : zm_oka 208 = true := by decide +kernel
theorem zm_ka_209 : zm_oka 209 = true := by decide +kernel
theorem zm_ka_210 : zm_oka 210 = true := by decide +kernel
theorem zm_ka_211 : zm_oka 211 = true := by decide +kernel
theorem zm_ka_212 : zm_oka 212 = true := by decide +kernel
theorem zm_ka_213 : zm_oka 213 = true := by decide +kernel
theorem zm_ka_214 : zm_oka 214 = true := by decide +kernel
theorem zm_ka_215 : zm_oka 215 = true := by decide +kernel
theorem zm_ka_216 : zm_oka 216 = true := by decide +kernel
theorem zm_ka_217 : zm_oka 217 = true := by decide +kernel
theorem zm_ka_218 : zm_oka 218 = true := by decide +kernel
theorem zm_ka_219 : zm_oka 219 = true := by decide +kernel
theorem zm_ka_220 : zm_oka 220 = true := by decide +kernel
theorem zm_ka_221 : zm_oka 221 = true := by decide +kernel
theorem zm_ka_222 : zm_oka 222 = true := by decide +kernel
theorem zm_ka_223 : zm_oka 223 = true := by decide +kernel
theorem zm_ka_224 : zm_oka 224 = true := by decide +kernel
theorem zm_ka_225 : zm_oka 225 = true := by decide +kernel
theorem zm_ka_226 : zm_oka 226 = true := by decide +kernel
theorem zm_ka_227 : zm_oka 227 = true := by decide +kernel
theorem zm_ka_228 : zm_oka 228 = true := by decide +kernel
theorem zm_ka_229 : zm_oka 229 = true := by decide +kernel
theorem zm_ka_230 : zm_oka 230 = true := by decide +kernel
theorem zm_ka_231 : zm_oka 231 = true := by decide +kernel
theorem zm_ka_232 : zm_oka 232 = true := by decide +kernel
theorem zm_ka_233 : zm_oka 233 = true := by decide +kernel
theorem zm_ka_234 : zm_oka 234 = true := by decide +kernel
theorem zm_ka_235 : zm_oka 235 = true := by decide +kernel
theorem zm_ka_236 : zm_oka 236 = true := by decide +kernel
theorem zm_ka_237 : zm_oka 237 = true := by decide +kernel
theorem zm_ka_238 : zm_oka 238 = true := by decide +kernel
theorem zm_ka_239 : zm_oka 239 = true := by decide +kernel
theorem zm_ka_240 : zm_oka 240 = true := by decide +kernel
theorem zm_ka_241 : zm_oka 241 = true := by decide +kernel
theorem zm_ka_242 : zm_oka 242 = true := by decide +kernel
theorem zm_ka_243 : zm_oka 243 = true := by decide +kernel
theorem zm_ka_244 : zm_oka 244 = true := by decide +kernel
theorem zm_ka_245 : zm_oka 245 = true := by decide +kernel
theorem zm_ka_246 : zm_oka 246 = true := by decide +kernel
theorem zm_ka_247 : zm_oka 247 = true := by decide +kernel
theorem zm_ka_248 : zm_oka 248 = true := by decide +kernel
theorem zm_ka_249 : zm_oka 249 = true := by decide +kernel
theorem zm_kag_0 : ∀ y ∈ [0, 1, 2, 3, 4, 5, 6, 7, 8, 9, 10, 11, 12, 13, 14, 15], zm_oka y = true := List.forall_mem_cons.mpr ⟨zm_ka_0, List.forall_mem_cons.mpr ⟨zm_ka_1, List.forall_mem_cons.mpr ⟨zm_ka_2, List.forall_mem_cons.mpr ⟨zm_ka_3, List.forall_mem_cons.mpr ⟨zm_ka_4, List.forall_mem_cons.mpr ⟨zm_ka_5, List.forall_mem_cons.mpr ⟨zm_ka_6, List.forall_mem_cons.mpr ⟨zm_ka_7, List.forall_mem_cons.mpr ⟨zm_ka_8, List.forall_mem_cons.mpr ⟨zm_ka_9, List.forall_mem_cons.mpr ⟨zm_ka_10, List.forall_mem_cons.mpr ⟨zm_ka_11, List.forall_mem_cons.mpr ⟨zm_ka_12, List.forall_mem_cons.mpr ⟨zm_ka_13, List.forall_mem_cons.mpr ⟨zm_ka_14, List.forall_mem_cons.mpr ⟨zm_ka_15, fun _ h => absurd h List.not_mem_nil⟩⟩⟩⟩⟩⟩⟩⟩⟩⟩⟩⟩⟩⟩⟩⟩
theorem zm_kag_1 : ∀ y ∈ [16, 17, 18, 19, 20, 21, 22, 23, 24, 25, 26, 27, 28, 29, 30, 31], zm_oka y = true := List.forall_mem_cons.mpr ⟨zm_ka_16, List.forall_mem_cons.mpr ⟨zm_ka_17, List.forall_mem_cons.mpr ⟨zm_ka_18, List.forall_mem_cons.mpr ⟨zm_ka_19, List.forall_mem_cons.mpr ⟨zm_ka_20, List.forall_mem_cons.mpr ⟨zm_ka_21, List.forall_mem_cons.mpr ⟨zm_ka_22, List.forall_mem_cons.mpr ⟨zm_ka_23, List.forall_mem_cons.mpr ⟨zm_ka_24, List.forall_mem_cons.mpr ⟨zm_ka_25, List.forall_mem_cons.mpr ⟨zm_ka_26, List.forall_mem_cons.mpr ⟨zm_ka_27, List.forall_mem_cons.mpr ⟨zm_ka_28, List.forall_mem_cons.mpr ⟨zm_ka_29, List.forall_mem_cons.mpr ⟨zm_ka_30, List.forall_mem_cons.mpr ⟨zm_ka_31, fun _ h => absurd h List.not_mem_nil⟩⟩⟩⟩⟩⟩⟩⟩⟩⟩⟩⟩⟩⟩⟩⟩
theorem zm_kag_2 : ∀ y ∈ [32, 33, 34, 35, 36, 37, 38, 39, 40, 41, 42, 43, 44, 45, 46, 47], zm_oka y = true := List.forall_mem_cons.mpr ⟨zm_ka_32, List.forall_mem_cons.mpr ⟨zm_ka_33, List.forall_mem_cons.mpr ⟨zm_ka_34, List.forall_mem_cons.mpr ⟨zm_ka_35, List.forall_mem_cons.mpr ⟨zm_ka_36, List.forall_mem_cons.mpr ⟨zm_ka_37, List.forall_mem_cons.mpr ⟨zm_ka_38, List.forall_mem_cons.mpr ⟨zm_ka_39, List.forall_mem_cons.mpr ⟨zm_ka_40, List.forall_mem_cons.mpr ⟨zm_ka_41, List.forall_mem_cons.mpr ⟨zm_ka_42, List.forall_mem_cons.mpr ⟨zm_ka_43, List.forall_mem_cons.mpr ⟨zm_ka_44, List.forall_mem_cons.mpr ⟨zm_ka_45, List.forall_mem_cons.mpr ⟨zm_ka_46, List.forall_mem_cons.mpr ⟨zm_ka_47, fun _ h => absurd h List.not_mem_nil⟩⟩⟩⟩⟩⟩⟩⟩⟩⟩⟩⟩⟩⟩⟩⟩
theorem zm_kag_3 : ∀ y ∈ [48, 49, 50, 51, 52, 53, 54, 55, 56, 57, 58, 59, 60, 61, 62, 63], zm_oka y = true := List.forall_mem_cons.mpr ⟨zm_ka_48, List.forall_mem_cons.mpr ⟨zm_ka_49, List.forall_mem_cons.mpr ⟨zm_ka_50, List.forall_mem_cons.mpr ⟨zm_ka_51, List.forall_mem_cons.mpr ⟨zm_ka_52, List.forall_mem_cons.mpr ⟨zm_ka_53, List.forall_mem_cons.mpr ⟨zm_ka_54, List.forall_mem_cons.mpr ⟨zm_ka_55, List.forall_mem_cons.mpr ⟨zm_ka_56, List.forall_mem_cons.mpr ⟨zm_ka_57, List.forall_mem_cons.mpr ⟨zm_ka_58, List.forall_mem_cons.mpr ⟨zm_ka_59, List.forall_mem_cons.mpr ⟨zm_ka_60, List.forall_mem_cons.mpr ⟨zm_ka_61, List.forall_mem_cons.mpr ⟨zm_ka_62, List.forall_mem_cons.mpr ⟨zm_ka_63, fun _ h => absurd h List.not_mem_nil⟩⟩⟩⟩⟩⟩⟩⟩⟩⟩⟩⟩⟩⟩⟩⟩
theorem zm_kag_4 : ∀ y ∈ [64, 65, 66, 67, 68, 69, 70, 71, 72, 73, 74, 75, 76, 77, 78, 79], zm_oka y = true := List.forall_mem_cons.mpr ⟨zm_ka_64, List.forall_mem_cons.mpr ⟨zm_ka_65, List.forall_mem_cons.mpr ⟨zm_ka_66, List.forall_mem_cons.mpr ⟨zm_ka_67, List.forall_mem_cons.mpr ⟨zm_ka_68, List.forall_mem_cons.mpr ⟨zm_ka_69, List.forall_mem_cons.mpr ⟨zm_ka_70, List.forall_mem_cons.mpr ⟨zm_ka_71, List.forall_mem_cons.mpr ⟨zm_ka_72, List.forall_mem_cons.mpr ⟨zm_ka_73, List.forall_mem_cons.mpr ⟨zm_ka_74, List.forall_mem_cons.mpr ⟨zm_ka_75, List.forall_mem_cons.mpr ⟨zm_ka_76, List.forall_mem_cons.mpr ⟨zm_ka_77, List.forall_mem_cons.mpr ⟨zm_ka_78, List.forall_mem_cons.mpr ⟨zm_ka_79, fun _ h => absurd h List.not_mem_nil⟩⟩⟩⟩⟩⟩⟩⟩⟩⟩⟩⟩⟩⟩⟩⟩
theorem zm_kag_5 : ∀ y ∈ [80, 81, 82, 83, 84, 85, 86, 87, 88, 89, 90, 91, 92, 93, 94, 95], zm_oka y = true := List.forall_mem_cons.mpr ⟨zm_ka_80, List.forall_mem_cons.mpr ⟨zm_ka_81, List.forall_mem_cons.mpr ⟨zm_ka_82, List.forall_mem_cons.mpr ⟨zm_ka_83, List.forall_mem_cons.mpr ⟨zm_ka_84, List.forall_mem_cons.mpr ⟨zm_ka_85, List.forall_mem_cons.mpr ⟨zm_ka_86, List.forall_mem_cons.mpr ⟨zm_ka_87, List.forall_mem_cons.mpr ⟨zm_ka_88, List.forall_mem_cons.mpr ⟨zm_ka_89, List.forall_mem_cons.mpr ⟨zm_ka_90, List.forall_mem_cons.mpr ⟨zm_ka_91, List.forall_mem_cons.mpr ⟨zm_ka_92, List.forall_mem_cons.mpr ⟨zm_ka_93, List.forall_mem_cons.mpr ⟨zm_ka_94, List.forall_mem_cons.mpr ⟨zm_ka_95, fun _ h => absurd h List.not_mem_nil⟩⟩⟩⟩⟩⟩⟩⟩⟩⟩⟩⟩⟩⟩⟩⟩
theorem zm_kag_6 : ∀ y ∈ [96, 97, 98, 99, 100, 101, 102, 103, 104, 105, 106, 107, 108, 109, 110, 111], zm_oka y = true := List.forall_mem_cons.mpr ⟨zm_ka_96, List.forall_mem_cons.mpr ⟨zm_ka_97, List.forall_mem_cons.mpr ⟨zm_ka_98, List.forall_mem_cons.mpr ⟨zm_ka_99, List.forall_mem_cons.mpr ⟨zm_ka_100, List.forall_mem_cons.mpr ⟨zm_ka_101, List.forall_mem_cons.mpr ⟨zm_ka_102, List.forall_mem_cons.mpr ⟨zm_ka_103, List.forall_mem_cons.mpr ⟨zm_ka_104, List.forall_mem_cons.mpr ⟨zm_ka_105, List.forall_mem_cons.mpr ⟨zm_ka_106, List.forall_mem_cons.mpr ⟨zm_ka_107, List.forall_mem_cons.mpr ⟨zm_ka_108, List.forall_mem_cons.mpr ⟨zm_ka_109, List.forall_mem_cons.mpr ⟨zm_ka_110, List.forall_mem_cons.mpr ⟨zm_ka_111, fun _ h => absurd h List.not_mem_nil⟩⟩⟩⟩⟩⟩⟩⟩⟩⟩⟩⟩⟩⟩⟩⟩
theorem zm_kag_7 : ∀ y ∈ [112, 113, 114, 115, 116, 117, 118, 119, 120, 121, 122, 123, 124, 125, 126, 127], zm_oka y = true := List.forall_mem_cons.mpr ⟨zm_ka_112, List.forall_mem_cons.mpr ⟨zm_ka_113, List.forall_mem_cons.mpr ⟨zm_ka_114, List.forall_mem_cons.mpr ⟨zm_ka_115, List.forall_mem_cons.mpr ⟨zm_ka_116, List.forall_mem_cons.mpr ⟨zm_ka_117, List.forall_mem_cons.mpr ⟨zm_ka_118, List.forall_mem_cons.mpr ⟨zm_ka_119, List.forall_mem_cons.mpr ⟨zm_ka_120, List.forall_mem_cons.mpr ⟨zm_ka_121, List.forall_mem_cons.mpr ⟨zm_ka_122, List.forall_mem_cons.mpr ⟨zm_ka_123, List.forall_mem_cons.mpr ⟨zm_ka_124, List.forall_mem_cons.mpr ⟨zm_ka_125, List.forall_mem_cons.mpr ⟨zm_ka_126, List.forall_mem_cons.mpr ⟨zm_ka_127, fun _ h => absurd h List.not_mem_nil⟩⟩⟩⟩⟩⟩⟩⟩⟩⟩⟩⟩⟩⟩⟩⟩
theorem zm_kag_8 : ∀ y ∈ [128, 129, 130, 131, 132, 133, 134, 135, 136, 137, 138, 139, 140, 141, 142, 143], zm_oka y = true := List.forall_mem_cons.mpr ⟨zm_ka_128, List.forall_mem_cons.mpr ⟨zm_ka_129, List.forall_mem_cons.mpr ⟨zm_ka_130, List.forall_mem_cons.mpr ⟨zm_ka_131, List.forall_mem_cons.mpr ⟨zm_ka_132, List.forall_mem_cons.mpr ⟨zm_ka_133, List.forall_mem_cons.mpr ⟨zm_ka_134, List.forall_mem_cons.mpr ⟨zm_ka_135, List.forall_mem_cons.mpr ⟨zm_ka_136, List.forall_mem_cons.mpr ⟨zm_ka_137, List.forall_mem_cons.mpr ⟨zm_ka_138, List.forall_mem_cons.mpr ⟨zm_ka_139, List.forall_mem_cons.mpr ⟨zm_ka_140, List.forall_mem_cons.mpr ⟨zm_ka_141, List.forall_mem_cons.mpr ⟨zm_ka_142, List.forall_mem_cons.mpr ⟨zm_ka_143, fun _ h => absurd h List.not_mem_nil⟩⟩⟩⟩⟩⟩⟩⟩⟩⟩⟩⟩⟩⟩⟩⟩
theorem zm_kag_9 : ∀ y ∈ [144, 145, 146, 147, 148, 149, 150, 151, 152, 153, 154, 155, 156, 157, 158, 159], zm_oka y = true := List.forall_mem_cons.mpr ⟨zm_ka_144, List.forall_mem_cons.mpr ⟨zm_ka_145, List.forall_mem_cons.mpr ⟨zm_ka_146, List.forall_mem_cons.mpr ⟨zm_ka_147, List.forall_mem_cons.mpr ⟨zm_ka_148, List.forall_mem_cons.mpr ⟨zm_ka_149, List.forall_mem_cons.mpr ⟨zm_ka_150, List.forall_mem_cons.mpr ⟨zm_ka_151, List.forall_mem_cons.mpr ⟨zm_ka_152, List.forall_mem_cons.mpr ⟨zm_ka_153, List.forall_mem_cons.mpr ⟨zm_ka_154, List.forall_mem_cons.mpr ⟨zm_ka_155, List.forall_mem_cons.mpr ⟨zm_ka_156, List.forall_mem_cons.mpr ⟨zm_ka_157, List.forall_mem_cons.mpr ⟨zm_ka_158, List.forall_mem_cons.mpr ⟨zm_ka_159, fun _ h => absurd h List.not_mem_nil⟩⟩⟩⟩⟩⟩⟩⟩⟩⟩⟩⟩⟩⟩⟩⟩
theorem zm_kag_10 : ∀ y ∈ [160, 161, 162, 163, 164, 165, 166, 167, 168, 169, 170, 171, 172, 173, 174, 175], zm_oka y = true := List.forall_mem_cons.mpr ⟨zm_ka_160, List.forall_mem_cons.mpr ⟨zm_ka_161, List.forall_mem_cons.mpr ⟨zm_ka_162, List.forall_mem_cons.mpr ⟨zm_ka_163, List.forall_mem_cons.mpr ⟨zm_ka_164, List.forall_mem_cons.mpr ⟨zm_ka_165, List.forall_mem_cons.mpr ⟨zm_ka_166, List.forall_mem_cons.mpr ⟨zm_ka_167, List.forall_mem_cons.mpr ⟨zm_ka_168, List.forall_mem_cons.mpr ⟨zm_ka_169, List.forall_mem_cons.mpr ⟨zm_ka_170, List.forall_mem_cons.mpr ⟨zm_ka_171, List.forall_mem_cons.mpr ⟨zm_ka_172, List.forall_mem_cons.mpr ⟨zm_ka_173, List.forall_mem_cons.mpr ⟨zm_ka_174, List.forall_mem_cons.mpr ⟨zm_ka_175, fun _ h => absurd h List.not_mem_nil⟩⟩⟩⟩⟩⟩⟩⟩⟩⟩⟩⟩⟩⟩⟩⟩
theorem zm_kag_11 : ∀ y ∈ [176, 177, 178, 179, 180, 181, 182, 183, 184, 185, 186, 187, 188, 189, 190, 191], zm_oka y = true := List.forall_mem_cons.mpr ⟨zm_ka_176, List.forall_mem_cons.mpr ⟨zm_ka_177, List.forall_mem_cons.mpr ⟨zm_ka_178, List.forall_mem_cons.mpr ⟨zm_ka_179, List.forall_mem_cons.mpr ⟨zm_ka_180, List.forall_mem_cons.mpr ⟨zm_ka_181, List.forall_mem_cons.mpr ⟨zm_ka_182, List.forall_mem_cons.mpr ⟨zm_ka_183, List.forall_mem_cons.mpr ⟨zm_ka_184, List.forall_mem_cons.mpr ⟨zm_ka_185, List.forall_mem_cons.mpr ⟨zm_ka_186, List.forall_mem_cons.mpr ⟨zm_ka_187, List.forall_mem_cons.mpr ⟨zm_ka_188, List.forall_mem_cons.mpr ⟨zm_ka_189, List.forall_mem_cons.mpr ⟨zm_ka_190, List.forall_mem_cons.mpr ⟨zm_ka_191, fun _ h => absurd h List.not_mem_nil⟩⟩⟩⟩⟩⟩⟩⟩⟩⟩⟩⟩⟩⟩⟩⟩
theorem zm_kag_12 : ∀ y ∈ [192, 193, 194, 195, 196, 197, 198, 199, 200, 201, 202, 203, 204, 205, 206, 207], zm_oka y = true := List.forall_mem_cons.mpr ⟨zm_ka_192, List.forall_mem_cons.mpr ⟨zm_ka_193, List.forall_mem_cons.mpr ⟨zm_ka_194, List.forall_mem_cons.mpr ⟨zm_ka_195, List.forall_mem_cons.mpr ⟨zm_ka_196, List.forall_mem_cons.mpr ⟨zm_ka_197, List.forall_mem_cons.mpr ⟨zm_ka_198, List.forall_mem_cons.mpr ⟨zm_ka_199, List.forall_mem_cons.mpr ⟨zm_ka_200, List.forall_mem_cons.mpr ⟨zm_ka_201, List.forall_mem_cons.mpr ⟨zm_ka_202, List.forall_mem_cons.mpr ⟨zm_ka_203, List.forall_mem_cons.mpr ⟨zm_ka_204, List.forall_mem_cons.mpr ⟨zm_ka_205, List.forall_mem_cons.mpr ⟨zm_ka_206, List.forall_mem_cons.mpr ⟨zm_ka_207, fun _ h => absurd h List.not_mem_nil⟩⟩⟩⟩⟩⟩⟩⟩⟩⟩⟩⟩⟩⟩⟩⟩
theorem zm_kag_13 : ∀ y ∈ [208, 209, 210, 211, 212, 213, 214, 215, 216, 217, 218, 219, 220, 221, 222, 223], zm_oka y = true := List.forall_mem_cons.mpr ⟨zm_ka_208, List.forall_mem_cons.mpr ⟨zm_ka_209, List.forall_mem_cons.mpr ⟨zm_ka_210, List.forall_mem_cons.mpr ⟨zm_ka_211, List.forall_mem_cons.mpr ⟨zm_ka_212, List.forall_mem_cons.mpr ⟨zm_ka_213, List.forall_mem_cons.mpr ⟨zm_ka_214, List.forall_mem_cons.mpr ⟨zm_ka_215, List.forall_mem_cons.mpr ⟨zm_ka_216, List.forall_mem_cons.mpr ⟨zm_ka_217, List.forall_mem_cons.mpr ⟨zm_ka_218, List.forall_mem_cons.mpr ⟨zm_ka_219, List.forall_mem_cons.mpr ⟨zm_ka_220, List.forall_mem_cons.mpr ⟨zm_ka_221, List.forall_mem_cons.mpr ⟨zm_ka_222, List.forall_mem_cons.mpr ⟨zm_ka_223, fun _ h => absurd h List.not_mem_nil⟩⟩⟩⟩⟩⟩⟩⟩⟩⟩⟩⟩⟩⟩⟩⟩
theorem zm_kag_14 : ∀ y ∈ [224, 225, 226, 227, 228, 229, 230, 231, 232, 233, 234, 235, 236, 237, 238, 239], zm_oka y = true := List.forall_mem_cons.mpr ⟨zm_ka_224, List.forall_mem_cons.mpr ⟨zm_ka_225, List.forall_mem_cons.mpr ⟨zm_ka_226, List.forall_mem_cons.mpr ⟨zm_ka_227, List.forall_mem_cons.mpr ⟨zm_ka_228, List.forall_mem_cons.mpr ⟨zm_ka_229, List.forall_mem_cons.mpr ⟨zm_ka_230, List.forall_mem_cons.mpr ⟨zm_ka_231, List.forall_mem_cons.mpr ⟨zm_ka_232, List.forall_mem_cons.mpr ⟨zm_ka_233, List.forall_mem_cons.mpr ⟨zm_ka_234, List.forall_mem_cons.mpr ⟨zm_ka_235, List.forall_mem_cons.mpr ⟨zm_ka_236, List.forall_mem_cons.mpr ⟨zm_ka_237, List.forall_mem_cons.mpr ⟨zm_ka_238, List.forall_mem_cons.mpr ⟨zm_ka_239, fun _ h => absurd h List.not_mem_nil⟩⟩⟩⟩⟩⟩⟩⟩⟩⟩⟩⟩⟩⟩⟩⟩
theorem zm_kag_15 : ∀ y ∈ [240, 241, 242, 243, 244, 245, 246, 247, 248, 249], zm_oka y = true := List.forall_mem_cons.mpr ⟨zm_ka_240, List.forall_mem_cons.mpr ⟨zm_ka_241, List.forall_mem_cons.mpr ⟨zm_ka_242, List.forall_mem_cons.mpr ⟨zm_ka_243, List.forall_mem_cons.mpr ⟨zm_ka_244, List.forall_mem_cons.mpr ⟨zm_ka_245, List.forall_mem_cons.mpr ⟨zm_ka_246, List.forall_mem_cons.mpr ⟨zm_ka_247, List.forall_mem_cons.mpr ⟨zm_ka_248, List.forall_mem_cons.mpr ⟨zm_ka_249, fun _ h => absurd h List.not_mem_nil⟩⟩⟩⟩⟩⟩⟩⟩⟩⟩
theorem zm_kay {y : Nat} (h : y < zm_nM) : zm_oka y = true := by
  have h1 : y ∈ List.range zm_nM := List.mem_range.mpr h
  rw [zm_okr] at h1
  exact (List.forall_mem_append.mpr ⟨zm_kag_0, List.forall_mem_append.mpr ⟨zm_kag_1, List.forall_mem_append.mpr ⟨zm_kag_2, List.forall_mem_append.mpr ⟨zm_kag_3, List.forall_mem_append.mpr ⟨zm_kag_4, List.forall_mem_append.mpr ⟨zm_kag_5, List.forall_mem_append.mpr ⟨zm_kag_6, List.forall_mem_append.mpr ⟨zm_kag_7, List.forall_mem_append.mpr ⟨zm_kag_8, List.forall_mem_append.mpr ⟨zm_kag_9, List.forall_mem_append.mpr ⟨zm_kag_10, List.forall_mem_append.mpr ⟨zm_kag_11, List.forall_mem_append.mpr ⟨zm_kag_12, List.forall_mem_append.mpr ⟨zm_kag_13, List.forall_mem_append.mpr ⟨zm_kag_14, zm_kag_15⟩⟩⟩⟩⟩⟩⟩⟩⟩⟩⟩⟩⟩⟩⟩) y h1
end
section
theorem zm_kl_0 : zc_Law_law_0.all (zm_okI 250) = true := by decide +kernel
theorem zm_kl_1 : zc_Law_law_1.all (zm_okI 250) = true := by decide +kernel
theorem zm_kl_2 : zc_Law_law_2.all (zm_okI 250) = true := by decide +kernel
theorem zm_kl_3 : zc_Law_law_3.all (zm_okI 250) = true := by decide +kernel
theorem zm_kl_4 : zc_Law_law_4.all (zm_okI 250) = true := by decide +kernel
theorem zm_kl_5 : zc_Law_law_5.all (zm_okI 250) = true := by decide +kernel
theorem zm_kl_6 : zc_Law_law_6.all (zm_okI 250) = true := by decide +kernel
theorem zm_kl_7 : zc_Law_law_7.all (zm_okI 250) = true := by decide +kernel
theorem zm_kl_8 : zc_Law_law_8.all (zm_okI 250) = true := by decide +kernel
theorem zm_kl_9 : zc_Law_law_9.all (zm_okI 250) = true := by decide +kernel
theorem zm_kl_10 : zc_Law_law_10.all (zm_okI 250) = true := by decide +kernel
theorem zm_kl_11 : zc_Law_law_11.all (zm_okI 250) = true := by decide +kernel
theorem zm_kl_12 : zc_Law_law_12.all (zm_okI 250) = true := by decide +kernel
theorem zm_kl_13 : zc_Law_law_13.all (zm_okI 250) = true := by decide +kernel
theorem zm_kl_14 : zc_Law_law_14.all (zm_okI 250) = true := by decide +kernel
theorem zm_kl_15 : zc_Law_law_15.all (zm_okI 250) = true := by decide +kernel
theorem zm_kl_16 : zc_Law_law_16.all (zm_okI 250) = true := by decide +kernel
theorem zm_kl_17 : zc_Law_law_17.all (zm_okI 250) = true := by decide +kernel
theorem zm_kl_18 : zc_Law_law_18.all (zm_okI 250) = true := by decide +kernel
theorem zm_kl_19 : zc_Law_law_19.all (zm_okI 250) = true := by decide +kernel
theorem zm_kl_20 : zc_Law_law_20.all (zm_okI 250) = true := by decide +kernel
theorem zm_kl_21 : zc_Law_law_21.all (zm_okI 250) = true := by decide +kernel
theorem zm_kl_22 : zc_Law_law_22.all (zm_okI 250) = true := by decide +kernel
theorem zm_kl_23 : zc_Law_law_23.all (zm_okI 250) = true := by decide +kernel
theorem zm_kl_24 : zc_Law_law_24.all (zm_okI 250) = true := by decide +kernel
theorem zm_kl_25 : zc_Law_law_25.all (zm_okI 250) = true := by decide +kernel
theorem zm_kl_26 : zc_Law_law_26.all (zm_okI 250) = true := by decide +kernel
theorem zm_kl_27 : zc_Law_law_27.all (zm_okI 250) = true := by decide +kernel
theorem zm_kl_28 : zc_Law_law_28.all (zm_okI 250) = true := by decide +kernel
theorem zm_kl_29 : zc_Law_law_29.all (zm_okI 250) = true := by decide +kernel
theorem zm_kl_30 : zc_Law_law_30.all (zm_okI 250) = true := by decide +kernel
theorem zm_kl_31 : zc_Law_law_31.all (zm_okI 250) = true := by decide +kernel
theorem zm_kl_32 : zc_Law_law_32.all (zm_okI 250) = true := by decide +kernel
theorem zm_kl_33 : zc_Law_law_33.all (zm_okI 250) = true := by decide +kernel
theorem zm_kl_34 : zc_Law_law_34.all (zm_okI 250) = true := by decide +kernel
theorem zm_kl_35 : zc_Law_law_35.all (zm_okI 250) = true := by decide +kernel
theorem zm_kl_36 : zc_Law_law_36.all (zm_okI 250) = true := by decide +kernel
set_option maxRecDepth 20000 in
theorem zm_ka_law : zm_okC y_Law_law = true := by
  show (zc_Law_law_0.all (zm_okI 250) && (zc_Law_law_1.all (zm_okI 250) && (zc_Law_law_2.all (zm_okI 250) && (zc_Law_law_3.all (zm_okI 250) && (zc_Law_law_4.all (zm_okI 250) && (zc_Law_law_5.all (zm_okI 250) && (zc_Law_law_6.all (zm_okI 250) && (zc_Law_law_7.all (zm_okI 250) && (zc_Law_law_8.all (zm_okI 250) && (zc_Law_law_9.all (zm_okI 250) && (zc_Law_law_10.all (zm_okI 250) && (zc_Law_law_11.all (zm_okI 250) && (zc_Law_law_12.all (zm_okI 250) && (zc_Law_law_13.all (zm_okI 250) && (zc_Law_law_14.all (zm_okI 250) && (zc_Law_law_15.all (zm_okI 250) && (zc_Law_law_16.all (zm_okI 250) && (zc_Law_law_17.all (zm_okI 250) && (zc_Law_law_18.all (zm_okI 250) && (zc_Law_law_19.all (zm_okI 250) && (zc_Law_law_20.all (zm_okI 250) && (zc_Law_law_21.all (zm_okI 250) && (zc_Law_law_22.all (zm_okI 250) && (zc_Law_law_23.all (zm_okI 250) && (zc_Law_law_24.all (zm_okI 250) && (zc_Law_law_25.all (zm_okI 250) && (zc_Law_law_26.all (zm_okI 250) && (zc_Law_law_27.all (zm_okI 250) && (zc_Law_law_28.all (zm_okI 250) && (zc_Law_law_29.all (zm_okI 250) && (zc_Law_law_30.all (zm_okI 250) && (zc_Law_law_31.all (zm_okI 250) && (zc_Law_law_32.all (zm_okI 250) && (zc_Law_law_33.all (zm_okI 250) && (zc_Law_law_34.all (zm_okI 250) && (zc_Law_law_35.all (zm_okI 250) && (zc_Law_law_36.all (zm_okI 250) && true))))))))))))))))))))))))))))))))))))) = true
  simp only [zm_kl_0, zm_kl_1, zm_kl_2, zm_kl_3, zm_kl_4, zm_kl_5, zm_kl_6, zm_kl_7, zm_kl_8, zm_kl_9, zm_kl_10, zm_kl_11, zm_kl_12, zm_kl_13, zm_kl_14, zm_kl_15, zm_kl_16, zm_kl_17, zm_kl_18, zm_kl_19, zm_kl_20, zm_kl_21, zm_kl_22, zm_kl_23, zm_kl_24, zm_kl_25, zm_kl_26, zm_kl_27, zm_kl_28, zm_kl_29, zm_kl_30, zm_kl_31, zm_kl_32, zm_kl_33, zm_kl_34, zm_kl_35, zm_kl_36, Bool.true_and]
end
section
/-! the small machine: the same code over a small heap; its runs are what the real machine does (part 08) -/
abbrev zm_E : Type := (Nat × vp_A) ⊕ (Nat × List Value)
/-- cells, how many, slots, exceptions made (then nothing else is made any more) -/
abbrev zm_H : Type := (Nat → zm_E) × Nat × Nat × Nat
abbrev zm_S : Type := Nat × List Value × List Value × zm_H
/-- returned, or thrown: the number of the exception's class -/
abbrev zm_O : Type := (Option Value) ⊕ Nat
/-- the script: its length, its ints -/
abbrev zm_X : Type := Nat × (Nat → Int32)
/-- a local that isn't set -/
def zm_mk : Value := .float 0
def zm_lk1 : List zm_I → Nat → Option (zm_R × Nat)
  | [], _ => none
  | (k, r) :: t, pc => cond (Nat.beq k pc) (some r) (zm_lk1 t pc)
def zm_lk : zm_C → Nat → Option (zm_R × Nat)
  | [], _ => none
  | (b, c) :: t, pc => cond (Nat.ble pc b) (zm_lk1 c pc) (zm_lk t pc)
def zm_put (h : zm_H) (i : Nat) (e : zm_E) : zm_H := (va_up h.1 i e, h.2)
def zm_new (h : zm_H) (e : zm_E) (k : Nat) : zm_H := (va_up h.1 h.2.1 e, h.2.1 + 1, h.2.2.1 + k, h.2.2.2)
def zm_pv (ls : List Value) (i : Nat) : Bool := match i with
  | 0 => true
  | j + 1 => match ls[j]? with
    | some (.long _) => false
    | some (.double _) => false
    | _ => true
def zm_sto (ls : List Value) (i : Nat) (v : Value) : Option (List Value) := cond (Nat.blt i ls.length && zm_pv ls i) (some (ls.set i v)) none
def zm_sto2 (ls : List Value) (i : Nat) (v : Value) : Option (List Value) := cond (Nat.blt (i + 1) ls.length && zm_pv ls i) (some ((ls.set i v).set (i + 1) zm_mk)) none
def zm_c0 (k : ClassFile.Cond) (x : Int32) : Bool := match k with
  | .eq => decide (x = 0)
  | .ne => decide (¬ x = 0)
  | .lt => decide (x < 0)
  | .ge => decide (0 ≤ x)
  | .gt => decide (0 < x)
  | .le => decide (x ≤ 0)
def zm_c2 (k : ClassFile.Cond) (x y : Int32) : Bool := match k with
  | .eq => decide (x = y)
  | .ne => decide (¬ x = y)
  | .lt => decide (x < y)
  | .ge => decide (y ≤ x)
  | .gt => decide (y < x)
  | .le => decide (x ≤ y)
def zm_jmp (pc : Nat) (off : Int) (ls st : List Value) (h : zm_H) : Option zm_S := if 0 ≤ (pc : Int) + off then some (((pc : Int) + off).toNat, ls, st, h) else none
def zm_br (b : Bool) (pc pc' : Nat) (off : Int) (ls st : List Value) (h : zm_H) : Option zm_S := if 0 ≤ (pc : Int) + off then some (cond b ((pc : Int) + off).toNat pc', ls, st, h) else none
def zm_ii (f : Int32 → Int32 → Int32) (pc' : Nat) (ls st : List Value) (h : zm_H) : Option zm_S := match st with
  | .int y :: .int x :: t => some (pc', ls, .int (f x y) :: t, h)
  | _ => none
def zm_ll (f : Int64 → Int64 → Int64) (pc' : Nat) (ls st : List Value) (h : zm_H) : Option zm_S := match st with
  | .long y :: .long x :: t => some (pc', ls, .long (f x y) :: t, h)
  | _ => none
def zm_li (f : Int64 → Int32 → Int64) (pc' : Nat) (ls st : List Value) (h : zm_H) : Option zm_S := match st with
  | .int y :: .long x :: t => some (pc', ls, .long (f x y) :: t, h)
  | _ => none
def zm_iload (k pc' : Nat) (ls st : List Value) (h : zm_H) : Option zm_S := match ls[k]? with
  | some (.int x) => some (pc', ls, .int x :: st, h)
  | _ => none
def zm_lload (k pc' : Nat) (ls st : List Value) (h : zm_H) : Option zm_S := match ls[k]? with
  | some (.long x) => some (pc', ls, .long x :: st, h)
  | _ => none
def zm_aload (k pc' : Nat) (ls st : List Value) (h : zm_H) : Option zm_S := match ls[k]? with
  | some (.ref x) => some (pc', ls, .ref x :: st, h)
  | some (.retAddr x) => some (pc', ls, .retAddr x :: st, h)
  | _ => none
def zm_istore (k pc' : Nat) (ls st : List Value) (h : zm_H) : Option zm_S := match st with
  | .int x :: t => (zm_sto ls k (.int x)).map (fun l => (pc', l, t, h))
  | _ => none
def zm_lstore (k pc' : Nat) (ls st : List Value) (h : zm_H) : Option zm_S := match st with
  | .long x :: t => (zm_sto2 ls k (.long x)).map (fun l => (pc', l, t, h))
  | _ => none
def zm_astore (k pc' : Nat) (ls st : List Value) (h : zm_H) : Option zm_S := match st with
  | .ref x :: t => (zm_sto ls k (.ref x)).map (fun l => (pc', l, t, h))
  | _ => none
/-- an int array at a, a long array, an array of references -/
def zm_iarr (h : zm_H) (a : Nat) : Option (Nat × (Nat → Int32)) := match h.1 a with
  | .inl (0, n, .inl f) => cond (Nat.blt a h.2.1) (some (n, f)) none
  | _ => none
def zm_larr (h : zm_H) (a : Nat) : Option (Nat × (Nat → Int64)) := match h.1 a with
  | .inl (1, n, .inr (.inl f)) => cond (Nat.blt a h.2.1) (some (n, f)) none
  | _ => none
def zm_qarr (h : zm_H) (a : Nat) : Option (Nat × (Nat → Option Nat)) := match h.1 a with
  | .inl (2, n, .inr (.inr (.inr (.inr f)))) => cond (Nat.blt a h.2.1) (some (n, f)) none
  | _ => none
def zm_obj (h : zm_H) (a : Nat) : Option (Nat × List Value) := match h.1 a with
  | .inr x => cond (Nat.blt a h.2.1) (some x) none
  | _ => none
/-- an instruction that reads no pool: the next state -/
def zm_st (X : zm_X) (i : Instr) (pc pc' : Nat) (ls st : List Value) (h : zm_H) : Option zm_S := match i with
  | .iconst n => some (pc', ls, .int (Int32.ofInt n) :: st, h)
  | .bipush n => some (pc', ls, .int (Int8.ofInt n).toInt32 :: st, h)
  | .sipush n => some (pc', ls, .int (Int16.ofInt n).toInt32 :: st, h)
  | .lconst n => some (pc', ls, .long (Int64.ofNat n) :: st, h)
  | .iload k => zm_iload k pc' ls st h
  | .iload_n k => zm_iload k pc' ls st h
  | .lload k => zm_lload k pc' ls st h
  | .lload_n k => zm_lload k pc' ls st h
  | .aload k => zm_aload k pc' ls st h
  | .aload_n k => zm_aload k pc' ls st h
  | .istore k => zm_istore k pc' ls st h
  | .istore_n k => zm_istore k pc' ls st h
  | .lstore k => zm_lstore k pc' ls st h
  | .lstore_n k => zm_lstore k pc' ls st h
  | .astore k => zm_astore k pc' ls st h
  | .astore_n k => zm_astore k pc' ls st h
  | .iinc k c => match ls[k]? with
    | some (.int x) => (zm_sto ls k (.int (x + Int32.ofInt c))).map (fun l => (pc', l, st, h))
    | _ => none
  | .iadd => zm_ii (fun x y => x + y) pc' ls st h
  | .isub => zm_ii (fun x y => x - y) pc' ls st h
  | .imul => zm_ii (fun x y => x * y) pc' ls st h
  | .iand => zm_ii (fun x y => x &&& y) pc' ls st h
  | .ior => zm_ii (fun x y => x ||| y) pc' ls st h
  | .ixor => zm_ii (fun x y => x ^^^ y) pc' ls st h
  | .ishl => zm_ii (fun x y => x <<< (y &&& 31)) pc' ls st h
  | .ishr => zm_ii (fun x y => x >>> (y &&& 31)) pc' ls st h
  | .iushr => zm_ii (fun x y => (x.toUInt32 >>> (y.toUInt32 &&& Int32.toUInt32 31)).toInt32) pc' ls st h
  | .idiv => match st with
    | .int y :: .int x :: t => if y = 0 then none else some (pc', ls, .int (x / y) :: t, h)
    | _ => none
  | .irem => match st with
    | .int y :: .int x :: t => if y = 0 then none else some (pc', ls, .int (x - x / y * y) :: t, h)
    | _ => none
  | .ladd => zm_ll (fun x y => x + y) pc' ls st h
  | .lsub => zm_ll (fun x y => x - y) pc' ls st h
  | .lmul => zm_ll (fun x y => x * y) pc' ls st h
  | .land => zm_ll (fun x y => x &&& y) pc' ls st h
  | .lor => zm_ll (fun x y => x ||| y) pc' ls st h
  | .lxor => zm_ll (fun x y => x ^^^ y) pc' ls st h
  | .lshl => zm_li (fun x y => x <<< (y.toInt64 &&& 63)) pc' ls st h
  | .lshr => zm_li (fun x y => x >>> (y.toInt64 &&& 63)) pc' ls st h
  | .lushr => zm_li (fun x y => (x.toUInt64 >>> (y.toInt64.toUInt64 &&& Int64.toUInt64 63)).toInt64) pc' ls st h
  | .i2l => match st with
    | .int x :: t => some (pc', ls, .long x.toInt64 :: t, h)
    | _ => none
  | .l2i => match st with
    | .long x :: t => some (pc', ls, .int x.toInt32 :: t, h)
    | _ => none
  | .lcmp => match st with
    | .long y :: .long x :: t => some (pc', ls, .int (lg_cmp x y) :: t, h)
    | _ => none
  | .dup => match st with
    | v :: t => cond (Nat.beq v.category 1) (some (pc', ls, v :: v :: t, h)) none
    | _ => none
  | .dup2 => match st with
    | va :: vb :: t => cond (Nat.beq va.category 1 && Nat.beq vb.category 1) (some (pc', ls, va :: vb :: va :: vb :: t, h)) none
    | _ => none
  | .pop => match st with
    | v :: t => cond (Nat.beq v.category 1) (some (pc', ls, t, h)) none
    | _ => none
  | .ifCond c off => match st with
    | .int x :: t => zm_br (zm_c0 c x) pc pc' off ls t h
    | _ => none
  | .if_icmp c off => match st with
    | .int y :: .int x :: t => zm_br (zm_c2 c x y) pc pc' off ls t h
    | _ => none
  | .goto off => zm_jmp pc off ls st h
  | .tableswitch d lo hi offs => match st with
    | .int x :: t => if x.toInt < lo ∨ hi < x.toInt then zm_jmp pc d ls t h else match offs[(x.toInt - lo).toNat]? with
      | some off => zm_jmp pc off ls t h
      | none => none
    | _ => none
  | .iaload => match st with
    | .int j :: .ref a :: t => match zm_iarr h a with
      | some (n, f) => if j < 0 ∨ n ≤ j.toNatClampNeg then none else some (pc', ls, .int (f j.toNatClampNeg) :: t, h)
      | none => none
    | .int j :: .retAddr _ :: t => if j < 0 ∨ X.1 ≤ j.toNatClampNeg then none else some (pc', ls, .int (X.2 j.toNatClampNeg) :: t, h)
    | _ => none
  | .laload => match st with
    | .int j :: .ref a :: t => match zm_larr h a with
      | some (n, f) => if j < 0 ∨ n ≤ j.toNatClampNeg then none else some (pc', ls, .long (f j.toNatClampNeg) :: t, h)
      | none => none
    | _ => none
  | .aaload => match st with
    | .int j :: .ref a :: t => match zm_qarr h a with
      | some (n, f) => if j < 0 ∨ n ≤ j.toNatClampNeg then none else match f j.toNatClampNeg with
        | some q => some (pc', ls, .ref q :: t, h)
        | none => none
      | none => none
    | _ => none
  | .iastore => match st with
    | .int x :: .int j :: .ref a :: t => match zm_iarr h a with
      | some (n, f) => if j < 0 ∨ n ≤ j.toNatClampNeg then none else some (pc', ls, t, zm_put h a (.inl (0, n, .inl (upd f j.toNatClampNeg x))))
      | none => none
    | _ => none
  | .lastore => match st with
    | .long x :: .int j :: .ref a :: t => match zm_larr h a with
      | some (n, f) => if j < 0 ∨ n ≤ j.toNatClampNeg then none else some (pc', ls, t, zm_put h a (.inl (1, n, .inr (.inl (vp_updL f j.toNatClampNeg x)))))
      | none => none
    | _ => none
  | .aastore => match st with
    | .ref v :: .int j :: .ref a :: t => match zm_qarr h a, zm_obj h v with
      | some (n, f), some (0, _) => if j < 0 ∨ n ≤ j.toNatClampNeg then none else some (pc', ls, t, zm_put h a (.inl (2, n, .inr (.inr (.inr (.inr (va_up f j.toNatClampNeg (some v))))))))
      | _, _ => none
    | _ => none
  | .arraylength => match st with
    | .ref a :: t => match zm_iarr h a with
      | some (n, _) => some (pc', ls, .int (Int32.ofNat n) :: t, h)
      | none => none
    | .retAddr _ :: t => some (pc', ls, .int (Int32.ofNat X.1) :: t, h)
    | _ => none
  | .newarray ty => match st with
    | .int n :: t => if n < 0 ∨ 10000 ≤ n.toNatClampNeg ∨ ¬ h.2.2.2 = 0 then none else match ty with
      | .int => some (pc', ls, .ref h.2.1 :: t, zm_new h (.inl (0, n.toNatClampNeg, .inl (fun _ => 0))) n.toNatClampNeg)
      | .long => some (pc', ls, .ref h.2.1 :: t, zm_new h (.inl (1, n.toNatClampNeg, .inr (.inl (fun _ => 0)))) n.toNatClampNeg)
      | _ => none
    | _ => none
  | _ => none
/-- a return, by the method's type -/
def zm_ret (i : Instr) (rt : Option FieldType) (st : List Value) : Option (Option Value) := match i with
  | .ireturn => match st with
    | [.int v] => match rt with
      | some .int => some (some (.int v))
      | some .boolean => if v = 0 ∨ v = 1 then some (some (.int v)) else none
      | _ => none
    | _ => none
  | .lreturn => match st with
    | [.long v] => match rt with
      | some .long => some (some (.long v))
      | _ => none
    | _ => none
  | .areturn => match st with
    | [.ref v] => match rt with
      | some (.object _) => some (some (.ref v))
      | _ => none
    | _ => none
  | .return_ => match st with
    | [] => match rt with
      | none => some none
      | _ => none
    | _ => none
  | _ => none
def zm_wd (st : List Value) : Nat := (st.map fun v => v.category).sum
def zm_pop : Nat → List Value → List Value → Option (List Value × List Value)
  | 0, acc, st => some (acc, st)
  | n + 1, acc, v :: t => zm_pop n (v :: acc) t
  | _ + 1, _, [] => none
def zm_exp : List Value → List Value
  | [] => []
  | .long x :: t => .long x :: zm_mk :: zm_exp t
  | .double x :: t => .double x :: zm_mk :: zm_exp t
  | v :: t => v :: zm_exp t
def zm_ent (args : List Value) (mx : Nat) : List Value := zm_exp args ++ List.replicate (mx - (zm_exp args).length) zm_mk
/-- a call: the callee's arguments, and the rest of the stack -/
def zm_cal (k a y : Nat) (st : List Value) (h : zm_H) : Option (List Value × List Value) :=
  cond (Nat.blt (zm_lv a) (zm_lv y) && Nat.blt a zm_nM)
    (match k with
    | 3 | 4 | 15 => match zm_pop (zm_ar a) [] st with
      | some (as, rest) => cond (Nat.ble (zm_wd rest) 8 && Nat.ble (zm_exp as).length (zm_mx a)) (some (as, rest)) none
      | none => none
    | 5 => match zm_pop (zm_ar a) [] st with
      | some (as, .ref r :: rest) => match zm_obj h r with
        | some (c, _) => cond (Nat.beq c (zm_own a) && Nat.ble (zm_wd rest) 8 && Nat.ble (zm_exp (.ref r :: as)).length (zm_mx a)) (some (.ref r :: as, rest)) none
        | none => none
      | _ => none
    | 6 | 7 => match zm_pop (zm_ar a) [] st with
      | some (as, .ref r :: rest) => cond (Nat.ble (zm_wd rest) 8 && Nat.ble (zm_exp (.ref r :: as)).length (zm_mx a)) (some (.ref r :: as, rest)) none
      | _ => none
    | _ => none) none
def zm_dv : FieldType → Value
  | .int => .int 0
  | _ => .null
def zm_fit (ty : FieldType) (v : Value) : Bool := match ty, v with
  | .int, .int _ => true
  | .object _, .ref _ => true
  | .array _, .ref _ => true
  | _, _ => false
/-- an instruction by the pool, that is no call -/
def zm_rs (k idx a b pc' : Nat) (ls st : List Value) (h : zm_H) : Option zm_S := match k with
  | 0 => match st with
    | .ref q :: t => match zm_obj h q with
      | some (c, fs) => cond (Nat.beq c a) (match fs[b]? with
        | some v => some (pc', ls, v :: t, h)
        | none => none) none
      | none => none
    | _ => none
  | 1 | 2 => match st with
    | v :: .ref q :: t => match zm_obj h q with
      | some (c, fs) => cond (Nat.beq c a && Nat.blt b fs.length && zm_fit (zm_ty a b) v) (some (pc', ls, t, zm_put h q (.inr (a, fs.set b v)))) none
      | none => none
    | _ => none
  | 8 => match st with
    | .ref _ :: t => cond (Nat.ble (zm_wd t) 8) (some (pc', ls, t, h)) none
    | _ => none
  | 9 => cond (!Nat.beq h.2.2.2 0) none (some (pc', ls, .ref h.2.1 :: st, zm_new h (.inr (a, (List.range (zm_N a)).map (fun j => zm_dv (zm_ty a j)))) (zm_N a)))
  | 10 => match st with
    | .int n :: t => if n < 0 ∨ 10000 ≤ n.toNatClampNeg ∨ ¬ h.2.2.2 = 0 then none else some (pc', ls, .ref h.2.1 :: t, zm_new h (.inl (2, n.toNatClampNeg, .inr (.inr (.inr (.inr (fun _ => none)))))) n.toNatClampNeg)
    | _ => none
  | 11 => match st with
    | .int n :: .int dp :: .ref q1 :: .int sp :: .ref q0 :: t => if sp < 0 ∨ dp < 0 ∨ n < 0 ∨ 8 < zm_wd t then none else match zm_iarr h q0, zm_iarr h q1 with
      | some (n0, f), some (n1, g) => if sp.toNatClampNeg + n.toNatClampNeg ≤ n0 ∧ dp.toNatClampNeg + n.toNatClampNeg ≤ n1 then some (pc', ls, t, zm_put h q1 (.inl (0, n1, .inl (va_cpy f g sp.toNatClampNeg dp.toNatClampNeg n.toNatClampNeg)))) else none
      | _, _ => match zm_larr h q0, zm_larr h q1 with
        | some (n0, f), some (n1, g) => if sp.toNatClampNeg + n.toNatClampNeg ≤ n0 ∧ dp.toNatClampNeg + n.toNatClampNeg ≤ n1 then some (pc', ls, t, zm_put h q1 (.inl (1, n1, .inr (.inl (va_cpy f g sp.toNatClampNeg dp.toNatClampNeg n.toNatClampNeg))))) else none
        | _, _ => none
    | _ => none
  | 16 => match st with
    | .int y :: .int x :: t => cond (Nat.ble (zm_wd t) 8) (some (pc', ls, .int (cond (Nat.beq a 0) (if x < y then y else x) (if y < x then y else x)) :: t, h)) none
    | _ => none
  | 13 => some (pc', ls, .int (Int32.ofNat a) :: st, h)
  | 14 => some (pc', ls, .long (Int64.ofNat a) :: st, h)
  | _ => none
/-- the handler that takes exception E at pc: its answer -/
def zm_cat : List zm_Hd → Nat → Nat → Option Nat
  | [], _, _ => none
  | (f, t, x, j, _) :: l, pc, E => cond (Nat.ble f pc && Nat.blt pc t && Nat.beq x E) (some j) (zm_cat l pc E)
noncomputable def zm_run (X : zm_X) : Nat → Nat → Nat → List Value → List Value → zm_H → Option (zm_O × zm_H)
  | 0, _, _, _, _, _ => none
  | n + 1, y, pc, ls, st, h =>
    match zm_lk (zm_cd y) pc with
    | none => none
    | some (.inl i, pc') =>
      match zm_ret i (zm_rt y) st with
      | some v => some (.inl v, h)
      | none => match zm_st X i pc pc' ls st h with
        | none => none
        | some (pc2, ls2, st2, h2) => zm_run X n y pc2 ls2 st2 h2
    | some (.inr (k, idx, a, b), pc') =>
      match zm_cal k a y st h with
      | some (as, rest) =>
        match zm_run X n a 0 (zm_ent as (zm_mx a)) [] h with
        | none => none
        | some (.inl v, h2) => zm_run X n y pc' ls (v.toList ++ rest) h2
        | some (.inr E, h2) => match zm_cat (zm_hd y) pc E with
          | some j => some (.inl (some (.int (Int32.ofNat j))), h2)
          | none => some (.inr E, h2)
      | none =>
        cond (Nat.beq k 12) (cond (Nat.ble (zm_wd st) 8) (some (.inr a, (h.1, h.2.1, h.2.2.1 + 6, h.2.2.2 + 1))) none)
          (match zm_rs k idx a b pc' ls st h with
          | none => none
          | some (pc2, ls2, st2, h2) => zm_run X n y pc2 ls2 st2 h2)
end
section
/-! how the small heap lies in the real one: cell i at address b + i; the script at b0 -/
def zm_tr (b b0 : Nat) : Value → Value
  | .ref i => .ref (b + i)
  | .retAddr _ => .ref b0
  | v => v
def zm_cv (b b0 : Nat) (cA : Nat → ClassId) : zm_E → va_E
  | .inl (k, n, .inr (.inr (.inr (.inr f)))) => .inl (cA k, n, .inr (.inr (.inr (.inr (fun j => (f j).map (fun a => b + a))))))
  | .inl (k, x) => .inl (cA k, x)
  | .inr (c, fs) => .inr (c, fs.map (zm_tr b b0))
def zm_ws (b b0 : Nat) (cA : Nat → ClassId) (h : zm_H) : va_W := (List.range h.2.1).map (fun i => (b + i, zm_cv b b0 cA (h.1 i)))
theorem zm_ws_len (b b0 : Nat) (cA : Nat → ClassId) (h : zm_H) : (zm_ws b b0 cA h).length = h.2.1 := by simp [zm_ws]
theorem zm_ws_at {b b0 : Nat} {cA : Nat → ClassId} {h : zm_H} {a : Nat} (ha : a < h.2.1) : (zm_ws b b0 cA h)[a]? = some (b + a, zm_cv b b0 cA (h.1 a)) := by
  simp [zm_ws, List.getElem?_map, List.getElem?_range ha]
theorem zm_ws_put {b b0 : Nat} {cA : Nat → ClassId} {h : zm_H} {a : Nat} (e : zm_E) : (zm_ws b b0 cA h).set a (b + a, zm_cv b b0 cA e) = zm_ws b b0 cA (zm_put h a e) := by
  apply List.ext_getElem?
  intro i
  by_cases hi : i < h.2.1
  · rw [zm_ws_at (h := zm_put h a e) (show i < (zm_put h a e).2.1 from hi)]
    by_cases hia : a = i
    · subst hia
      rw [List.getElem?_set_self (by rw [zm_ws_len]; exact hi)]
      simp [zm_put, va_up]
    · rw [List.getElem?_set_ne hia, zm_ws_at hi]
      simp [zm_put, va_up, Ne.symm hia]
  · rw [List.getElem?_eq_none (by rw [List.length_set, zm_ws_len]; omega), List.getElem?_eq_none (by rw [zm_ws_len]; exact Nat.le_of_not_lt hi)]
theorem zm_ws_new {b b0 : Nat} {cA : Nat → ClassId} {h : zm_H} (e : zm_E) (k : Nat) : zm_ws b b0 cA h ++ [(b + h.2.1, zm_cv b b0 cA e)] = zm_ws b b0 cA (zm_new h e k) := by
  simp only [zm_ws, zm_new, List.range_succ, List.map_append, List.map_cons, List.map_nil]
  congr 1
  · apply List.map_congr_left
    intro i hi
    have : i < h.2.1 := List.mem_range.mp hi
    simp [va_up, Nat.ne_of_lt this]
  · simp [va_up]
def zm_A (b : Nat) : Nat → Prop := fun q => b ≤ q
theorem zm_ws_D (b b0 : Nat) (cA : Nat → ClassId) (h : zm_H) : va_D (zm_A b) (zm_ws b b0 cA h) := by
  have key : ∀ (k : Nat) (q : Nat × va_E), (zm_ws b b0 cA h)[k]? = some q → q.1 = b + k := by
    intro k q hq
    have hl : k < h.2.1 := by
      have := (List.getElem?_eq_some_iff.mp hq).1
      rwa [zm_ws_len] at this
    rw [zm_ws_at hl] at hq
    cases hq
    rfl
  refine ⟨fun i j p q hi hj e => ?_, fun k q hk => ?_⟩
  · have h1 := key i p hi
    have h2 := key j q hj
    omega
  · show b ≤ q.1
    rw [key k q hk]
    exact Nat.le_add_right _ _
theorem zm_tr_cat (b b0 : Nat) (v : Value) : (zm_tr b b0 v).category = v.category := by cases v <;> rfl
theorem zm_tr_sum (b b0 : Nat) (st : List Value) : ((st.map (zm_tr b b0)).map fun v => v.category).sum = zm_wd st := by
  unfold zm_wd
  rw [List.map_map]
  congr 1
  apply List.map_congr_left
  intro v _
  exact zm_tr_cat b b0 v
/-! locals -/
def zm_lr (b b0 : Nat) (ml : List Value) (ls : Array Slot) (nL : Nat) : Prop := ls.size = nL ∧ ml.length = nL ∧ lv_wf ls ∧ ∀ (i : Nat) (v : Value), ml[i]? = some v → v ≠ zm_mk → ls[i]? = some (.val (zm_tr b b0 v))
def zm_pr (b b0 : Nat) (ml : List Value) : List (Nat × Value) := (List.range ml.length).filterMap (fun i => (ml[i]?).bind (fun v => if v = zm_mk then none else some (i, zm_tr b b0 v)))
theorem zm_pr_mem {b b0 : Nat} {ml : List Value} {q : Nat × Value} : q ∈ zm_pr b b0 ml ↔ ∃ v, ml[q.1]? = some v ∧ v ≠ zm_mk ∧ q.2 = zm_tr b b0 v := by
  unfold zm_pr
  rw [List.mem_filterMap]
  constructor
  · rintro ⟨i, hi, h⟩
    cases hv : ml[i]? with
    | none => rw [hv] at h; cases h
    | some v =>
      rw [hv] at h
      simp only [Option.bind_some] at h
      by_cases hm : v = zm_mk
      · rw [if_pos hm] at h; cases h
      · rw [if_neg hm] at h
        cases h
        exact ⟨v, hv, hm, rfl⟩
  · rintro ⟨v, hv, hm, hq⟩
    refine ⟨q.1, List.mem_range.mpr (List.getElem?_eq_some_iff.mp hv).1, ?_⟩
    rw [hv, Option.bind_some, if_neg hm, ← hq]
theorem zm_lr_has {b b0 : Nat} {ml : List Value} {ls : Array Slot} {nL : Nat} (h : zm_lr b b0 ml ls nL) : lv_has ls nL (zm_pr b b0 ml) := by
  obtain ⟨h1, h2, h3, h4⟩ := h
  refine ⟨h1, h3, fun q hq => ?_⟩
  obtain ⟨v, hv, hm, he⟩ := zm_pr_mem.mp hq
  rw [he]
  exact h4 _ _ hv hm
theorem zm_lr_at {b b0 : Nat} {ml : List Value} {ls : Array Slot} {nL i : Nat} {v : Value} (h : zm_lr b b0 ml ls nL) (hv : ml[i]? = some v) (hm : v ≠ zm_mk) : ls[i]? = some (.val (zm_tr b b0 v)) := h.2.2.2 i v hv hm
theorem zm_pv_ok {ml : List Value} {i j : Nat} {v : Value} (h : zm_pv ml i = true) (hj : j + 1 = i) (hv : ml[j]? = some v) : ¬ v.category = 2 := by
  subst hj
  simp only [zm_pv, hv] at h
  cases v <;> simp_all [Value.category]
theorem zm_sto_spec {ml ml' : List Value} {i : Nat} {v : Value} (h : zm_sto ml i v = some ml') : i < ml.length ∧ zm_pv ml i = true ∧ ml' = ml.set i v := by
  unfold zm_sto at h
  cases hc : (Nat.blt i ml.length && zm_pv ml i) with
  | false => rw [hc] at h; cases h
  | true =>
    rw [hc] at h
    cases h
    simp only [Bool.and_eq_true, Nat.blt_eq] at hc
    exact ⟨hc.1, hc.2, rfl⟩
theorem zm_sto2_spec {ml ml' : List Value} {i : Nat} {v : Value} (h : zm_sto2 ml i v = some ml') : i + 1 < ml.length ∧ zm_pv ml i = true ∧ ml' = (ml.set i v).set (i + 1) zm_mk := by
  unfold zm_sto2 at h
  cases hc : (Nat.blt (i + 1) ml.length && zm_pv ml i) with
  | false => rw [hc] at h; cases h
  | true =>
    rw [hc] at h
    cases h
    simp only [Bool.and_eq_true, Nat.blt_eq] at hc
    exact ⟨hc.1, hc.2, rfl⟩
theorem zm_lr_sto {b b0 : Nat} {ml ml' : List Value} {ls ls' : Array Slot} {nL i : Nat} {v : Value} (h : zm_lr b b0 ml ls nL) (hs : zm_sto ml i v = some ml')
    (h' : lv_has ls' nL ((i, zm_tr b b0 v) :: (zm_pr b b0 ml).filter (fun q => !(q.1 == i) && !(q.1 + 1 == i && q.2.category == 2)))) : zm_lr b b0 ml' ls' nL := by
  obtain ⟨hi, hp, rfl⟩ := zm_sto_spec hs
  obtain ⟨g1, g2, g3⟩ := h'
  refine ⟨g1, by rw [List.length_set]; exact h.2.1, g2, fun j w hw hm => ?_⟩
  by_cases hj : i = j
  · subst hj
    rw [List.getElem?_set_self hi] at hw
    cases hw
    exact g3 _ List.mem_cons_self
  · rw [List.getElem?_set_ne hj] at hw
    refine g3 (j, zm_tr b b0 w) (List.mem_cons_of_mem _ (List.mem_filter.mpr ⟨zm_pr_mem.mpr ⟨w, hw, hm, rfl⟩, ?_⟩))
    simp only [Bool.and_eq_true, Bool.not_eq_true', beq_eq_false_iff_ne, ne_eq, Bool.and_eq_false_iff, zm_tr_cat]
    refine ⟨fun e => hj e.symm, ?_⟩
    by_cases hj1 : j + 1 = i
    · exact Or.inr (zm_pv_ok hp hj1 hw)
    · exact Or.inl hj1
theorem zm_lr_sto2 {b b0 : Nat} {ml ml' : List Value} {ls ls' : Array Slot} {nL i : Nat} {v : Value} (h : zm_lr b b0 ml ls nL) (hs : zm_sto2 ml i v = some ml')
    (h' : lv_has ls' nL ((i, zm_tr b b0 v) :: (zm_pr b b0 ml).filter (fun q => !(q.1 == i) && (!(q.1 == i + 1) && !(q.1 + 1 == i && q.2.category == 2))))) : zm_lr b b0 ml' ls' nL := by
  obtain ⟨hi, hp, rfl⟩ := zm_sto2_spec hs
  obtain ⟨g1, g2, g3⟩ := h'
  refine ⟨g1, by rw [List.length_set, List.length_set]; exact h.2.1, g2, fun j w hw hm => ?_⟩
  by_cases hj2 : i + 1 = j
  · subst hj2
    rw [List.getElem?_set_self (by rw [List.length_set]; exact hi)] at hw
    cases hw
    exact absurd rfl hm
  rw [List.getElem?_set_ne hj2] at hw
  by_cases hj : i = j
  · subst hj
    rw [List.getElem?_set_self (by omega)] at hw
    cases hw
    exact g3 _ List.mem_cons_self
  · rw [List.getElem?_set_ne hj] at hw
    refine g3 (j, zm_tr b b0 w) (List.mem_cons_of_mem _ (List.mem_filter.mpr ⟨zm_pr_mem.mpr ⟨w, hw, hm, rfl⟩, ?_⟩))
    simp only [Bool.and_eq_true, Bool.not_eq_true', beq_eq_false_iff_ne, ne_eq, Bool.and_eq_false_iff, zm_tr_cat]
    refine ⟨fun e => hj e.symm, fun e => hj2 e.symm, ?_⟩
    by_cases hj1 : j + 1 = i
    · exact Or.inr (zm_pv_ok hp hj1 hw)
    · exact Or.inl hj1
theorem zm_sl_len (b b0 : Nat) (vs : List Value) : (lg_sl (vs.map (zm_tr b b0))).length = (zm_exp vs).length := by
  induction vs with
  | nil => rfl
  | cons v t ih =>
    have e : lg_sl ((v :: t).map (zm_tr b b0)) = (if (zm_tr b b0 v).category = 2 then [Slot.val (zm_tr b b0 v), Slot.second] else [Slot.val (zm_tr b b0 v)]) ++ lg_sl (t.map (zm_tr b b0)) := by simp [lg_sl]
    rw [e, List.length_append, ih]
    cases v <;> simp [zm_exp, zm_tr, Value.category] <;> omega
theorem zm_exp_args (b b0 : Nat) (vs : List Value) : ∀ (k i : Nat) (v : Value), (zm_exp vs)[i]? = some v → v ≠ zm_mk → (k + i, zm_tr b b0 v) ∈ lv_args k (vs.map (zm_tr b b0)) := by
  induction vs with
  | nil => intro k i v h _; simp [zm_exp] at h
  | cons x t ih =>
    intro k i v h hm
    have one : ∀ (hx : (zm_tr b b0 x).category = 1) (he : zm_exp (x :: t) = x :: zm_exp t), (k + i, zm_tr b b0 v) ∈ lv_args k ((x :: t).map (zm_tr b b0)) := by
      intro hx he
      rw [he] at h
      rw [List.map_cons, lv_args, if_neg (by omega)]
      cases i with
      | zero => simp at h; subst h; exact List.mem_cons_self
      | succ j =>
        have := ih (k + 1) j v (by simpa using h) hm
        rw [show k + (j + 1) = k + 1 + j by omega]
        exact List.mem_cons_of_mem _ this
    have two : ∀ (hx : (zm_tr b b0 x).category = 2) (he : zm_exp (x :: t) = x :: zm_mk :: zm_exp t), (k + i, zm_tr b b0 v) ∈ lv_args k ((x :: t).map (zm_tr b b0)) := by
      intro hx he
      rw [he] at h
      rw [List.map_cons, lv_args, if_pos hx]
      match i, h with
      | 0, h => simp at h; subst h; exact List.mem_cons_self
      | 1, h => simp at h; exact absurd h.symm hm
      | j + 2, h =>
        have := ih (k + 2) j v (by simpa using h) hm
        rw [show k + (j + 2) = k + 2 + j by omega]
        exact List.mem_cons_of_mem _ this
    cases x <;> first | exact one rfl rfl | exact two rfl rfl
theorem zm_lr_entry (b b0 : Nat) (vs : List Value) {n : Nat} (h : (zm_exp vs).length ≤ n) : zm_lr b b0 (zm_ent vs n) ((lg_sl (vs.map (zm_tr b b0)) ++ List.replicate (n - (lg_sl (vs.map (zm_tr b b0))).length) Slot.unset).toArray) n := by
  obtain ⟨h1, h2, h3⟩ := lv_entry (vs.map (zm_tr b b0)) (n := n) (by rw [zm_sl_len]; exact h)
  refine ⟨h1, by simp [zm_ent]; omega, h2, fun i v hv hm => ?_⟩
  unfold zm_ent at hv
  by_cases hi : i < (zm_exp vs).length
  · rw [List.getElem?_append_left hi] at hv
    have := zm_exp_args b b0 vs 0 i v hv hm
    rw [Nat.zero_add] at this
    exact h3 _ this
  · rw [List.getElem?_append_right (by omega)] at hv
    have h4 := List.mem_of_getElem? hv
    exact absurd (List.eq_of_mem_replicate h4) hm
end
section
/-! one instruction of the small machine is one of the real one -/
def zm_B : List Cond := [.castable (zm_ex 0) (zm_ex 0), .castable (zm_ex 1) (zm_ex 1), .castable (zm_ex 2) (zm_ex 2),
  .declares ⟨"java/lang/RuntimeException", "<init>", "()V"⟩, .declares ⟨"java/lang/RuntimeException", "<init>", "(Ljava/lang/String;)V"⟩,
  .declares ⟨"java/lang/Exception", "<init>", "()V"⟩, .declares ⟨"java/lang/Exception", "<init>", "(Ljava/lang/String;)V"⟩,
  .declares ⟨"java/lang/Throwable", "<init>", "()V"⟩, .declares ⟨"java/lang/Throwable", "<init>", "(Ljava/lang/String;)V"⟩]
def zm_tys (cA : Nat → ClassId) : List (ClassId × FieldType) := [(cA 0, .int), (cA 1, .long), (cA 2, .object RX0)]
/-- what the tables say, and no good word says -/
def zm_G (D : va_G) (cA : Nat → ClassId) (U : State) : Prop := va_K D zm_cl (zm_tys cA) U ∧ (∀ q ∈ zm_nl, va_Nw (zm_nlw q) U) ∧ (∀ w ∈ zm_B, va_Nw w U) ∧ (∀ (k : Nat) (q : Nat × Nat × Nat × Nat × Nat × Nat × Bool), zm_sites[k]? = some q → ∃ sa, vk_R RX6 q.2.2.2.2.1 (zm_text k) sa U) ∧ va_AO RX0 U ∧ (∀ x y : Nat, x < 3 → y < 3 → x ≠ y → va_Nc (zm_ex x) (zm_ex y) U)
theorem zm_G.moved {D : va_G} {cA : Nat → ClassId} {s U : State} (hW : s.WarmedH U.vm) (h : zm_G D cA s) : zm_G D cA U := by
  obtain ⟨h1, h2, h3, h4, h5, h6⟩ := h
  refine ⟨va_K.moved hW.alike h1, fun q hq => va_Nw.warmM hW (h2 q hq), fun w hw => ?_, fun k q hq => ?_, va_AO.moved hW.alike h5, fun x y hx hy hn => va_Nc.moved hW.alike (h6 x y hx hy hn)⟩
  · have h9 := h3 w hw
    simp only [zm_B, List.mem_cons, List.mem_nil_iff, or_false] at hw
    rcases hw with rfl | rfl | rfl | rfl | rfl | rfl | rfl | rfl | rfl
    · exact va_Nw.warmC hW h9
    · exact va_Nw.warmC hW h9
    · exact va_Nw.warmC hW h9
    · exact va_Nw.warmD hW h9
    · exact va_Nw.warmD hW h9
    · exact va_Nw.warmD hW h9
    · exact va_Nw.warmD hW h9
    · exact va_Nw.warmD hW h9
    · exact va_Nw.warmD hW h9
  · obtain ⟨sa, h9⟩ := h4 k q hq
    exact ⟨sa, vk_R.warm hW h9⟩
def zm_tb : List Cond := lw_tbl.filter goodWord
theorem zm_tb_in {w : Cond} (h : w ∈ lw_tbl) (hg : goodWord w = true) : w ∈ zm_tb := List.mem_filter.mpr ⟨h, hg⟩
/-- what holds in the body of method y -/
def zm_cx (X : zm_X) (b b0 : Nat) (D : va_G) (cA : Nat → ClassId) (p : Program) (s : State) (m : MethodId) (args : Array Value) (meth : Method) (c : Code) (u0 y : Nat) : Prop :=
  p.tables.exec = Jvm.exec ∧ c.code = zm_by y ∧ c.maxLocals = zm_mx y ∧ s.vm.findClass (zm_cn (zm_own y)) = some m.cls ∧ (∀ w ∈ zm_tb, w.before args s = true) ∧ meth.name = (zm_md y).1 ∧ zm_G D cA s ∧ va_X b0 X.1 X.2 s s.heap ∧ b0 < b ∧ b ≤ s.heap.size ∧ s.heap.size ≤ b + u0
/-- how far the walk is -/
def zm_wk (b b0 : Nat) (D : va_G) (cA : Nat → ClassId) (s : State) (h : zm_H) (H : Heap) (locs : List Loc) : Prop := va_P D zm_cl (zm_ws b b0 cA h) H ∧ va_S (zm_A b) s.heap H locs
def zm_uc (h : zm_H) : Nat := h.2.1 + h.2.2.2
def zm_us (h : zm_H) : Nat := h.2.2.1
theorem zm_ii_spec {f : Int32 → Int32 → Int32} {pc' : Nat} {ml st : List Value} {h : zm_H} {z : zm_S} (hz : zm_ii f pc' ml st h = some z) : ∃ x y t, st = .int y :: .int x :: t ∧ z = (pc', ml, .int (f x y) :: t, h) := by
  unfold zm_ii at hz
  split at hz
  · cases hz; exact ⟨_, _, _, rfl, rfl⟩
  · cases hz
theorem zm_ll_spec {f : Int64 → Int64 → Int64} {pc' : Nat} {ml st : List Value} {h : zm_H} {z : zm_S} (hz : zm_ll f pc' ml st h = some z) : ∃ x y t, st = .long y :: .long x :: t ∧ z = (pc', ml, .long (f x y) :: t, h) := by
  unfold zm_ll at hz
  split at hz
  · cases hz; exact ⟨_, _, _, rfl, rfl⟩
  · cases hz
theorem zm_li_spec {f : Int64 → Int32 → Int64} {pc' : Nat} {ml st : List Value} {h : zm_H} {z : zm_S} (hz : zm_li f pc' ml st h = some z) : ∃ x y t, st = .int y :: .long x :: t ∧ z = (pc', ml, .long (f x y) :: t, h) := by
  unfold zm_li at hz
  split at hz
  · cases hz; exact ⟨_, _, _, rfl, rfl⟩
  · cases hz
theorem zm_iload_spec {k pc' : Nat} {ml st : List Value} {h : zm_H} {z : zm_S} (hz : zm_iload k pc' ml st h = some z) : ∃ x, ml[k]? = some (.int x) ∧ z = (pc', ml, .int x :: st, h) := by
  unfold zm_iload at hz
  split at hz
  · cases hz; exact ⟨_, by assumption, rfl⟩
  · cases hz
theorem zm_lload_spec {k pc' : Nat} {ml st : List Value} {h : zm_H} {z : zm_S} (hz : zm_lload k pc' ml st h = some z) : ∃ x, ml[k]? = some (.long x) ∧ z = (pc', ml, .long x :: st, h) := by
  unfold zm_lload at hz
  split at hz
  · cases hz; exact ⟨_, by assumption, rfl⟩
  · cases hz
theorem zm_aload_spec {k pc' : Nat} {ml st : List Value} {h : zm_H} {z : zm_S} (b b0 : Nat) (hz : zm_aload k pc' ml st h = some z) : ∃ v a, ml[k]? = some v ∧ v ≠ zm_mk ∧ zm_tr b b0 v = .ref a ∧ z = (pc', ml, v :: st, h) := by
  unfold zm_aload at hz
  split at hz
  · cases hz; exact ⟨_, _, by assumption, (by intro h; cases h), rfl, rfl⟩
  · cases hz; exact ⟨_, _, by assumption, (by intro h; cases h), rfl, rfl⟩
  · cases hz
theorem zm_istore_spec {k pc' : Nat} {ml st : List Value} {h : zm_H} {z : zm_S} (hz : zm_istore k pc' ml st h = some z) : ∃ x t l, st = .int x :: t ∧ zm_sto ml k (.int x) = some l ∧ z = (pc', l, t, h) := by
  unfold zm_istore at hz
  split at hz
  · obtain ⟨l, h1, h2⟩ := Option.map_eq_some_iff.mp hz
    exact ⟨_, _, l, rfl, h1, h2.symm⟩
  · cases hz
theorem zm_lstore_spec {k pc' : Nat} {ml st : List Value} {h : zm_H} {z : zm_S} (hz : zm_lstore k pc' ml st h = some z) : ∃ x t l, st = .long x :: t ∧ zm_sto2 ml k (.long x) = some l ∧ z = (pc', l, t, h) := by
  unfold zm_lstore at hz
  split at hz
  · obtain ⟨l, h1, h2⟩ := Option.map_eq_some_iff.mp hz
    exact ⟨_, _, l, rfl, h1, h2.symm⟩
  · cases hz
theorem zm_astore_spec {k pc' : Nat} {ml st : List Value} {h : zm_H} {z : zm_S} (hz : zm_astore k pc' ml st h = some z) : ∃ x t l, st = .ref x :: t ∧ zm_sto ml k (.ref x) = some l ∧ z = (pc', l, t, h) := by
  unfold zm_astore at hz
  split at hz
  · obtain ⟨l, h1, h2⟩ := Option.map_eq_some_iff.mp hz
    exact ⟨_, _, l, rfl, h1, h2.symm⟩
  · cases hz
theorem zm_jmp_spec {pc : Nat} {off : Int} {ml st : List Value} {h : zm_H} {z : zm_S} (hz : zm_jmp pc off ml st h = some z) : ∃ tgt : Nat, (pc : Int) + off = (tgt : Int) ∧ z = (tgt, ml, st, h) := by
  unfold zm_jmp at hz
  split at hz
  · rename_i h1
    cases hz
    exact ⟨_, (Int.toNat_of_nonneg h1).symm, rfl⟩
  · cases hz
theorem zm_iarr_spec {h : zm_H} {a n : Nat} {f : Nat → Int32} (hz : zm_iarr h a = some (n, f)) : a < h.2.1 ∧ h.1 a = .inl (0, n, .inl f) := by
  unfold zm_iarr at hz
  split at hz
  · rename_i h1
    cases hc : Nat.blt a h.2.1 with
    | false => rw [hc] at hz; cases hz
    | true => rw [hc] at hz; cases hz; exact ⟨Nat.blt_eq.mp hc, h1⟩
  · cases hz
theorem zm_larr_spec {h : zm_H} {a n : Nat} {f : Nat → Int64} (hz : zm_larr h a = some (n, f)) : a < h.2.1 ∧ h.1 a = .inl (1, n, .inr (.inl f)) := by
  unfold zm_larr at hz
  split at hz
  · rename_i h1
    cases hc : Nat.blt a h.2.1 with
    | false => rw [hc] at hz; cases hz
    | true => rw [hc] at hz; cases hz; exact ⟨Nat.blt_eq.mp hc, h1⟩
  · cases hz
theorem zm_qarr_spec {h : zm_H} {a n : Nat} {f : Nat → Option Nat} (hz : zm_qarr h a = some (n, f)) : a < h.2.1 ∧ h.1 a = .inl (2, n, .inr (.inr (.inr (.inr f)))) := by
  unfold zm_qarr at hz
  split at hz
  · rename_i h1
    cases hc : Nat.blt a h.2.1 with
    | false => rw [hc] at hz; cases hz
    | true => rw [hc] at hz; cases hz; exact ⟨Nat.blt_eq.mp hc, h1⟩
  · cases hz
theorem zm_obj_spec {h : zm_H} {a : Nat} {x : Nat × List Value} (hz : zm_obj h a = some x) : a < h.2.1 ∧ h.1 a = .inr x := by
  unfold zm_obj at hz
  split at hz
  · rename_i h1
    cases hc : Nat.blt a h.2.1 with
    | false => rw [hc] at hz; cases hz
    | true => rw [hc] at hz; cases hz; exact ⟨Nat.blt_eq.mp hc, h1⟩
  · cases hz
theorem zm_br_spec {bb : Bool} {pc pc' : Nat} {off : Int} {ml st : List Value} {h : zm_H} {z : zm_S} (hz : zm_br bb pc pc' off ml st h = some z) : ∃ tgt : Nat, (pc : Int) + off = (tgt : Int) ∧ z = (cond bb tgt pc', ml, st, h) := by
  unfold zm_br at hz
  split at hz
  · rename_i h1
    cases hz
    exact ⟨_, (Int.toNat_of_nonneg h1).symm, rfl⟩
  · cases hz
section ZST
variable {p : Program} {l : Launch} {e : Env} {R : Room} {s : State} {m : MethodId} {args : Array Value} {below : List Frame} {meth : Method} {c : Code} {H : Heap} {locs : List Loc} {cells slots : Nat} {Q : State → Prop}
variable {X : zm_X} {b b0 : Nat} {D : va_G} {cA : Nat → ClassId} {u0 v0 : Nat}
theorem zm_sz {g : JFrame} (k : H.size ≤ s.heap.size + cells → W p l e R s m args below meth c H locs cells slots Q g) : W p l e R s m args below meth c H locs cells slots Q g := fun T hT X => k (by have := X.heapSize; rw [hT] at this; exact this) T hT X
theorem zm_wk_put {a : Nat} {h : zm_H} {e1 : zm_E} {H1 : Heap} {locs1 : List Loc}
    (hP : va_P D zm_cl ((zm_ws b b0 cA h).set a (b + a, zm_cv b b0 cA e1)) H1) (hS : va_S (zm_A b) s.heap H1 locs1) : zm_wk b b0 D cA s (zm_put h a e1) H1 locs1 := by
  rw [zm_ws_put] at hP
  exact ⟨hP, hS⟩
theorem zm_size {h : zm_H} (hP : va_P D zm_cl (zm_ws b b0 cA h) H) (hb : b ≤ H.size) : b + h.2.1 ≤ H.size := by
  by_cases h0 : h.2.1 = 0
  · omega
  · have h1 := zm_ws_at (b := b) (b0 := b0) (cA := cA) (h := h) (a := h.2.1 - 1) (by omega)
    have h2 := vx_lt hP h1
    simp at h2
    omega
/-- a new cell -/
theorem zm_wk_new {h : zm_H} {e1 : zm_E} {k : Nat} {H1 : Heap} (hw : zm_wk b b0 D cA s h H locs) (hz : H.size = b + h.2.1) (hs : H1.size = H.size + 1) (ho : ∀ q, q < H.size → H1[q]? = H[q]?)
    (hn : va_at D zm_cl (b + h.2.1, zm_cv b b0 cA e1) H1) : zm_wk b b0 D cA s (zm_new h e1 k) H1 locs := by
  refine ⟨?_, Nat.le_trans hw.2.1 (by omega), fun x h1 h2 => (ho x (Nat.lt_of_lt_of_le h1 hw.2.1)).trans (hw.2.2.1 x h1 h2), hw.2.2.2⟩
  rw [← zm_ws_new]
  refine (hw.1.kept (fun k x hx => ho x.1 ((hw.1 k x hx).lt))).app (fun k x hx => ?_)
  have hz : k < 1 := (List.getElem?_eq_some_iff.mp hx).1
  rw [show k = 0 by omega] at hx
  cases hx
  exact hn
set_option maxHeartbeats 4000000 in
theorem zm_st_sound {y pc pc' pc2 : Nat} {i : Instr} {ml st ml2 st2 : List Value} {h h2 : zm_H} {ls : Array Slot} (C : zm_cx X b b0 D cA p s m args meth c u0 y) (hd : decode (zm_by y) pc = .ok (i, pc' - pc)) (hlen : pc' = pc + zm_len i ∨ zm_len i = 0)
    (hz : zm_st X i pc pc' ml st h = some (pc2, ml2, st2, h2)) (hl : zm_lr b b0 ml ls (zm_mx y)) (hw : zm_wk b b0 D cA s h H locs) (hu : cells + u0 = zm_uc h) (hv : slots + v0 = zm_us h) (hR : zm_uc h2 ≤ u0 + R.cells) (hR2 : zm_us h2 ≤ v0 + R.slots)
    (kk : ∀ (ls2 : Array Slot) (H2 : Heap) (locs2 : List Loc) (cells2 slots2 : Nat), cells2 + u0 = zm_uc h2 → slots2 + v0 = zm_us h2 → zm_lr b b0 ml2 ls2 (zm_mx y) → zm_wk b b0 D cA s h2 H2 locs2 → W p l e R s m args below meth c H2 locs2 cells2 slots2 Q (F0 m pc2 ls2 (st2.map (zm_tr b b0)))) :
    W p l e R s m args below meth c H locs cells slots Q (F0 m pc ls (st.map (zm_tr b b0))) := by
  obtain ⟨hx, hb, hml, hown, hts, hnm, hG, hX, hb0, hbs, hub⟩ := id C
  have hK := hG.1
  have hP := hw.1
  have hS := hw.2
  have hD := zm_ws_D b b0 cA h
  have hA : ∀ q : Nat, s.heap.size ≤ q → zm_A b q := fun q hq => Nat.le_trans hbs hq
  have hd2 : zm_len i ≠ 0 → decode (zm_by y) pc = .ok (i, zm_len i) ∧ pc' = pc + zm_len i := by
    intro h0
    rcases hlen with h1 | h1
    · subst h1
      rw [Nat.add_sub_cancel_left] at hd
      exact ⟨hd, rfl⟩
    · exact absurd h1 h0
  have mk_i : ∀ x : Int32, Value.int x ≠ zm_mk := fun x h => by cases h
  have mk_l : ∀ x : Int64, Value.long x ≠ zm_mk := fun x h => by cases h
  have in_i : ∀ {a n : Nat} {f : Nat → Int32}, zm_iarr h a = some (n, f) → (zm_ws b b0 cA h)[a]? = some (b + a, .inl (cA 0, n, .inl f)) := by
    intro a n f h1
    obtain ⟨h2, h3⟩ := zm_iarr_spec h1
    rw [zm_ws_at h2, h3]
    rfl
  have in_l : ∀ {a n : Nat} {f : Nat → Int64}, zm_larr h a = some (n, f) → (zm_ws b b0 cA h)[a]? = some (b + a, .inl (cA 1, n, .inr (.inl f))) := by
    intro a n f h1
    obtain ⟨h2, h3⟩ := zm_larr_spec h1
    rw [zm_ws_at h2, h3]
    rfl
  have in_q : ∀ {a n : Nat} {f : Nat → Option Nat}, zm_qarr h a = some (n, f) → (zm_ws b b0 cA h)[a]? = some (b + a, .inl (cA 2, n, .inr (.inr (.inr (.inr (fun j => (f j).map (fun a => b + a))))))) := by
    intro a n f h1
    obtain ⟨h2, h3⟩ := zm_qarr_spec h1
    rw [zm_ws_at h2, h3]
    rfl
  cases i
  case iconst n =>
    obtain ⟨hd9, rfl⟩ := hd2 (by simp [zm_len])
    cases hz
    exact lv_iconst hx hb hd9 rfl (kk ls H locs cells slots hu hv hl hw)
  case bipush n =>
    obtain ⟨hd9, rfl⟩ := hd2 (by simp [zm_len])
    cases hz
    exact lv_bipush hx hb hd9 rfl (kk ls H locs cells slots hu hv hl hw)
  case sipush n =>
    obtain ⟨hd9, rfl⟩ := hd2 (by simp [zm_len])
    cases hz
    exact lv_sipush hx hb hd9 rfl (kk ls H locs cells slots hu hv hl hw)
  case lconst n =>
    obtain ⟨hd9, rfl⟩ := hd2 (by simp [zm_len])
    cases hz
    exact lv_lconst hx hb hd9 rfl (kk ls H locs cells slots hu hv hl hw)
  case iload k =>
    obtain ⟨hd9, rfl⟩ := hd2 (by simp [zm_len])
    obtain ⟨x, h1, e1⟩ := zm_iload_spec hz
    cases e1
    exact lv_iload hx hb hd9 (zm_lr_at hl h1 (mk_i x)) (kk ls H locs cells slots hu hv hl hw)
  case iload_n k =>
    obtain ⟨hd9, rfl⟩ := hd2 (by simp [zm_len])
    obtain ⟨x, h1, e1⟩ := zm_iload_spec hz
    cases e1
    exact lv_iload_n hx hb hd9 rfl (zm_lr_at hl h1 (mk_i x)) (kk ls H locs cells slots hu hv hl hw)
  case lload k =>
    obtain ⟨hd9, rfl⟩ := hd2 (by simp [zm_len])
    obtain ⟨x, h1, e1⟩ := zm_lload_spec hz
    cases e1
    exact lv_lload hx hb hd9 (zm_lr_at hl h1 (mk_l x)) (kk ls H locs cells slots hu hv hl hw)
  case lload_n k =>
    obtain ⟨hd9, rfl⟩ := hd2 (by simp [zm_len])
    obtain ⟨x, h1, e1⟩ := zm_lload_spec hz
    cases e1
    exact lv_lload_n hx hb hd9 rfl (zm_lr_at hl h1 (mk_l x)) (kk ls H locs cells slots hu hv hl hw)
  case aload k =>
    obtain ⟨hd9, rfl⟩ := hd2 (by simp [zm_len])
    obtain ⟨v, a, h1, h2, h3, e1⟩ := zm_aload_spec b b0 hz
    cases e1
    have h4 := zm_lr_at hl h1 h2
    have k9 := kk ls H locs cells slots hu hv hl hw
    rw [h3] at h4
    rw [List.map_cons, h3] at k9
    exact lv_aload hx hb hd9 h4 k9
  case aload_n k =>
    obtain ⟨hd9, rfl⟩ := hd2 (by simp [zm_len])
    obtain ⟨v, a, h1, h2, h3, e1⟩ := zm_aload_spec b b0 hz
    cases e1
    have h4 := zm_lr_at hl h1 h2
    have k9 := kk ls H locs cells slots hu hv hl hw
    rw [h3] at h4
    rw [List.map_cons, h3] at k9
    exact lv_aload_n hx hb hd9 rfl h4 k9
  case istore k =>
    obtain ⟨hd9, rfl⟩ := hd2 (by simp [zm_len])
    obtain ⟨x, t, l1, rfl, h1, e1⟩ := zm_istore_spec hz
    cases e1
    exact lv_istore hx hb hd9 (zm_lr_has hl) (by rw [← hl.2.1]; exact (zm_sto_spec h1).1) rfl (fun ls' h' => kk ls' H locs cells slots hu hv (zm_lr_sto hl h1 h') hw)
  case istore_n k =>
    obtain ⟨hd9, rfl⟩ := hd2 (by simp [zm_len])
    obtain ⟨x, t, l1, rfl, h1, e1⟩ := zm_istore_spec hz
    cases e1
    exact lv_istore_n hx hb hd9 rfl (zm_lr_has hl) (by rw [← hl.2.1]; exact (zm_sto_spec h1).1) rfl (fun ls' h' => kk ls' H locs cells slots hu hv (zm_lr_sto hl h1 h') hw)
  case lstore k =>
    obtain ⟨hd9, rfl⟩ := hd2 (by simp [zm_len])
    obtain ⟨x, t, l1, rfl, h1, e1⟩ := zm_lstore_spec hz
    cases e1
    exact lv_lstore hx hb hd9 (zm_lr_has hl) (by rw [← hl.2.1]; exact (zm_sto2_spec h1).1) rfl (fun ls' h' => kk ls' H locs cells slots hu hv (zm_lr_sto2 hl h1 h') hw)
  case lstore_n k =>
    obtain ⟨hd9, rfl⟩ := hd2 (by simp [zm_len])
    obtain ⟨x, t, l1, rfl, h1, e1⟩ := zm_lstore_spec hz
    cases e1
    exact lv_lstore_n hx hb hd9 rfl (zm_lr_has hl) (by rw [← hl.2.1]; exact (zm_sto2_spec h1).1) rfl (fun ls' h' => kk ls' H locs cells slots hu hv (zm_lr_sto2 hl h1 h') hw)
  case astore k =>
    obtain ⟨hd9, rfl⟩ := hd2 (by simp [zm_len])
    obtain ⟨x, t, l1, rfl, h1, e1⟩ := zm_astore_spec hz
    cases e1
    exact lv_astore hx hb hd9 (zm_lr_has hl) (by rw [← hl.2.1]; exact (zm_sto_spec h1).1) rfl (fun ls' h' => kk ls' H locs cells slots hu hv (zm_lr_sto hl h1 h') hw)
  case astore_n k =>
    obtain ⟨hd9, rfl⟩ := hd2 (by simp [zm_len])
    obtain ⟨x, t, l1, rfl, h1, e1⟩ := zm_astore_spec hz
    cases e1
    exact lv_astore_n hx hb hd9 rfl (zm_lr_has hl) (by rw [← hl.2.1]; exact (zm_sto_spec h1).1) rfl (fun ls' h' => kk ls' H locs cells slots hu hv (zm_lr_sto hl h1 h') hw)
  case iinc k n =>
    obtain ⟨hd9, rfl⟩ := hd2 (by simp [zm_len])
    simp only [zm_st] at hz
    split at hz
    · rename_i x h1
      obtain ⟨l1, h2, e1⟩ := Option.map_eq_some_iff.mp hz
      cases e1
      obtain ⟨k9, hk9⟩ := List.getElem?_of_mem (zm_pr_mem (b := b) (b0 := b0) (ml := ml) (q := (k, .int x)) |>.mpr ⟨_, h1, mk_i x, rfl⟩)
      exact lv_iinc hx hb hd9 (zm_lr_has hl) hk9 rfl (by rw [← hl.2.1]; exact (zm_sto_spec h2).1) rfl (fun ls' h' => kk ls' H locs cells slots hu hv (zm_lr_sto hl h2 h') hw)
    · cases hz
  case iadd =>
    obtain ⟨hd9, rfl⟩ := hd2 (by simp [zm_len])
    obtain ⟨x, y1, t, rfl, e1⟩ := zm_ii_spec hz
    cases e1
    exact lv_iadd hx hb hd9 (kk ls H locs cells slots hu hv hl hw)
  case isub =>
    obtain ⟨hd9, rfl⟩ := hd2 (by simp [zm_len])
    obtain ⟨x, y1, t, rfl, e1⟩ := zm_ii_spec hz
    cases e1
    exact lv_isub hx hb hd9 (kk ls H locs cells slots hu hv hl hw)
  case imul =>
    obtain ⟨hd9, rfl⟩ := hd2 (by simp [zm_len])
    obtain ⟨x, y1, t, rfl, e1⟩ := zm_ii_spec hz
    cases e1
    exact lv_imul hx hb hd9 (kk ls H locs cells slots hu hv hl hw)
  case iand =>
    obtain ⟨hd9, rfl⟩ := hd2 (by simp [zm_len])
    obtain ⟨x, y1, t, rfl, e1⟩ := zm_ii_spec hz
    cases e1
    exact lv_iand hx hb hd9 (kk ls H locs cells slots hu hv hl hw)
  case ior =>
    obtain ⟨hd9, rfl⟩ := hd2 (by simp [zm_len])
    obtain ⟨x, y1, t, rfl, e1⟩ := zm_ii_spec hz
    cases e1
    exact lv_ior hx hb hd9 (kk ls H locs cells slots hu hv hl hw)
  case ixor =>
    obtain ⟨hd9, rfl⟩ := hd2 (by simp [zm_len])
    obtain ⟨x, y1, t, rfl, e1⟩ := zm_ii_spec hz
    cases e1
    exact lv_ixor hx hb hd9 (kk ls H locs cells slots hu hv hl hw)
  case ishl =>
    obtain ⟨hd9, rfl⟩ := hd2 (by simp [zm_len])
    obtain ⟨x, y1, t, rfl, e1⟩ := zm_ii_spec hz
    cases e1
    exact lv_ishl hx hb hd9 (kk ls H locs cells slots hu hv hl hw)
  case ishr =>
    obtain ⟨hd9, rfl⟩ := hd2 (by simp [zm_len])
    obtain ⟨x, y1, t, rfl, e1⟩ := zm_ii_spec hz
    cases e1
    exact lv_ishr hx hb hd9 (kk ls H locs cells slots hu hv hl hw)
  case iushr =>
    obtain ⟨hd9, rfl⟩ := hd2 (by simp [zm_len])
    obtain ⟨x, y1, t, rfl, e1⟩ := zm_ii_spec hz
    cases e1
    exact lv_iushr hx hb hd9 rfl (kk ls H locs cells slots hu hv hl hw)
  case idiv =>
    obtain ⟨hd9, rfl⟩ := hd2 (by simp [zm_len])
    simp only [zm_st] at hz
    split at hz
    · split at hz
      · cases hz
      · rename_i h1
        cases hz
        exact lv_idiv hx hb hd9 h1 (kk ls H locs cells slots hu hv hl hw)
    · cases hz
  case irem =>
    obtain ⟨hd9, rfl⟩ := hd2 (by simp [zm_len])
    simp only [zm_st] at hz
    split at hz
    · split at hz
      · cases hz
      · rename_i h1
        cases hz
        exact lv_irem hx hb hd9 h1 (kk ls H locs cells slots hu hv hl hw)
    · cases hz
  case ladd =>
    obtain ⟨hd9, rfl⟩ := hd2 (by simp [zm_len])
    obtain ⟨x, y1, t, rfl, e1⟩ := zm_ll_spec hz
    cases e1
    exact lv_ladd hx hb hd9 (kk ls H locs cells slots hu hv hl hw)
  case lsub =>
    obtain ⟨hd9, rfl⟩ := hd2 (by simp [zm_len])
    obtain ⟨x, y1, t, rfl, e1⟩ := zm_ll_spec hz
    cases e1
    exact lv_lsub hx hb hd9 (kk ls H locs cells slots hu hv hl hw)
  case lmul =>
    obtain ⟨hd9, rfl⟩ := hd2 (by simp [zm_len])
    obtain ⟨x, y1, t, rfl, e1⟩ := zm_ll_spec hz
    cases e1
    exact lv_lmul hx hb hd9 (kk ls H locs cells slots hu hv hl hw)
  case land =>
    obtain ⟨hd9, rfl⟩ := hd2 (by simp [zm_len])
    obtain ⟨x, y1, t, rfl, e1⟩ := zm_ll_spec hz
    cases e1
    exact lv_land hx hb hd9 (kk ls H locs cells slots hu hv hl hw)
  case lor =>
    obtain ⟨hd9, rfl⟩ := hd2 (by simp [zm_len])
    obtain ⟨x, y1, t, rfl, e1⟩ := zm_ll_spec hz
    cases e1
    exact lv_lor hx hb hd9 (kk ls H locs cells slots hu hv hl hw)
  case lxor =>
    obtain ⟨hd9, rfl⟩ := hd2 (by simp [zm_len])
    obtain ⟨x, y1, t, rfl, e1⟩ := zm_ll_spec hz
    cases e1
    exact lv_lxor hx hb hd9 (kk ls H locs cells slots hu hv hl hw)
  case lshl =>
    obtain ⟨hd9, rfl⟩ := hd2 (by simp [zm_len])
    obtain ⟨x, y1, t, rfl, e1⟩ := zm_li_spec hz
    cases e1
    exact lv_lshl hx hb hd9 rfl (kk ls H locs cells slots hu hv hl hw)
  case lshr =>
    obtain ⟨hd9, rfl⟩ := hd2 (by simp [zm_len])
    obtain ⟨x, y1, t, rfl, e1⟩ := zm_li_spec hz
    cases e1
    exact lv_lshr hx hb hd9 rfl (kk ls H locs cells slots hu hv hl hw)
  case lushr =>
    obtain ⟨hd9, rfl⟩ := hd2 (by simp [zm_len])
    obtain ⟨x, y1, t, rfl, e1⟩ := zm_li_spec hz
    cases e1
    exact lv_lushr hx hb hd9 rfl (kk ls H locs cells slots hu hv hl hw)
  case i2l =>
    obtain ⟨hd9, rfl⟩ := hd2 (by simp [zm_len])
    simp only [zm_st] at hz
    split at hz
    · cases hz
      exact lv_i2l hx hb hd9 rfl (kk ls H locs cells slots hu hv hl hw)
    · cases hz
  case l2i =>
    obtain ⟨hd9, rfl⟩ := hd2 (by simp [zm_len])
    simp only [zm_st] at hz
    split at hz
    · cases hz
      exact lv_l2i hx hb hd9 rfl (kk ls H locs cells slots hu hv hl hw)
    · cases hz
  case lcmp =>
    obtain ⟨hd9, rfl⟩ := hd2 (by simp [zm_len])
    simp only [zm_st] at hz
    split at hz
    · cases hz
      exact W.lcmp hx hb hd9 (kk ls H locs cells slots hu hv hl hw)
    · cases hz
  case dup =>
    obtain ⟨hd9, rfl⟩ := hd2 (by simp [zm_len])
    simp only [zm_st] at hz
    split at hz
    · rename_i v t
      cases h1 : Nat.beq v.category 1 with
      | false => rw [h1] at hz; cases hz
      | true =>
        rw [h1] at hz
        cases hz
        exact lv_dup hx hb hd9 (by rw [zm_tr_cat]; exact Nat.eq_of_beq_eq_true h1) (kk ls H locs cells slots hu hv hl hw)
    · cases hz
  case dup2 =>
    obtain ⟨hd9, rfl⟩ := hd2 (by simp [zm_len])
    simp only [zm_st] at hz
    split at hz
    · rename_i v1 v2 t
      cases h1 : (Nat.beq v1.category 1 && Nat.beq v2.category 1) with
      | false => rw [h1] at hz; cases hz
      | true =>
        rw [h1] at hz
        cases hz
        rw [Bool.and_eq_true] at h1
        exact lv_dup2_11 hx hb hd9 (by rw [zm_tr_cat]; exact Nat.eq_of_beq_eq_true h1.1) (by rw [zm_tr_cat]; exact Nat.eq_of_beq_eq_true h1.2) (kk ls H locs cells slots hu hv hl hw)
    · cases hz
  case pop =>
    obtain ⟨hd9, rfl⟩ := hd2 (by simp [zm_len])
    simp only [zm_st] at hz
    split at hz
    · rename_i v t
      cases h1 : Nat.beq v.category 1 with
      | false => rw [h1] at hz; cases hz
      | true =>
        rw [h1] at hz
        cases hz
        exact lv_pop hx hb hd9 (by rw [zm_tr_cat]; exact Nat.eq_of_beq_eq_true h1) (kk ls H locs cells slots hu hv hl hw)
    · cases hz
  case ifCond k off =>
    obtain ⟨hd9, rfl⟩ := hd2 (by simp [zm_len])
    simp only [zm_st] at hz
    split at hz
    · rename_i x t
      obtain ⟨tgt, h1, e1⟩ := zm_br_spec hz
      cases e1
      have k9 := kk ls H locs cells slots hu hv hl hw
      cases k <;> simp only [zm_c0] at k9
      · exact lv_if_eq hx hb hd9 h1 (fun hc => by rw [decide_eq_true hc] at k9; exact k9) (fun hc => by rw [decide_eq_false hc] at k9; exact k9)
      · exact lv_if_ne hx hb hd9 h1 (fun hc => by rw [decide_eq_true hc] at k9; exact k9) (fun hc => by rw [decide_eq_false (not_not_intro hc)] at k9; exact k9)
      · exact lv_if_lt hx hb hd9 h1 (fun hc => by rw [decide_eq_true hc] at k9; exact k9) (fun hc => by rw [decide_eq_false hc] at k9; exact k9)
      · exact lv_if_ge hx hb hd9 h1 (fun hc => by rw [decide_eq_true hc] at k9; exact k9) (fun hc => by rw [decide_eq_false hc] at k9; exact k9)
      · exact lv_if_gt hx hb hd9 h1 (fun hc => by rw [decide_eq_true hc] at k9; exact k9) (fun hc => by rw [decide_eq_false hc] at k9; exact k9)
      · exact lv_if_le hx hb hd9 h1 (fun hc => by rw [decide_eq_true hc] at k9; exact k9) (fun hc => by rw [decide_eq_false hc] at k9; exact k9)
    · cases hz
  case if_icmp k off =>
    obtain ⟨hd9, rfl⟩ := hd2 (by simp [zm_len])
    simp only [zm_st] at hz
    split at hz
    · rename_i y1 x t
      obtain ⟨tgt, h1, e1⟩ := zm_br_spec hz
      cases e1
      have k9 := kk ls H locs cells slots hu hv hl hw
      cases k <;> simp only [zm_c2] at k9
      · exact lv_icmp_eq hx hb hd9 h1 (fun hc => by rw [decide_eq_true hc] at k9; exact k9) (fun hc => by rw [decide_eq_false hc] at k9; exact k9)
      · exact lv_icmp_ne hx hb hd9 h1 (fun hc => by rw [decide_eq_true hc] at k9; exact k9) (fun hc => by rw [decide_eq_false (not_not_intro hc)] at k9; exact k9)
      · exact lv_icmp_lt hx hb hd9 h1 (fun hc => by rw [decide_eq_true hc] at k9; exact k9) (fun hc => by rw [decide_eq_false hc] at k9; exact k9)
      · exact lv_icmp_ge hx hb hd9 h1 (fun hc => by rw [decide_eq_true hc] at k9; exact k9) (fun hc => by rw [decide_eq_false hc] at k9; exact k9)
      · exact lv_icmp_gt hx hb hd9 h1 (fun hc => by rw [decide_eq_true hc] at k9; exact k9) (fun hc => by rw [decide_eq_false hc] at k9; exact k9)
      · exact lv_icmp_le hx hb hd9 h1 (fun hc => by rw [decide_eq_true hc] at k9; exact k9) (fun hc => by rw [decide_eq_false hc] at k9; exact k9)
    · cases hz
  case goto off =>
    obtain ⟨hd9, rfl⟩ := hd2 (by simp [zm_len])
    obtain ⟨tgt, h1, e1⟩ := zm_jmp_spec hz
    cases e1
    exact lv_goto hx hb hd9 h1 (kk ls H locs cells slots hu hv hl hw)
  case tableswitch d lo hi offs =>
    simp only [zm_st] at hz
    split at hz
    · rename_i x t
      split at hz
      · rename_i h0
        obtain ⟨tgt, h1, e1⟩ := zm_jmp_spec hz
        cases e1
        exact lv_tableOut hx hb hd h0 h1 (kk ls H locs cells slots hu hv hl hw)
      · rename_i h0
        split at hz
        · rename_i off h3
          obtain ⟨tgt, h1, e1⟩ := zm_jmp_spec hz
          cases e1
          exact lv_tableIn hx hb hd (fun q => h0 (Or.inl q)) (fun q => h0 (Or.inr q)) h3 h1 (kk ls H locs cells slots hu hv hl hw)
        · cases hz
    · cases hz
  case iaload =>
    obtain ⟨hd9, rfl⟩ := hd2 (by simp [zm_len])
    simp only [zm_st] at hz
    split at hz
    · rename_i j a t
      split at hz
      · rename_i n f h1
        split at hz
        · cases hz
        · rename_i h3
          cases hz
          exact va_iald hx hb hK hP a 0 (in_i h1) rfl h3 hd9 (kk ls H locs cells slots hu hv hl hw)
      · cases hz
    · rename_i j r t
      split at hz
      · cases hz
      · rename_i h3
        cases hz
        exact va_sld hx hb hX (Nat.lt_of_lt_of_le hb0 hbs) (Nat.not_le.mpr hb0) hS h3 hd9 (kk ls H locs cells slots hu hv hl hw)
    · cases hz
  case laload =>
    obtain ⟨hd9, rfl⟩ := hd2 (by simp [zm_len])
    simp only [zm_st] at hz
    split at hz
    · rename_i j a t
      split at hz
      · rename_i n f h1
        split at hz
        · cases hz
        · rename_i h3
          cases hz
          exact va_lald hx hb hK hP a 1 (in_l h1) rfl h3 hd9 (kk ls H locs cells slots hu hv hl hw)
      · cases hz
    · cases hz
  case aaload =>
    obtain ⟨hd9, rfl⟩ := hd2 (by simp [zm_len])
    simp only [zm_st] at hz
    split at hz
    · rename_i j a t
      split at hz
      · rename_i n f h1
        split at hz
        · cases hz
        · rename_i h3
          split at hz
          · rename_i q h4
            cases hz
            refine va_aldq (C := RX0) hx hb hK hP a 2 (in_q h1) rfl h3 hd9 ?_
            rw [h4]
            exact kk ls H locs cells slots hu hv hl hw
          · cases hz
      · cases hz
    · cases hz
  case iastore =>
    obtain ⟨hd9, rfl⟩ := hd2 (by simp [zm_len])
    simp only [zm_st] at hz
    split at hz
    · rename_i x j a t
      split at hz
      · rename_i n f h1
        split at hz
        · cases hz
        · rename_i h3
          cases hz
          exact va_iast hx hb hK hP hD hS a 0 (in_i h1) rfl h3 hd9 (fun H1 locs1 g1 g2 g3 => kk ls H1 locs1 cells slots hu hv hl (zm_wk_put g1 g3))
      · cases hz
    · cases hz
  case lastore =>
    obtain ⟨hd9, rfl⟩ := hd2 (by simp [zm_len])
    simp only [zm_st] at hz
    split at hz
    · rename_i x j a t
      split at hz
      · rename_i n f h1
        split at hz
        · cases hz
        · rename_i h3
          cases hz
          exact va_last hx hb hK hP hD hS a 1 (in_l h1) rfl h3 hd9 (fun H1 locs1 g1 g2 g3 => kk ls H1 locs1 cells slots hu hv hl (zm_wk_put g1 g3))
      · cases hz
    · cases hz
  case aastore =>
    obtain ⟨hd9, rfl⟩ := hd2 (by simp [zm_len])
    simp only [zm_st] at hz
    split at hz
    · rename_i v j a t
      split at hz
      · rename_i n f fs h1 h4
        split at hz
        · cases hz
        · rename_i h3
          cases hz
          obtain ⟨g1, g2⟩ := zm_obj_spec h4
          have hv9 : (zm_ws b b0 cA h)[v]? = some (b + v, .inr (0, fs.map (zm_tr b b0))) := by rw [zm_ws_at g1, g2]; rfl
          refine va_astq (r := (RX0, TX0, 5)) hx hb hK hP hD hS a 2 v 0 (in_q h1) rfl hv9 rfl h3 hd9 (fun H1 locs1 g1 g2 g3 => kk ls H1 locs1 cells slots hu hv hl (zm_wk_put ?_ g3))
          have e9 : va_up (fun j => (f j).map (fun a => b + a)) j.toNatClampNeg (some (b + v)) = fun k => ((va_up f j.toNatClampNeg (some v)) k).map (fun a => b + a) := by
            funext k
            by_cases hk : k = j.toNatClampNeg
            · simp [va_up, hk]
            · simp [va_up, hk]
          rw [e9] at g1
          exact g1
      · cases hz
    · cases hz
  case arraylength =>
    obtain ⟨hd9, rfl⟩ := hd2 (by simp [zm_len])
    simp only [zm_st] at hz
    split at hz
    · rename_i a t
      split at hz
      · rename_i n f h1
        cases hz
        exact va_alen hx hb hK hP a 0 (in_i h1) rfl rfl hd9 (kk ls H locs cells slots hu hv hl hw)
      · cases hz
    · rename_i a t
      cases hz
      exact va_slen hx hb hX (Nat.lt_of_lt_of_le hb0 hbs) (Nat.not_le.mpr hb0) hS hd9 (kk ls H locs cells slots hu hv hl hw)
    · cases hz
  case newarray ty =>
    obtain ⟨hd9, rfl⟩ := hd2 (by simp [zm_len])
    simp only [zm_st] at hz
    split at hz
    · rename_i n t
      split at hz
      · cases hz
      · rename_i h3
        have h30 : ¬ n < 0 := fun q => h3 (Or.inl q)
        have h31 : n.toNatClampNeg < 10000 := Nat.not_le.mp fun q => h3 (Or.inr (Or.inl q))
        have h32 : h.2.2.2 = 0 := Decidable.not_not.mp fun q => h3 (Or.inr (Or.inr q))
        refine zm_sz fun hsz => ?_
        have hH : H.size = b + h.2.1 := by
          have h1 := zm_size hP (Nat.le_trans hbs hS.1)
          unfold zm_uc at hu
          omega
        split at hz
        · cases hz
          have r1 : zm_uc h + 1 ≤ u0 + R.cells := by have := hR; simp only [zm_uc, zm_new] at this ⊢; omega
          have r2 : zm_us h + n.toNatClampNeg ≤ v0 + R.slots := by have := hR2; simp only [zm_us, zm_new] at this ⊢; omega
          refine va_newaK (atype := .int) hx hb (hts _ (zm_tb_in zm_ar_int rfl)) rfl hd9 rfl h30 rfl (by show n.toNatClampNeg * 4 ≤ _; omega) (by omega) (by omega) hH fun H1 cA1 e1 z1 o1 hAr hNm => ?_
          have hcA : cA1 = cA 0 := Option.some.inj (hNm.symm.trans (hK.2 0 _ rfl).2)
          subst hcA
          exact kk ls H1 locs (cells + 1) (slots + n.toNatClampNeg) (by simp only [zm_uc, zm_new] at hu ⊢; omega) (by simp only [zm_us, zm_new] at hv ⊢; omega) hl (zm_wk_new hw hH (by rw [z1, hH]) (by rw [hH]; exact o1) e1)
        · cases hz
          have r1 : zm_uc h + 1 ≤ u0 + R.cells := by have := hR; simp only [zm_uc, zm_new] at this ⊢; omega
          have r2 : zm_us h + n.toNatClampNeg ≤ v0 + R.slots := by have := hR2; simp only [zm_us, zm_new] at this ⊢; omega
          refine va_newaK (atype := .long) hx hb (hts _ (zm_tb_in zm_ar_long rfl)) rfl hd9 rfl h30 rfl (by show n.toNatClampNeg * 8 ≤ _; omega) (by omega) (by omega) hH fun H1 cA1 e1 z1 o1 hAr hNm => ?_
          have hcA : cA1 = cA 1 := Option.some.inj (hNm.symm.trans (hK.2 1 _ rfl).2)
          subst hcA
          exact kk ls H1 locs (cells + 1) (slots + n.toNatClampNeg) (by simp only [zm_uc, zm_new] at hu ⊢; omega) (by simp only [zm_us, zm_new] at hv ⊢; omega) hl (zm_wk_new hw hH (by rw [z1, hH]) (by rw [hH]; exact o1) e1)
        · cases hz
    · cases hz
  all_goals (simp [zm_st] at hz)
end ZST
end
section
/-! instructions by the pool that are no calls -/
theorem zm_cl_at {a : Nat} (h : a < 8) : zm_cl[a]? = some (zm_cn a, zm_T a, zm_N a) := by
  match a, h with
  | 0, _ => rfl
  | 1, _ => rfl
  | 2, _ => rfl
  | 3, _ => rfl
  | 4, _ => rfl
  | 5, _ => rfl
  | 6, _ => rfl
  | 7, _ => rfl
theorem zm_lay_good (C : String) (T : u_T) (N : Nat) : ∀ w ∈ u_ws C T N, goodWord w = true := by
  intro w hw
  obtain ⟨k, -, rfl⟩ := List.mem_map.mp hw
  unfold u_lay
  split <;> rfl
theorem zm_cls {a : Nat} (h : a < 8) : (∀ w ∈ u_ws (zm_cn a) (zm_T a) (zm_N a), w ∈ zm_tb) ∧ (∀ k, k < zm_N a → parseFieldDescriptor (zm_T a k).2.2.1 = some (zm_ty a k)) ∧ (∀ x, x < zm_N a → ∀ y, y < zm_N a → x ≠ y → (zm_T a x).2.1 ≠ (zm_T a y).2.1) ∧ Cond.instantiable (zm_cn a) (zm_N a) ∈ zm_tb ∧ Cond.initialized (zm_cn a) ∈ zm_tb := by
  match a, h with
  | 0, _ => exact ⟨fun w hw => zm_tb_in (zm_h0 w hw) (zm_lay_good _ _ _ w hw), zm_t0, zm_n0, zm_tb_in zm_i0 rfl, zm_tb_in zm_z0 rfl⟩
  | 1, _ => exact ⟨fun w hw => zm_tb_in (zm_h1 w hw) (zm_lay_good _ _ _ w hw), zm_t1, zm_n1, zm_tb_in zm_i1 rfl, zm_tb_in zm_z1 rfl⟩
  | 2, _ => exact ⟨fun w hw => zm_tb_in (zm_h2 w hw) (zm_lay_good _ _ _ w hw), zm_t2, zm_n2, zm_tb_in zm_i2 rfl, zm_tb_in zm_z2 rfl⟩
  | 3, _ => exact ⟨fun w hw => zm_tb_in (zm_h3 w hw) (zm_lay_good _ _ _ w hw), zm_t3, zm_n3, zm_tb_in zm_i3 rfl, zm_tb_in zm_z3 rfl⟩
  | 4, _ => exact ⟨fun w hw => zm_tb_in (zm_h4 w hw) (zm_lay_good _ _ _ w hw), zm_t4, zm_n4, zm_tb_in zm_i4 rfl, zm_tb_in zm_z4 rfl⟩
  | 5, _ => exact ⟨fun w hw => zm_tb_in (zm_h5 w hw) (zm_lay_good _ _ _ w hw), zm_t5, zm_n5, zm_tb_in zm_i5 rfl, zm_tb_in zm_z5 rfl⟩
  | 6, _ => exact ⟨fun w hw => zm_tb_in (zm_h6 w hw) (zm_lay_good _ _ _ w hw), zm_t6, zm_n6, zm_tb_in zm_i6 rfl, zm_tb_in zm_z6 rfl⟩
  | 7, _ => exact ⟨fun w hw => zm_tb_in (zm_h7 w hw) (zm_lay_good _ _ _ w hw), zm_t7, zm_n7, zm_tb_in zm_i7 rfl, zm_tb_in zm_z7 rfl⟩
theorem zm_fit_ok (b b0 : Nat) {ty : FieldType} {v : Value} (h : zm_fit ty v = true) : narrow ty (zm_tr b b0 v) = zm_tr b b0 v ∧ fits ty (zm_tr b b0 v) = true := by
  unfold zm_fit at h
  split at h
  · exact ⟨rfl, rfl⟩
  · exact ⟨rfl, rfl⟩
  · exact ⟨rfl, rfl⟩
  · cases h
theorem zm_dc_ok {y pc n : Nat} {i : Instr} (h : zm_dc y pc i n = true) : decode (zm_by y) pc = .ok (i, n) := of_decide_eq_true h
theorem zm_dv_ok (a j : Nat) (h : a < 8) (hj : j < zm_N a) : defaultValue (zm_ty a j) = zm_dv (zm_ty a j) := by
  have key : ∀ a, a < 8 → ∀ j, j < zm_N a → zm_ty a j ≠ .long ∧ zm_ty a j ≠ .float ∧ zm_ty a j ≠ .double ∧ zm_ty a j ≠ .boolean ∧ zm_ty a j ≠ .byte ∧ zm_ty a j ≠ .char ∧ zm_ty a j ≠ .short := by decide +kernel
  have := key a h j hj
  cases ht : zm_ty a j <;> simp_all [defaultValue, zm_dv]
section ZRS
variable {p : Program} {l : Launch} {e : Env} {R : Room} {s : State} {m : MethodId} {args : Array Value} {below : List Frame} {meth : Method} {c : Code} {H : Heap} {locs : List Loc} {cells slots : Nat} {Q : State → Prop}
variable {X : zm_X} {b b0 : Nat} {D : va_G} {cA : Nat → ClassId} {u0 v0 : Nat}
set_option maxHeartbeats 4000000 in
theorem zm_rs_sound {y pc pc' pc2 k idx a j : Nat} {ml st ml2 st2 : List Value} {h h2 : zm_H} {ls : Array Slot} (C : zm_cx X b b0 D cA p s m args meth c u0 y) (hok : zm_okI y (pc, .inr (k, idx, a, j), pc') = true)
    (hz : zm_rs k idx a j pc' ml st h = some (pc2, ml2, st2, h2)) (hl : zm_lr b b0 ml ls (zm_mx y)) (hw : zm_wk b b0 D cA s h H locs) (hu : cells + u0 = zm_uc h) (hv : slots + v0 = zm_us h) (hR : zm_uc h2 ≤ u0 + R.cells) (hR2 : zm_us h2 ≤ v0 + R.slots)
    (hf1 : 1 ≤ R.frames) (hf2 : 40 ≤ R.locals)
    (kk : ∀ (ls2 : Array Slot) (H2 : Heap) (locs2 : List Loc) (cells2 slots2 : Nat), cells2 + u0 = zm_uc h2 → slots2 + v0 = zm_us h2 → zm_lr b b0 ml2 ls2 (zm_mx y) → zm_wk b b0 D cA s h2 H2 locs2 → W p l e R s m args below meth c H2 locs2 cells2 slots2 Q (F0 m pc2 ls2 (st2.map (zm_tr b b0)))) :
    W p l e R s m args below meth c H locs cells slots Q (F0 m pc ls (st.map (zm_tr b b0))) := by
  obtain ⟨hx, hb, hml, hown, hts, hnm, hG, hX, hb0, hbs, hub⟩ := id C
  have hK := hG.1
  have hP := hw.1
  have hS := hw.2
  have hD := zm_ws_D b b0 cA h
  have in_i : ∀ {a n : Nat} {f : Nat → Int32}, zm_iarr h a = some (n, f) → (zm_ws b b0 cA h)[a]? = some (b + a, .inl (cA 0, n, .inl f)) := by
    intro a n f h1
    obtain ⟨h2, h3⟩ := zm_iarr_spec h1
    rw [zm_ws_at h2, h3]
    rfl
  have in_l : ∀ {a n : Nat} {f : Nat → Int64}, zm_larr h a = some (n, f) → (zm_ws b b0 cA h)[a]? = some (b + a, .inl (cA 1, n, .inr (.inl f))) := by
    intro a n f h1
    obtain ⟨h2, h3⟩ := zm_larr_spec h1
    rw [zm_ws_at h2, h3]
    rfl
  have in_o : ∀ {a : Nat} {x : Nat × List Value}, zm_obj h a = some x → (zm_ws b b0 cA h)[a]? = some (b + a, .inr (x.1, x.2.map (zm_tr b b0))) := by
    intro a x h1
    obtain ⟨h2, h3⟩ := zm_obj_spec h1
    rw [zm_ws_at h2, h3]
    rfl
  have hfull : ∀ {w : Cond}, w ∈ lw_tbl → goodWord w = true → w.before args s = true := fun h1 h2 => hts _ (zm_tb_in h1 h2)
  revert hok hz
  match k with
  | 0 =>
    intro hok hz
    simp only [zm_okI, Bool.and_eq_true, decide_eq_true_eq, Nat.blt_eq] at hok
    obtain ⟨⟨⟨⟨d1, d2⟩, d3⟩, d4⟩, d5⟩ := hok
    have d2 := Nat.eq_of_beq_eq_true d2
    subst d2
    simp only [zm_rs] at hz
    split at hz
    · rename_i q t
      split at hz
      · rename_i cc fs h1
        cases h3 : Nat.beq cc a with
        | false => rw [h3] at hz; cases hz
        | true =>
          rw [h3] at hz
          have h3 := Nat.eq_of_beq_eq_true h3
          subst h3
          simp only [cond_true] at hz
          split at hz
          · rename_i v h4
            cases hz
            exact va_get hx hb hts (zm_cls d5).1 hown hK hP q (in_o h1) (zm_cl_at d5) j d4 (hfull (zm_fl_in _ d3) rfl) (fun _ h => h) (v := zm_tr b b0 v) (by rw [List.getElem?_map, h4]; rfl) (zm_dc_ok d1) (kk ls H locs cells slots hu hv hl hw)
          · cases hz
      · cases hz
    · cases hz
  | 1 =>
    intro hok hz
    simp only [zm_okI, Bool.and_eq_true, decide_eq_true_eq, Nat.blt_eq, Bool.not_eq_true'] at hok
    obtain ⟨⟨⟨⟨⟨d1, d2⟩, d3⟩, d4⟩, d5⟩, d6⟩ := hok
    have d2 := Nat.eq_of_beq_eq_true d2
    subst d2
    simp only [zm_rs] at hz
    split at hz
    · rename_i v q t
      split at hz
      · rename_i cc fs h1
        cases h3 : (Nat.beq cc a && Nat.blt j fs.length && zm_fit (zm_ty a j) v) with
        | false => rw [h3] at hz; cases hz
        | true =>
          rw [h3] at hz
          simp only [Bool.and_eq_true, Nat.blt_eq] at h3
          obtain ⟨⟨h3, h4⟩, h5⟩ := h3
          have h3 := Nat.eq_of_beq_eq_true h3
          subst h3
          cases hz
          obtain ⟨f1, f2⟩ := zm_fit_ok b b0 h5
          obtain ⟨z1, z2, z3, z4, z5⟩ := zm_cls d5
          refine va_put hx hb hts z1 (zm_ty cc) z2 z3 hown hK hP hD hS q (in_o h1) (zm_cl_at d5) j d4 (hfull (zm_fl_in _ d3) rfl) (fun _ h => h) d6 (z2 j d4) f1 f2 (by rw [List.length_map]; exact h4) (zm_dc_ok d1) (fun H1 locs1 g1 g2 g3 => kk ls H1 locs1 cells slots hu hv hl (zm_wk_put ?_ g3))
          rw [← List.map_set] at g1
          exact g1
      · cases hz
    · cases hz
  | 2 =>
    intro hok hz
    simp only [zm_okI, Bool.and_eq_true, decide_eq_true_eq, Nat.blt_eq] at hok
    obtain ⟨⟨⟨⟨⟨⟨⟨d1, d2⟩, d3⟩, d4⟩, d5⟩, d6⟩, d7⟩, d8⟩ := hok
    have d2 := Nat.eq_of_beq_eq_true d2
    subst d2
    simp only [zm_rs] at hz
    split at hz
    · rename_i v q t
      split at hz
      · rename_i cc fs h1
        cases h3 : (Nat.beq cc a && Nat.blt j fs.length && zm_fit (zm_ty a j) v) with
        | false => rw [h3] at hz; cases hz
        | true =>
          rw [h3] at hz
          simp only [Bool.and_eq_true, Nat.blt_eq] at h3
          obtain ⟨⟨h3, h4⟩, h5⟩ := h3
          have h3 := Nat.eq_of_beq_eq_true h3
          subst h3
          cases hz
          obtain ⟨f1, f2⟩ := zm_fit_ok b b0 h5
          obtain ⟨z1, z2, z3, z4, z5⟩ := zm_cls d5
          refine va_putF hx hb hts z1 (zm_ty cc) z2 z3 hown hK hP hD hS q (in_o h1) (zm_cl_at d5) j d4 (hfull (zm_fl_in _ d3) rfl) (fun _ h => h) d6 (hnm.trans d7) d8 (z2 j d4) f1 f2 (by rw [List.length_map]; exact h4) (zm_dc_ok d1) (fun H1 locs1 g1 g2 g3 => kk ls H1 locs1 cells slots hu hv hl (zm_wk_put ?_ g3))
          rw [← List.map_set] at g1
          exact g1
      · cases hz
    · cases hz
  | 8 =>
    intro hok hz
    simp only [zm_okI, Bool.and_eq_true, decide_eq_true_eq] at hok
    obtain ⟨⟨d1, d2⟩, d3⟩ := hok
    have d2 := Nat.eq_of_beq_eq_true d2
    subst d2
    simp only [zm_rs] at hz
    split at hz
    · rename_i q t
      cases h3 : Nat.ble (zm_wd t) 8 with
      | false => rw [h3] at hz; cases hz
      | true =>
        rw [h3] at hz
        cases hz
        have h3 := Nat.le_of_ble_eq_true h3
        refine W.objInit hx hb hown (hfull (zm_ob_in _ d3) rfl) (hfull zm_obj_i rfl) (hfull zm_obj_c rfl) (g := F0 m pc ls ((Value.ref q :: st2).map (zm_tr b b0))) rfl (by rw [hml]; exact hl.1) (a := b + q) (rest := st2.map (zm_tr b b0)) rfl (zm_dc_ok d1) hf1 ?_ ?_
        · show 2 * 0 + _ + 12 ≤ _
          rw [zm_tr_sum]
          omega
        · exact kk ls H locs cells slots hu hv hl hw
    · cases hz
  | 9 =>
    intro hok hz
    simp only [zm_okI, Bool.and_eq_true, decide_eq_true_eq, Nat.blt_eq] at hok
    obtain ⟨⟨⟨d1, d2⟩, d3⟩, d4⟩ := hok
    have d2 := Nat.eq_of_beq_eq_true d2
    subst d2
    simp only [zm_rs] at hz
    cases h3 : Nat.beq h.2.2.2 0 with
    | false => rw [h3] at hz; cases hz
    | true =>
      rw [h3] at hz
      cases hz
      have h32 := Nat.eq_of_beq_eq_true h3
      refine zm_sz fun hsz => ?_
      have hH : H.size = b + h.2.1 := by
        have h1 := zm_size hP (Nat.le_trans hbs hS.1)
        unfold zm_uc at hu
        omega
      have r1 : zm_uc h + 1 ≤ u0 + R.cells := by have := hR; simp only [zm_uc, zm_new] at this ⊢; omega
      have r2 : zm_us h + zm_N a ≤ v0 + R.slots := by have := hR2; simp only [zm_us, zm_new] at this ⊢; omega
      obtain ⟨z1, z2, z3, z4, z5⟩ := zm_cls d4
      have hKn := hK.1 a _ (zm_cl_at d4)
      refine W.newcK hx hb hown (hfull (zm_ck_in _ d3) rfl) (hts _ z4) (hts _ z5) (g := F0 m pc ls (st.map (zm_tr b b0))) rfl (zm_dc_ok d1) (by omega) (by omega) hKn.2.1 hH fun H1 kC hkC e1 z9 o1 => ?_
      refine kk ls H1 locs (cells + 1) (slots + zm_N a) (by simp only [zm_uc, zm_new] at hu ⊢; omega) (by simp only [zm_us, zm_new] at hv ⊢; omega) hl (zm_wk_new hw hH (by rw [z9, hH]) (by rw [hH]; exact o1) ?_)
      refine ⟨_, zm_cl_at d4, (u_born (zm_ty a) hts z1 hKn hkC e1 z2).to (fun q hq => ?_)⟩
      have hq : q < zm_N a := hq
      rw [zm_dv_ok a q d4 hq]
      have : (((List.range (zm_N a)).map (fun j => zm_dv (zm_ty a j))).map (zm_tr b b0))[q]? = some (zm_tr b b0 (zm_dv (zm_ty a q))) := by
        rw [List.getElem?_map, List.getElem?_map, List.getElem?_range hq]
        rfl
      simp only [vp_V, List.getD_eq_getElem?_getD, this, Option.getD_some]
      cases zm_ty a q <;> rfl
  | 10 =>
    intro hok hz
    simp only [zm_okI, Bool.and_eq_true, decide_eq_true_eq] at hok
    obtain ⟨⟨d1, d2⟩, d3⟩ := hok
    have d2 := Nat.eq_of_beq_eq_true d2
    subst d2
    simp only [zm_rs] at hz
    split at hz
    · rename_i n t
      split at hz
      · cases hz
      · rename_i h3
        have h30 : ¬ n < 0 := fun q => h3 (Or.inl q)
        have h31 : n.toNatClampNeg < 10000 := Nat.not_le.mp fun q => h3 (Or.inr (Or.inl q))
        have h32 : h.2.2.2 = 0 := Decidable.not_not.mp fun q => h3 (Or.inr (Or.inr q))
        cases hz
        refine zm_sz fun hsz => ?_
        have hH : H.size = b + h.2.1 := by
          have h1 := zm_size hP (Nat.le_trans hbs hS.1)
          unfold zm_uc at hu
          omega
        have r1 : zm_uc h + 1 ≤ u0 + R.cells := by have := hR; simp only [zm_uc, zm_new] at this ⊢; omega
        have r2 : zm_us h + n.toNatClampNeg ≤ v0 + R.slots := by have := hR2; simp only [zm_us, zm_new] at this ⊢; omega
        refine W.anew hx hb hown (hfull (zm_ck_in _ d3) rfl) (va_AO.use hG.2.2.2.2.1) (g := F0 m pc ls ((Value.int n :: t).map (zm_tr b b0))) rfl (zm_dc_ok d1) (rest := t.map (zm_tr b b0)) rfl h30 (by omega) (by omega) (by omega) fun cA1 kA comp f1 f2 f3 f4 => ?_
        obtain ⟨kA9, comp9, q1, q2, q3, q4⟩ := (hK.2 2 _ rfl).2
        have hcA : cA1 = cA 2 := Option.some.inj (f1.symm.trans q4)
        subst hcA
        rw [hH]
        refine kk ls _ locs (cells + 1) (slots + n.toNatClampNeg) (by simp only [zm_uc, zm_new] at hu ⊢; omega) (by simp only [zm_us, zm_new] at hv ⊢; omega) hl (zm_wk_new hw hH (by rw [Array.size_push]) (fun q hq => by rw [Array.getElem?_push, if_neg (Nat.ne_of_lt hq)]) ?_)
        show (H.push _)[b + h.2.1]? = some (vp_cell _ _)
        rw [← hH, Array.getElem?_push_size, vp_cell_q, arrV_new]
        rfl
    · cases hz
  | 11 =>
    intro hok hz
    simp only [zm_okI, Bool.and_eq_true, decide_eq_true_eq] at hok
    obtain ⟨⟨⟨d1, d2⟩, d3⟩, d4⟩ := hok
    have d2 := Nat.eq_of_beq_eq_true d2
    subst d2
    have hn : nativeFrameWords "java/lang/System" "arraycopy" 5 = 7 := by decide +kernel
    simp only [zm_rs] at hz
    split at hz
    · rename_i n dp q1 sp q0 t
      split at hz
      · cases hz
      · rename_i h3
        have t1 : ¬ sp < 0 := fun q => h3 (Or.inl q)
        have t2 : ¬ dp < 0 := fun q => h3 (Or.inr (Or.inl q))
        have t3 : ¬ n < 0 := fun q => h3 (Or.inr (Or.inr (Or.inl q)))
        have t4 : zm_wd t ≤ 8 := Nat.not_lt.mp fun q => h3 (Or.inr (Or.inr (Or.inr q)))
        split at hz
        · rename_i n0 f n1 g h4 h5
          split at hz
          · rename_i h6
            cases hz
            exact va_copyi hx hb (by rw [hml, hl.1]) hown (hfull (zm_ac_in _ d3) rfl) (hfull zm_acp_n rfl) (hfull zm_acp_s rfl) (hfull zm_sys_i rfl) hK hP hD hS q0 q1 0 0 (in_i h4) (in_i h5) rfl rfl rfl t1 t2 t3 h6.1 h6.2 (fun i hi => rfl) hf1 (by rw [zm_tr_sum, hn]; omega) (zm_dc_ok d1)
              (fun H1 locs1 g1 g2 g3 => kk ls H1 locs1 cells slots hu hv hl (zm_wk_put g1 g3))
          · cases hz
        · split at hz
          · rename_i n0 f n1 g h4 h5
            split at hz
            · rename_i h6
              cases hz
              exact va_copyl hx hb (by rw [hml, hl.1]) hown (hfull (zm_ac_in _ d3) rfl) (hfull zm_acp_n rfl) (hfull zm_acp_s rfl) (hfull zm_sys_i rfl) hK hP hD hS q0 q1 1 1 (in_l h4) (in_l h5) rfl rfl rfl t1 t2 t3 h6.1 h6.2 (fun i hi => rfl) hf1 (by rw [zm_tr_sum, hn]; omega) (zm_dc_ok d1)
                (fun H1 locs1 g1 g2 g3 => kk ls H1 locs1 cells slots hu hv hl (zm_wk_put g1 g3))
            · cases hz
          · cases hz
    · cases hz
  | 13 =>
    intro hok hz
    simp only [zm_okI, Bool.and_eq_true, decide_eq_true_eq] at hok
    obtain ⟨⟨d1, d2⟩, d3⟩ := hok
    have d2 := Nat.eq_of_beq_eq_true d2
    subst d2
    cases hz
    exact lv_ldcw hx hb hown (hfull (zm_ic_in _ d3) rfl) (zm_dc_ok d1) (kk ls H locs cells slots hu hv hl hw)
  | 14 =>
    intro hok hz
    simp only [zm_okI, Bool.and_eq_true, decide_eq_true_eq] at hok
    obtain ⟨⟨d1, d2⟩, d3⟩ := hok
    have d2 := Nat.eq_of_beq_eq_true d2
    subst d2
    cases hz
    exact lv_ldc2 hx hb hown (hfull (zm_lc_in _ d3) rfl) (zm_dc_ok d1) (kk ls H locs cells slots hu hv hl hw)
  | 16 =>
    intro hok hz
    simp only [zm_okI, Bool.and_eq_true, decide_eq_true_eq, Nat.blt_eq] at hok
    obtain ⟨⟨⟨⟨d1, d2⟩, d3⟩, d4⟩, d5⟩ := hok
    have d2 := Nat.eq_of_beq_eq_true d2
    subst d2
    simp only [zm_rs] at hz
    split at hz
    · rename_i y1 x1 t
      cases h3 : Nat.ble (zm_wd t) 8 with
      | false => rw [h3] at hz; cases hz
      | true =>
        rw [h3] at hz
        cases hz
        have h3 := Nat.le_of_ble_eq_true h3
        have k9 := kk ls H locs cells slots hu hv hl hw
        match a, d4, d3, k9 with
        | 0, _, d3, k9 => exact va_mmax hx hb (by rw [hml, hl.1]) hown (hfull (zm_mm_in _ d3) rfl) (hfull zm_max_s rfl) (hfull zm_math_i rfl) (hfull zm_max_c rfl) hf1 (by rw [zm_tr_sum]; omega) (by omega) (by omega) (zm_dc_ok d1) k9
        | 1, _, d3, k9 => exact va_mmin hx hb (by rw [hml, hl.1]) hown (hfull (zm_mm_in _ d3) rfl) (hfull zm_min_s rfl) (hfull zm_math_i rfl) (hfull zm_min_c rfl) hf1 (by rw [zm_tr_sum]; omega) (by omega) (by omega) (zm_dc_ok d1) k9
    · cases hz
  | 3 => intro _ hz; simp [zm_rs] at hz
  | 4 => intro _ hz; simp [zm_rs] at hz
  | 5 => intro _ hz; simp [zm_rs] at hz
  | 6 => intro _ hz; simp [zm_rs] at hz
  | 7 => intro _ hz; simp [zm_rs] at hz
  | 12 => intro _ hz; simp [zm_rs] at hz
  | 15 => intro _ hz; simp [zm_rs] at hz
  | n + 17 => intro _ hz; simp [zm_rs] at hz
end ZRS
end
section
/-! the runs of the small machine are runs of the real one -/
theorem zm_run_cases {X : zm_X} {n y pc : Nat} {ml st : List Value} {h h' : zm_H} {r : zm_O} (hrun : zm_run X (n + 1) y pc ml st h = some (r, h')) :
    (∃ i pc' v, zm_lk (zm_cd y) pc = some (.inl i, pc') ∧ zm_ret i (zm_rt y) st = some v ∧ r = .inl v ∧ h' = h) ∨
    (∃ i pc' pc2 ml2 st2 h2, zm_lk (zm_cd y) pc = some (.inl i, pc') ∧ zm_st X i pc pc' ml st h = some (pc2, ml2, st2, h2) ∧ zm_run X n y pc2 ml2 st2 h2 = some (r, h')) ∨
    (∃ k idx a j pc' as rest r2 h2, zm_lk (zm_cd y) pc = some (.inr (k, idx, a, j), pc') ∧ zm_cal k a y st h = some (as, rest) ∧ zm_run X n a 0 (zm_ent as (zm_mx a)) [] h = some (r2, h2) ∧
      ((∃ v, r2 = .inl v ∧ zm_run X n y pc' ml (v.toList ++ rest) h2 = some (r, h')) ∨ (∃ E, r2 = .inr E ∧ h' = h2 ∧ ((∃ q, zm_cat (zm_hd y) pc E = some q ∧ r = .inl (some (.int (Int32.ofNat q)))) ∨ (zm_cat (zm_hd y) pc E = none ∧ r = .inr E))))) ∨
    (∃ idx a j pc', zm_lk (zm_cd y) pc = some (.inr (12, idx, a, j), pc') ∧ zm_wd st ≤ 8 ∧ r = .inr a ∧ h' = (h.1, h.2.1, h.2.2.1 + 6, h.2.2.2 + 1)) ∨
    (∃ k idx a j pc' pc2 ml2 st2 h2, zm_lk (zm_cd y) pc = some (.inr (k, idx, a, j), pc') ∧ zm_rs k idx a j pc' ml st h = some (pc2, ml2, st2, h2) ∧ zm_run X n y pc2 ml2 st2 h2 = some (r, h')) := by
  rw [zm_run] at hrun
  split at hrun
  · cases hrun
  · rename_i i pc' hlk
    split at hrun
    · rename_i v hv
      cases hrun
      exact Or.inl ⟨i, pc', v, hlk, hv, rfl, rfl⟩
    · split at hrun
      · cases hrun
      · rename_i pc2 ml2 st2 h2 hs
        exact Or.inr (Or.inl ⟨i, pc', pc2, ml2, st2, h2, hlk, hs, hrun⟩)
  · rename_i k idx a j pc' hlk
    split at hrun
    · rename_i as rest hc
      split at hrun
      · cases hrun
      · rename_i v h2 hr
        exact Or.inr (Or.inr (Or.inl ⟨k, idx, a, j, pc', as, rest, _, h2, hlk, hc, hr, Or.inl ⟨v, rfl, hrun⟩⟩))
      · rename_i E h2 hr
        split at hrun
        · rename_i q hq
          cases hrun
          exact Or.inr (Or.inr (Or.inl ⟨k, idx, a, j, pc', as, rest, _, _, hlk, hc, hr, Or.inr ⟨E, rfl, rfl, Or.inl ⟨q, hq, rfl⟩⟩⟩))
        · rename_i hq
          cases hrun
          exact Or.inr (Or.inr (Or.inl ⟨k, idx, a, j, pc', as, rest, _, _, hlk, hc, hr, Or.inr ⟨_, rfl, rfl, Or.inr ⟨hq, rfl⟩⟩⟩))
    · cases hk : Nat.beq k 12 with
      | true =>
        rw [hk] at hrun
        have hk := Nat.eq_of_beq_eq_true hk
        subst hk
        cases hw : Nat.ble (zm_wd st) 8 with
        | false => rw [hw] at hrun; cases hrun
        | true =>
          rw [hw] at hrun
          cases hrun
          exact Or.inr (Or.inr (Or.inr (Or.inl ⟨idx, _, j, pc', hlk, Nat.le_of_ble_eq_true hw, rfl, rfl⟩)))
      | false =>
        rw [hk] at hrun
        simp only [cond_false] at hrun
        split at hrun
        · cases hrun
        · rename_i pc2 ml2 st2 h2 hs
          exact Or.inr (Or.inr (Or.inr (Or.inr ⟨k, idx, a, j, pc', pc2, ml2, st2, h2, hlk, hs, hrun⟩)))
theorem zm_lk1_mem {c : List zm_I} {pc : Nat} {r : zm_R × Nat} (h : zm_lk1 c pc = some r) : (pc, r) ∈ c := by
  induction c with
  | nil => cases h
  | cons q t ih =>
    obtain ⟨k, r'⟩ := q
    simp only [zm_lk1] at h
    cases hk : Nat.beq k pc with
    | true =>
      rw [hk] at h
      cases h
      have hk := Nat.eq_of_beq_eq_true hk
      subst hk
      exact List.mem_cons_self
    | false =>
      rw [hk] at h
      exact List.mem_cons_of_mem _ (ih h)
theorem zm_lk_ok {y pc : Nat} {r : zm_R × Nat} (hok : zm_okC y = true) (h : zm_lk (zm_cd y) pc = some r) : zm_okI y (pc, r) = true := by
  unfold zm_okC at hok
  generalize zm_cd y = c at hok h
  induction c with
  | nil => cases h
  | cons q t ih =>
    obtain ⟨k, c'⟩ := q
    rw [List.all_cons, Bool.and_eq_true] at hok
    simp only [zm_lk] at h
    cases hk : Nat.ble pc k with
    | true =>
      rw [hk] at h
      exact List.all_eq_true.mp hok.1 _ (zm_lk1_mem h)
    | false =>
      rw [hk] at h
      exact ih hok.2 h
/-- what an instruction does to the counts -/
theorem zm_st_cnt {X : zm_X} {i : Instr} {pc pc' pc2 : Nat} {ml st ml2 st2 : List Value} {h h2 : zm_H} (hz : zm_st X i pc pc' ml st h = some (pc2, ml2, st2, h2)) : h2 = h ∨ (∃ a e, h2 = zm_put h a e) ∨ (∃ e k, h2 = zm_new h e k) := by
  cases i
  all_goals first
    | (simp [zm_st] at hz; done)
    | (cases hz; exact Or.inl rfl)
    | (obtain ⟨_, _, _, rfl, e1⟩ := zm_ii_spec hz; cases e1; exact Or.inl rfl)
    | (obtain ⟨_, _, _, rfl, e1⟩ := zm_ll_spec hz; cases e1; exact Or.inl rfl)
    | (obtain ⟨_, _, _, rfl, e1⟩ := zm_li_spec hz; cases e1; exact Or.inl rfl)
    | (obtain ⟨_, _, e1⟩ := zm_iload_spec hz; cases e1; exact Or.inl rfl)
    | (obtain ⟨_, _, e1⟩ := zm_lload_spec hz; cases e1; exact Or.inl rfl)
    | (obtain ⟨_, _, _, _, _, e1⟩ := zm_aload_spec 0 0 hz; cases e1; exact Or.inl rfl)
    | (obtain ⟨_, _, _, rfl, _, e1⟩ := zm_istore_spec hz; cases e1; exact Or.inl rfl)
    | (obtain ⟨_, _, _, rfl, _, e1⟩ := zm_lstore_spec hz; cases e1; exact Or.inl rfl)
    | (obtain ⟨_, _, _, rfl, _, e1⟩ := zm_astore_spec hz; cases e1; exact Or.inl rfl)
    | (obtain ⟨_, _, e1⟩ := zm_jmp_spec hz; cases e1; exact Or.inl rfl)
    | (simp only [zm_st] at hz
       repeat' split at hz
       all_goals first
         | (cases hz; done)
         | (cases hz; exact Or.inl rfl)
         | (cases hz; exact Or.inr (Or.inl ⟨_, _, rfl⟩))
         | (cases hz; exact Or.inr (Or.inr ⟨_, _, rfl⟩))
         | (obtain ⟨_, _, e1⟩ := zm_br_spec hz; cases e1; exact Or.inl rfl)
         | (obtain ⟨_, _, e1⟩ := zm_jmp_spec hz; cases e1; exact Or.inl rfl)
         | (obtain ⟨_, _, e1⟩ := Option.map_eq_some_iff.mp hz; cases e1; exact Or.inl rfl)
         | (rename_i v t; cases hc : Nat.beq v.category 1 <;> rw [hc] at hz <;> cases hz; exact Or.inl rfl)
         | (rename_i v1 v2 t; cases hc : (Nat.beq v1.category 1 && Nat.beq v2.category 1) <;> rw [hc] at hz <;> cases hz; exact Or.inl rfl))
theorem zm_rs_cnt {k idx a j pc' pc2 : Nat} {ml st ml2 st2 : List Value} {h h2 : zm_H} (hz : zm_rs k idx a j pc' ml st h = some (pc2, ml2, st2, h2)) : h2 = h ∨ (∃ a e, h2 = zm_put h a e) ∨ (∃ e k, h2 = zm_new h e k) := by
  unfold zm_rs at hz
  repeat' split at hz
  all_goals first
    | (cases hz; done)
    | (cases hz; exact Or.inl rfl)
    | (cases hz; exact Or.inr (Or.inl ⟨_, _, rfl⟩))
    | (cases hz; exact Or.inr (Or.inr ⟨_, _, rfl⟩))
    | (simp only [Bool.cond_eq_ite] at hz
       repeat' split at hz
       all_goals first
         | (cases hz; done)
         | (cases hz; exact Or.inl rfl)
         | (cases hz; exact Or.inr (Or.inl ⟨_, _, rfl⟩))
         | (cases hz; exact Or.inr (Or.inr ⟨_, _, rfl⟩)))
theorem zm_cnt_le {h h2 : zm_H} (hz : h2 = h ∨ (∃ a e, h2 = zm_put h a e) ∨ (∃ e k, h2 = zm_new h e k)) : zm_uc h ≤ zm_uc h2 ∧ zm_us h ≤ zm_us h2 := by
  rcases hz with rfl | ⟨a, e, rfl⟩ | ⟨e, k, rfl⟩
  · exact ⟨Nat.le_refl _, Nat.le_refl _⟩
  · exact ⟨Nat.le_refl _, Nat.le_refl _⟩
  · simp only [zm_uc, zm_us, zm_new]; omega
theorem zm_mono {X : zm_X} : ∀ (n y pc : Nat) (ml st : List Value) (h : zm_H) (r : zm_O) (h' : zm_H), zm_run X n y pc ml st h = some (r, h') → zm_uc h ≤ zm_uc h' ∧ zm_us h ≤ zm_us h' := by
  intro n
  induction n with
  | zero => intro y pc ml st h r h' hr; cases hr
  | succ n ih =>
    intro y pc ml st h r h' hr
    rcases zm_run_cases hr with ⟨i, pc', v, -, -, -, rfl⟩ | ⟨i, pc', pc2, ml2, st2, h2, -, hs, hr2⟩ | ⟨k, idx, a, j, pc', as, rest, r2, h2, -, -, hr2, hx⟩ | ⟨idx, a, j, pc', -, -, -, rfl⟩ | ⟨k, idx, a, j, pc', pc2, ml2, st2, h2, -, hs, hr2⟩
    · exact ⟨Nat.le_refl _, Nat.le_refl _⟩
    · have h1 := zm_cnt_le (zm_st_cnt hs)
      have h3 := ih _ _ _ _ _ _ _ hr2
      omega
    · have h1 := ih _ _ _ _ _ _ _ hr2
      rcases hx with ⟨v, -, hr3⟩ | ⟨E, -, rfl, -⟩
      · have h3 := ih _ _ _ _ _ _ _ hr3
        omega
      · exact h1
    · simp only [zm_uc, zm_us]; omega
    · have h1 := zm_cnt_le (zm_rs_cnt hs)
      have h3 := ih _ _ _ _ _ _ _ hr2
      omega
/-! contracts -/
def zm_Z (b : Nat) (s : State) : Prop := vx_Zq Bundle.tN "UNASSIGNED_STACK" Bundle.steD (zm_A b) s s.heap ∧ vx_Zq Bundle.tN "SUPPRESSED_SENTINEL" Bundle.listD (zm_A b) s s.heap
def zm_Pc (X : zm_X) (b b0 : Nat) (D : va_G) (cA : Nat → ClassId) (as : List Value) (h : zm_H) : Array Value → State → Prop := fun a U =>
  a = (as.map (zm_tr b b0)).toArray ∧ zm_G D cA U ∧ va_X b0 X.1 X.2 U U.heap ∧ b0 < b ∧ b ≤ U.heap.size ∧ U.heap.size ≤ b + zm_uc h ∧ va_P D zm_cl (zm_ws b b0 cA h) U.heap ∧ zm_Z b U
def zm_Qc (b b0 : Nat) (D : va_G) (cA : Nat → ClassId) (r : zm_O) (h' : zm_H) : Array Value → State → Outcome → State → Prop := fun _ st o t =>
  ∃ v, r = .inl v ∧ o = .returned (v.map (zm_tr b b0)) ∧ va_P D zm_cl (zm_ws b b0 cA h') t.heap ∧ va_F (zm_A b) st t
def zm_XC (b b0 : Nat) (D : va_G) (cA : Nat → ClassId) (r : zm_O) (h' : zm_H) : String → State → State → Prop := fun E st t =>
  ∃ k, r = .inr k ∧ E = zm_ex k ∧ k < 3 ∧ va_P D zm_cl (zm_ws b b0 cA h') t.heap ∧ va_F (zm_A b) st t
def zm_rm (y : Nat) (h h' : zm_H) : Room := { frames := zm_lv y, cells := zm_uc h' - zm_uc h, slots := zm_us h' - zm_us h, locals := 40 * zm_lv y }
def zm_Ct (l : Launch) (X : zm_X) (b b0 : Nat) (D : va_G) (cA : Nat → ClassId) (y : Nat) (as : List Value) (h : zm_H) (r : zm_O) (h' : zm_H) : Prop :=
  vx_Met l (zm_nm y) (zm_cw y :: zm_tb) (zm_rm y h h') (zm_Pc X b b0 D cA as h) (zm_Qc b b0 D cA r h') (zm_XC b b0 D cA r h') (zm_uc h' - zm_uc h) (zm_us h' - zm_us h) (zm_A b)
def zm_Cn (l : Launch) (X : zm_X) (b b0 : Nat) (D : va_G) (cA : Nat → ClassId) (n : Nat) : Prop := ∀ (y : Nat) (as : List Value) (h : zm_H) (r : zm_O) (h' : zm_H), y < zm_nM → (zm_exp as).length ≤ zm_mx y → zm_run X n y 0 (zm_ent as (zm_mx y)) [] h = some (r, h') → zm_Ct l X b b0 D cA y as h r h'
def zm_Fr (l : Launch) (X : zm_X) (b b0 : Nat) (D : va_G) (cA : Nat → ClassId) (n : Nat) : Prop := ∀ (y pc : Nat) (ml st : List Value) (h : zm_H) (r : zm_O) (h' : zm_H), zm_run X n y pc ml st h = some (r, h') → zm_okC y = true → zm_okh y = true → (zm_kd y = 3 ∨ (zm_hd y = [] ∧ zm_hh y = [])) →
  ∀ (p : Program) (e : Env) (R : Room) (s : State) (m : MethodId) (args : Array Value) (below : List Frame) (meth : Method) (c : Code) (H : Heap) (locs : List Loc) (cells slots u0 v0 : Nat) (ls : Array Slot), zm_cx X b b0 D cA p s m args meth c u0 y → meth.sig.returnType = zm_rt y → meth.locks = false → c.exceptionTable.toList = tableOf (zm_hh y) → zm_Z b s →
    zm_lr b b0 ml ls (zm_mx y) → zm_wk b b0 D cA s h H locs → cells + u0 = zm_uc h → slots + v0 = zm_us h → zm_uc h' ≤ u0 + R.cells → zm_us h' ≤ v0 + R.slots → zm_lv y ≤ R.frames → 40 * zm_lv y ≤ R.locals → 1 ≤ zm_lv y →
    W p l e R s m args below meth c H locs cells slots (vx_MQ below (zm_Qc b b0 D cA r h') (zm_XC b b0 D cA r h') args s R.cells R.slots (zm_A b)) (F0 m pc ls (st.map (zm_tr b b0)))
theorem zm_blind {X : zm_X} {b b0 : Nat} {D : va_G} {cA : Nat → ClassId} {as : List Value} {h : zm_H} : FrameBlind (zm_Pc X b b0 D cA as h) := by
  intro a U g mk q
  obtain ⟨q1, q2, q3, q4, q5, q6, q7, q8, q9⟩ := q
  exact ⟨q1, zm_G.moved (s := U) (U := U.calling g mk a) (State.WarmedH.refl U) q2, va_X.moved (u := U) (U := U.calling g mk a) (Vm.Alike.refl U.vm) q3, q4, q5, q6, q7, vx_Zq.moved (u := U) (U := U.calling g mk a) (Vm.Alike.refl U.vm) q8, vx_Zq.moved (u := U) (U := U.calling g mk a) (Vm.Alike.refl U.vm) q9⟩
/-- the facts of a method that was checked -/
theorem zm_facts {y : Nat} (hy : y < zm_nM) : zm_okC y = true ∧ zm_okh y = true ∧ plainName (zm_nm y).cls = true ∧ ((zm_nm y).cls ≠ "java/lang/invoke/MethodHandle" ∧ (zm_nm y).cls ≠ "java/lang/invoke/VarHandle") ∧ (parseMethodDescriptor (zm_nm y).desc).map (fun d => d.parameters.length) = some (zm_ar y) ∧ zm_mx y ≤ 21 ∧ 1 ≤ zm_lv y ∧ (zm_kd y = 3 ∨ (zm_hd y = [] ∧ zm_hh y = [])) ∧ (zm_kd y = 2 → (zm_md y).1 = "<init>" ∧ zm_rt y = none) := by
  have h := zm_kay hy
  simp only [zm_oka, zm_okn, Bool.and_eq_true, Bool.or_eq_true, Bool.not_eq_true', decide_eq_true_eq] at h
  obtain ⟨⟨h1, h2⟩, h3⟩ := h
  obtain ⟨⟨⟨⟨⟨⟨⟨g1, g2⟩, g3⟩, g4⟩, g5⟩, g6⟩, g7⟩, g8⟩ := h2
  refine ⟨h1, h3, g1, ⟨g2, g3⟩, g4, Nat.le_of_ble_eq_true g5, Nat.le_of_ble_eq_true g6, ?_, ?_⟩
  · rcases g7 with g | ⟨ga, gb⟩
    · exact Or.inl (Nat.eq_of_beq_eq_true g)
    · exact Or.inr ⟨List.length_eq_zero_iff.mp (Nat.eq_of_beq_eq_true ga), List.length_eq_zero_iff.mp (Nat.eq_of_beq_eq_true gb)⟩
  · intro h9
    rcases g8 with g | g
    · rw [h9] at g; cases g
    · exact g
theorem zm_wfacts {y : Nat} (hy : y < zm_nM) : zm_cw y ∈ zm_tb ∧ Cond.initialized (zm_nm y).cls ∈ zm_tb ∧ zm_kw y ∈ zm_tb ∧ (zm_kd y = 1 → Cond.selects (zm_nm y).cls (zm_nm y) (zm_nm y) ∈ zm_tb) := by
  have h := zm_oky hy
  simp only [zm_okm, zm_at, Bool.and_eq_true, Bool.or_eq_true, Bool.not_eq_true', decide_eq_true_eq] at h
  obtain ⟨⟨⟨h1, h2⟩, h3⟩, h4⟩ := h
  refine ⟨zm_tb_in (List.mem_of_getElem? h1) ?_, zm_tb_in (List.mem_of_getElem? h2) rfl, zm_tb_in (List.mem_of_getElem? h3) ?_, fun h9 => ?_⟩
  · unfold zm_cw; cases Nat.beq (zm_kd y) 3 <;> rfl
  · unfold zm_kw; cases (Nat.beq (zm_kd y) 0 || Nat.beq (zm_kd y) 3) <;> rfl
  · rcases h4 with h4 | h4
    · rw [h9] at h4; cases h4
    · exact zm_tb_in (List.mem_of_getElem? h4) rfl
set_option maxHeartbeats 1000000 in
theorem zm_C_of_F {l : Launch} {X : zm_X} {b b0 : Nat} {D : va_G} {cA : Nat → ClassId} {n : Nat} (hF : zm_Fr l X b b0 D cA n) : zm_Cn l X b b0 D cA n := by
  intro y as h r h' hy has hrun
  obtain ⟨f1, f2, f3, f4, f5, f6, f7, f8, f9⟩ := zm_facts hy
  have hm := zm_mono _ _ _ _ _ _ _ _ hrun
  have body : ∀ (p : Program) (e : Env) (s : State) (m : MethodId) (args : Array Value) (below : List Frame) (meth : Method) (c : Code) (s₁ : State), BodyLoose p l (zm_nm y) (headSpec (zm_cw y :: zm_tb) (zm_rm y h h')) (zm_by y) (zm_mx y) (zm_rt y) e s m args below meth c s₁ → c.maxLocals = zm_mx y → c.exceptionTable.toList = tableOf (zm_hh y) → zm_Pc X b b0 D cA as h args s →
      W p l e (headSpec (zm_cw y :: zm_tb) (zm_rm y h h')).room s m args below meth c s.heap [] 0 0 (vx_MQ below (zm_Qc b b0 D cA r h') (zm_XC b b0 D cA r h') args s (zm_uc h' - zm_uc h) (zm_us h' - zm_us h) (zm_A b)) (entryFrame m args (zm_mx y)) := by
    intro p e s m args below meth c s₁ B hml ht hP
    obtain ⟨rfl, hG, hX, hb0, hbs, hub, hP, hZ⟩ := hP
    rw [lg_entry_eq]
    have hts : ∀ w ∈ zm_tb, w.before (as.map (zm_tr b b0)).toArray s = true := fun w hw => atoms_spec (ws := zm_cw y :: zm_tb) B.pre w (List.mem_cons_of_mem _ hw)
    exact hF y 0 _ [] h r h' hrun f1 f2 f8 p e (zm_rm y h h') s m _ below meth c s.heap [] 0 0 (zm_uc h) (zm_us h) _ ⟨B.exec, B.bytes, hml, findClass_of_methodNamed B.named, hts, (name_of_methodNamed B.named B.method).1, hG, hX, hb0, hbs, hub⟩ B.returns B.notSynchronized ht hZ (zm_lr_entry b b0 as has) ⟨hP, va_S.rf⟩ (Nat.zero_add _) (Nat.zero_add _)
      (by show zm_uc h' ≤ zm_uc h + (zm_uc h' - zm_uc h); omega) (by show zm_us h' ≤ zm_us h + (zm_us h' - zm_us h); omega) (Nat.le_refl _) (Nat.le_refl _) f7
  rcases Nat.decEq (zm_kd y) 3 with h3 | h3
  · have hcw : zm_cw y = .code (zm_nm y) (zm_by y) (zm_mx y) (zm_rt y) := by
      unfold zm_cw
      cases h9 : Nat.beq (zm_kd y) 3 with
      | true => exact absurd (Nat.eq_of_beq_eq_true h9) h3
      | false => rfl
    have hhh : zm_hh y = [] := by
      rcases f8 with f8 | f8
      · exact absurd f8 h3
      · exact f8.2
    refine vx_ofW (cc := zm_by y) (maxL := zm_mx y) (ret := zm_rt y) f3 (by rw [hcw]) ?_
    intro p e s m args below meth c s₁ B hml ht hP
    refine body p e s m args below meth c s₁ B hml ?_ hP
    rw [hhh]
    exact List.eq_nil_iff_forall_not_mem.mpr ht
  · have hcw : zm_cw y = .codeWith (zm_nm y) (zm_by y) (zm_mx y) (zm_rt y) (zm_hh y) := by
      unfold zm_cw
      rw [h3]
      rfl
    refine vx_ofWH (cc := zm_by y) (maxL := zm_mx y) (ret := zm_rt y) (hh := zm_hh y) f3 (by rw [hcw]) ?_
    intro p e s m args below meth c s₁ B hml hP
    refine body p e s m args below meth c s₁ B hml ?_ hP
    have h9 := atoms_spec (ws := zm_cw y :: zm_tb) B.pre _ List.mem_cons_self
    rw [hcw] at h9
    exact vx_table (x := zm_nm y) B h9
end
section
/-! calls, throws, handlers, returns -/
theorem zm_pop_spec : ∀ (n : Nat) (acc st as rest : List Value), zm_pop n acc st = some (as, rest) → ∃ ps, as = ps ++ acc ∧ ps.length = n ∧ st = ps.reverse ++ rest := by
  intro n
  induction n with
  | zero =>
    intro acc st as rest h
    simp only [zm_pop] at h
    cases h
    exact ⟨[], rfl, rfl, rfl⟩
  | succ n ih =>
    intro acc st as rest h
    cases st with
    | nil => simp [zm_pop] at h
    | cons v t =>
      simp only [zm_pop] at h
      obtain ⟨ps, h1, h2, h3⟩ := ih _ _ _ _ h
      refine ⟨ps ++ [v], by rw [h1]; simp, by simp [h2], by rw [h3]; simp⟩
section ZCL
variable {p : Program} {l : Launch} {e : Env} {R : Room} {s : State} {m : MethodId} {args : Array Value} {below : List Frame} {meth : Method} {c : Code} {H : Heap} {locs : List Loc} {cells slots mc ms : Nat} {Q : State → Prop}
variable {X : zm_X} {b b0 : Nat} {D : va_G} {cA : Nat → ClassId} {u0 v0 : Nat}
theorem zm_after {r2 : zm_O} {h2 : zm_H} {pc : Nat} {ls : Array Slot} {st0 rest : List Value} {a9 : Array Value} (hr : vx_Run p l e R s m args below meth c H locs cells slots mc ms (F0 m pc ls st0) rest (zm_Qc b b0 D cA r2 h2 a9) (zm_XC b b0 D cA r2 h2) (zm_A b)) (hS : va_S (zm_A b) s.heap H locs)
    (kn : ∀ v, r2 = .inl v → ∀ (H1 : Heap) (locs1 : List Loc), va_P D zm_cl (zm_ws b b0 cA h2) H1 → va_S (zm_A b) s.heap H1 locs1 → W p l e R s m args below meth c H1 locs1 (cells + mc) (slots + ms) Q (F0 m (pc + 3) ls ((v.map (zm_tr b b0)).toList ++ rest)))
    (kx : ∀ k, r2 = .inr k → k < 3 → ∀ (q : Addr) (ce : Cell) (H1 : Heap) (locs1 : List Loc), va_P D zm_cl (zm_ws b b0 cA h2) H1 → va_S (zm_A b) s.heap H1 locs1 → H1[q]? = some ce → ce.vm = .none → s.vm.findClass (zm_ex k) = some ce.cls → vx_W p l e R s m args below meth c H1 locs1 (cells + mc) (slots + ms) Q (F0 m pc ls rest) q) :
    W p l e R s m args below meth c H locs cells slots Q (F0 m pc ls st0) := by
  intro T hT X9
  rcases hr T hT X9 with ⟨v, st₀, t, T', L, h0, X', hL, e1, e2, hq, st⟩ | ⟨q, st₀, t, T', L, E, ce, h0, X', hL, e1, e2, hq, hce, hcv, hcl, st⟩
  · obtain ⟨v2, hr2, ho, hP2, hF⟩ := hq
    cases ho
    obtain ⟨k1, k2, k3⟩ := vx_keep h0 e1 hS (fun _ _ h => h) (fun _ h => h) hL hF
    obtain ⟨t2, a1, b1⟩ := kn v2 hr2 T'.heap (locs ++ L) (by rw [e1]; exact hP2) k3 T' rfl X'
    exact ⟨t2, st t2 a1, b1⟩
  · obtain ⟨k, hr2, rfl, hk, hP2, hF⟩ := hq
    obtain ⟨k1, k2, k3⟩ := vx_keep h0 e1 hS (fun _ _ h => h) (fun _ h => h) hL hF
    obtain ⟨t2, a1, b1⟩ := kx k hr2 hk q ce T'.heap (locs ++ L) (by rw [e1]; exact hP2) k3 (by rw [e1]; exact hce) hcv hcl T' rfl X'
    exact ⟨t2, st.trans a1, b1⟩
/-- a return -/
theorem zm_ret_sound {y pc : Nat} {i : Instr} {st : List Value} {h : zm_H} {ls : Array Slot} {v : Option Value} (C : zm_cx X b b0 D cA p s m args meth c u0 y) (hr : meth.sig.returnType = zm_rt y) (hlocks : meth.locks = false) (hd : decode (zm_by y) pc = .ok (i, 1)) (hz : zm_ret i (zm_rt y) st = some v) (hw : zm_wk b b0 D cA s h H locs) (hc : cells ≤ R.cells) (hs : slots ≤ R.slots) :
    W p l e R s m args below meth c H locs cells slots (vx_MQ below (zm_Qc b b0 D cA (.inl v) h) (zm_XC b b0 D cA (.inl v) h) args s R.cells R.slots (zm_A b)) (F0 m pc ls (st.map (zm_tr b b0))) := by
  obtain ⟨hx, hb, hml, hown, hts, hnm, hG, hX, hb0, hbs, hub⟩ := id C
  obtain ⟨hP, hS⟩ := hw
  have hq : ∀ t : State, t.heap = H → s.WarmedH t.vm → zm_Qc b b0 D cA (.inl v) h args s (.returned (v.map (zm_tr b b0))) t := fun t ht _ => ⟨v, rfl, rfl, by rw [ht]; exact hP, hS.F ht⟩
  refine vx_ret (W.widen hc hs ?_)
  cases i <;> try (simp [zm_ret] at hz; done)
  case ireturn =>
    simp only [zm_ret] at hz
    split at hz
    · split at hz
      · rename_i hrt
        cases hz
        exact W.iret hx hb (by rw [hr, hrt]) hq hS.2.2 hd hlocks
      · rename_i hrt
        split at hz
        · rename_i x _ hv
          cases hz
          refine W.zret hx hb (by rw [hr, hrt]) ?_ hq hS.2.2 hd hlocks
          rcases hv with rfl | rfl <;> rfl
        · cases hz
      · cases hz
    · cases hz
  case lreturn =>
    simp only [zm_ret] at hz
    split at hz
    · split at hz
      · rename_i hrt
        cases hz
        exact W.lret hx hb (by rw [hr, hrt]) hq hS.2.2 hd hlocks
      · cases hz
    · cases hz
  case areturn =>
    simp only [zm_ret] at hz
    split at hz
    · split at hz
      · rename_i n hrt
        cases hz
        exact W.aret hx hb (by rw [hr, hrt]) (Or.inl ⟨_, rfl⟩) (Or.inr ⟨_, rfl⟩) hq hS.2.2 hd hlocks
      · cases hz
    · cases hz
  case return_ =>
    simp only [zm_ret] at hz
    split at hz
    · split at hz
      · rename_i hrt
        cases hz
        exact W.vret hx hb (by rw [hr, hrt]) hq hS.2.2 hd hlocks
      · cases hz
    · cases hz
/-- words for throws -/
def zm_names : List String := ["java/lang/RuntimeException", "java/lang/Exception"]
set_option maxRecDepth 100000 in
theorem zm_hat_g : ∀ q ∈ [(0, 88), (1, 231), (2, 157)], (∀ w ∈ (vx_atS RX6 q.2 (zm_ex q.1) zm_names).filter goodWord, w ∈ lw_tbl) := by decide +kernel
set_option maxRecDepth 100000 in
theorem zm_hat_n : ∀ q ∈ [(0, 88), (1, 231), (2, 157)], (∀ w ∈ (vx_atS RX6 q.2 (zm_ex q.1) zm_names).filter (fun w => !goodWord w), w ∈ zm_B) := by decide +kernel
set_option maxRecDepth 100000 in
theorem zm_hat_o : ∀ q ∈ [(0, 88), (1, 231), (2, 157)], (∀ w ∈ vx_atS RX6 q.2 (zm_ex q.1) zm_names, vx_ot w = true) ∧ Bundle.fit (zm_ex q.1) = true := by decide +kernel
theorem zm_fit_n : ∀ n ∈ zm_names, Bundle.fit n = true := by decide +kernel
theorem zm_ex_i : ∀ k, k < 3 → Cond.initialized (zm_ex k) ∈ lw_tbl := by decide +kernel
theorem zm_B_tab : ∀ w ∈ zm_B, w.onTables = true := by decide +kernel
theorem zm_hat {E ic : Nat} (hq : (E, ic) ∈ [(0, 88), (1, 231), (2, 157)]) (hts : ∀ w ∈ zm_tb, w.before args s = true) (hB : ∀ w ∈ zm_B, va_Nw w s) : ∀ w ∈ vx_atS RX6 ic (zm_ex E) zm_names, w.before args s = true := by
  have h1 := zm_hat_g (E, ic) hq
  have h2 := zm_hat_n (E, ic) hq
  dsimp only at h1 h2
  generalize vx_atS RX6 ic (zm_ex E) zm_names = L at h1 h2 ⊢
  refine vx_hat (B := zm_B) ?_ h2 ?_
  · intro w hw
    exact hts w (zm_tb_in (h1 w hw) (List.mem_filter.mp hw).2)
  · intro w hw
    exact va_Nw.use (zm_B_tab w hw) (hB w hw)
set_option maxHeartbeats 1000000 in
theorem zm_throw_sound {y pc pc' idx a j : Nat} {st ml : List Value} {h : zm_H} {ls : Array Slot} (hltr : l.stackTraces = false) (C : zm_cx X b b0 D cA p s m args meth c u0 y) (hlocks : meth.locks = false) (hh : zm_kd y = 3 ∨ (zm_hd y = [] ∧ zm_hh y = [])) (hht : c.exceptionTable.toList = tableOf (zm_hh y)) (hokh : zm_okh y = true) (hZ : zm_Z b s) (hok : zm_okI y (pc, .inr (12, idx, a, j), pc') = true) (hwd : zm_wd st ≤ 8)
    (hl : zm_lr b b0 ml ls (zm_mx y)) (hw : zm_wk b b0 D cA s h H locs) (hu : cells + u0 = zm_uc h) (hv : slots + v0 = zm_us h) (hR : zm_uc h + 1 ≤ u0 + R.cells) (hR2 : zm_us h + 6 ≤ v0 + R.slots) (hlv : zm_lv y ≤ R.frames) (hlo : 40 * zm_lv y ≤ R.locals) :
    W p l e R s m args below meth c H locs cells slots (vx_MQ below (zm_Qc b b0 D cA (.inr a) (h.1, h.2.1, h.2.2.1 + 6, h.2.2.2 + 1)) (zm_XC b b0 D cA (.inr a) (h.1, h.2.1, h.2.2.1 + 6, h.2.2.2 + 1)) args s R.cells R.slots (zm_A b)) (F0 m pc ls (st.map (zm_tr b b0))) := by
  obtain ⟨hx, hb, hml, hown, hts, hnm, hG, hX, hb0, hbs, hub⟩ := id C
  obtain ⟨hP, hS⟩ := hw
  simp only [zm_okI] at hok
  split at hok
  · rename_i y1 p1 E ik is ic wide hsite
    simp only [Bool.and_eq_true, decide_eq_true_eq, Nat.blt_eq] at hok
    obtain ⟨⟨⟨⟨⟨⟨⟨⟨⟨⟨⟨t1, t2⟩, t3⟩, t4⟩, t5⟩, t6⟩, t7⟩, t8⟩, t9⟩, d0⟩, d3⟩, dw⟩ := hok
    have t3 := Nat.eq_of_beq_eq_true t3
    subst t3
    have t5 := Nat.eq_of_beq_eq_true t5
    have t7 := Nat.le_of_ble_eq_true t7
    have t8 := List.length_eq_zero_iff.mp (Nat.eq_of_beq_eq_true t8)
    have hown6 : s.vm.findClass RX6 = some m.cls := by rw [t5] at hown; exact hown
    have hhh : zm_hh y = [] := by
      rcases hh with h9 | h9
      · simp only [zm_okh, Bool.or_eq_true, Bool.and_eq_true, Bool.not_eq_true'] at hokh
        rcases hokh with h8 | ⟨⟨-, h8⟩, -⟩
        · rw [h9] at h8; cases h8
        · have h8 := Nat.eq_of_beq_eq_true h8
          rw [t8] at h8
          exact List.length_eq_zero_iff.mp h8.symm
      · exact h9.2
    have hout : ∀ q : Nat, ∀ x ∈ c.exceptionTable.toList, covers x q = false := by
      intro q x hx9
      rw [hht, hhh] at hx9
      cases hx9
    obtain ⟨sa, hstr⟩ := hG.2.2.2.1 j _ hsite
    have hk : (Cond.classLink RX6 ik (zm_ex a)).before args s = true := hts _ (zm_tb_in (zm_xk_in _ t6) rfl)
    have hini : (Cond.initialized (zm_ex a)).before args s = true := hts _ (zm_tb_in (zm_ex_i a t4) rfl)
    have hgood : ∀ w ∈ Cond.classLink RX6 ik (zm_ex a) :: Cond.initialized (zm_ex a) :: vx_atS RX6 ic (zm_ex a) zm_names, vx_ot w = true := by
      intro w hw9
      rcases List.mem_cons.mp hw9 with rfl | hw9
      · rfl
      · rcases List.mem_cons.mp hw9 with rfl | hw9
        · rfl
        · exact (zm_hat_o _ t9).1 w hw9
    have hx9 : ∀ t : State, s.vm.Alike t.vm → H.size ≤ t.heap.size → (∀ q : Nat, q < H.size → t.heap[q]? = H[q]?) → zm_XC b b0 D cA (.inr a) (h.1, h.2.1, h.2.2.1 + 6, h.2.2.2 + 1) (zm_ex a) s t := by
      intro t _ g1 g2
      refine ⟨a, rfl, rfl, t4, ?_, Nat.le_trans hS.1 g1, fun q q1 q2 => (g2 q (Nat.lt_of_lt_of_le q1 hS.1)).trans (hS.2.1 q q1 q2)⟩
      exact hP.kept (fun k x hx => g2 x.1 ((hP k x hx).lt))
    cases wide with
    | false =>
      simp only [cond_false, Bool.and_eq_true] at dw
      obtain ⟨⟨dw1, dw2⟩, dw3⟩ := dw
      exact vx_throwS hx hb hltr hown6 (zm_hat_o _ t9).2 zm_fit_n hk hini hstr (zm_hat t9 hts hG.2.2.1) hgood hZ.1 hZ.2 hS (by rw [hml]; exact hl.1) (zm_dc_ok d0) (zm_dc_ok d3) (zm_dc_ok dw1) (zm_dc_ok dw2) (zm_dc_ok dw3) (hout _) (by show 2 + 3 < R.frames; omega) (by rw [zm_tr_sum]; show _ + (13 * (2 + 1) + 43) ≤ _; omega) (by omega) (by omega) hlocks hx9 hS.2.2 (by omega) (by omega)
    | true =>
      simp only [cond_true, Bool.and_eq_true] at dw
      obtain ⟨⟨dw1, dw2⟩, dw3⟩ := dw
      exact vx_throwSW hx hb hltr hown6 (zm_hat_o _ t9).2 zm_fit_n hk hini hstr (zm_hat t9 hts hG.2.2.1) hgood hZ.1 hZ.2 hS (by rw [hml]; exact hl.1) (zm_dc_ok d0) (zm_dc_ok d3) (zm_dc_ok dw1) (zm_dc_ok dw2) (zm_dc_ok dw3) (hout _) (by show 2 + 3 < R.frames; omega) (by rw [zm_tr_sum]; show _ + (13 * (2 + 1) + 43) ≤ _; omega) (by omega) (by omega) hlocks hx9 hS.2.2 (by omega) (by omega)
  · cases hok
/-! handlers -/
def zm_pass (y pc E : Nat) (z : ExceptionTableEntry) : Prop := covers z pc = false ∨ (z.catchType ≠ 0 ∧ ∃ x, x < 3 ∧ x ≠ E ∧ (zm_own y, z.catchType, x) ∈ zm_xk)
def zm_hc (y tg j : Nat) : Prop := (∃ sl, sl < zm_mx y ∧ sl < 4 ∧ decode (zm_by y) tg = .ok (.astore_n (Fin.ofNat 4 sl), 1) ∧ decode (zm_by y) (tg + 1) = .ok (.iconst (j : Int), 1) ∧ decode (zm_by y) (tg + 2) = .ok (.ireturn, 1)) ∨
  (∃ sl, sl < zm_mx y ∧ decode (zm_by y) tg = .ok (.astore sl, 2) ∧ decode (zm_by y) (tg + 2) = .ok (.iconst (j : Int), 1) ∧ decode (zm_by y) (tg + 3) = .ok (.ireturn, 1))
theorem zm_hand {y pc E : Nat} : ∀ (hd : List zm_Hd) (hh : List (Nat × Nat × Nat × Nat)), hd.length = hh.length → (hd.zip hh).all (zm_okh1 y) = true →
    (∀ j, zm_cat hd pc E = some j → ∃ pre x suf, tableOf hh = pre ++ x :: suf ∧ (∀ z ∈ pre, zm_pass y pc E z) ∧ covers x pc = true ∧ x.catchType ≠ 0 ∧ (zm_own y, x.catchType, E) ∈ zm_xk ∧ zm_hc y x.handlerPc j ∧ j < 6) ∧
    (zm_cat hd pc E = none → ∀ z ∈ tableOf hh, zm_pass y pc E z) := by
  intro hd
  induction hd with
  | nil =>
    intro hh hlen _
    cases hh with
    | nil => exact ⟨fun j h => (by cases h), fun _ z hz => (by cases hz)⟩
    | cons q t => simp at hlen
  | cons q t ih =>
    intro hh hlen hall
    cases hh with
    | nil => simp at hlen
    | cons q' t' =>
      obtain ⟨f, tt, x, j0, tg, sl, sh⟩ := q
      obtain ⟨f', tt', tg', ct⟩ := q'
      rw [List.zip_cons_cons, List.all_cons, Bool.and_eq_true] at hall
      obtain ⟨h1, h2⟩ := hall
      simp only [List.length_cons, Nat.succ.injEq] at hlen
      obtain ⟨i1, i2⟩ := ih t' hlen h2
      simp only [zm_okh1, Bool.and_eq_true, Bool.not_eq_true', Nat.blt_eq, decide_eq_true_eq] at h1
      obtain ⟨⟨⟨⟨⟨⟨⟨⟨a1, a2⟩, a3⟩, a4⟩, a5⟩, a6⟩, a7⟩, a8⟩, a9⟩ := h1
      have a1 := Nat.eq_of_beq_eq_true a1
      have a2 := Nat.eq_of_beq_eq_true a2
      have a3 := Nat.eq_of_beq_eq_true a3
      subst a1; subst a2; subst a3
      have hct : ct ≠ 0 := fun h => by rw [h] at a7; cases a7
      have htab : tableOf ((f, tt, tg, ct) :: t') = ⟨f, tt, tg, ct⟩ :: tableOf t' := rfl
      have hhc : zm_hc y tg j0 := by
        cases sh with
        | true =>
          simp only [cond_true, Bool.and_eq_true, Nat.blt_eq] at a9
          exact Or.inl ⟨sl, a6, a9.1.1.2, zm_dc_ok a9.1.1.1, zm_dc_ok a9.1.2, zm_dc_ok a9.2⟩
        | false =>
          simp only [cond_false, Bool.and_eq_true] at a9
          exact Or.inr ⟨sl, a6, zm_dc_ok a9.1.1, zm_dc_ok a9.1.2, zm_dc_ok a9.2⟩
      cases hcov : (Nat.ble f pc && Nat.blt pc tt && Nat.beq x E) with
      | true =>
        refine ⟨fun j hj => ?_, fun hn => ?_⟩
        · simp only [zm_cat, hcov, cond_true] at hj
          cases hj
          simp only [Bool.and_eq_true, Nat.blt_eq] at hcov
          have hxE := Nat.eq_of_beq_eq_true hcov.2
          subst hxE
          refine ⟨[], ⟨f, tt, tg, ct⟩, tableOf t', htab, fun z hz => (by cases hz), ?_, hct, a8, hhc, a5⟩
          simp only [covers, Bool.and_eq_true, decide_eq_true_eq]
          exact ⟨Nat.le_of_ble_eq_true hcov.1.1, hcov.1.2⟩
        · simp only [zm_cat, hcov, cond_true] at hn
          cases hn
      | false =>
        have hp : zm_pass y pc E ⟨f, tt, tg, ct⟩ := by
          by_cases hxE : x = E
          · refine Or.inl ?_
            subst hxE
            have hxx : Nat.beq x x = true := Nat.beq_refl x
            rw [hxx, Bool.and_true] at hcov
            simp only [covers]
            simp only [Bool.and_eq_false_iff] at hcov ⊢
            rcases hcov with h9 | h9
            · exact Or.inl (decide_eq_false fun q => by rw [Nat.ble_eq_true_of_le q] at h9; cases h9)
            · exact Or.inr (decide_eq_false fun q => by rw [Nat.blt_eq.mpr q] at h9; cases h9)
          · exact Or.inr ⟨hct, x, a4, hxE, a8⟩
        refine ⟨fun j hj => ?_, fun hn => ?_⟩
        · simp only [zm_cat, hcov, cond_false] at hj
          obtain ⟨pre, x9, suf, e1, e2, e3⟩ := i1 j hj
          refine ⟨⟨f, tt, tg, ct⟩ :: pre, x9, suf, by rw [htab, e1]; rfl, fun z hz => ?_, e3⟩
          rcases List.mem_cons.mp hz with rfl | hz
          · exact hp
          · exact e2 z hz
        · simp only [zm_cat, hcov, cond_false] at hn
          intro z hz
          rw [htab] at hz
          rcases List.mem_cons.mp hz with rfl | hz
          · exact hp
          · exact i2 hn z hz
theorem zm_6 : ∀ q : Nat, q < 6 → Int32.ofInt (q : Int) = Int32.ofNat q := by decide +kernel
theorem zm_pass_use {y pc E : Nat} {z : ExceptionTableEntry} (hE : E < 3) (hG : zm_G D cA s) (hts : ∀ w ∈ zm_tb, w.before args s = true) (h : zm_pass y pc E z) : covers z pc = false ∨ (z.catchType ≠ 0 ∧ ∃ nm : String, (Cond.classLink (zm_cn (zm_own y)) z.catchType nm).before args s = true ∧ va_Nc (zm_ex E) nm s) := by
  rcases h with h | ⟨h1, x, h2, h3, h4⟩
  · exact Or.inl h
  · exact Or.inr ⟨h1, zm_ex x, hts _ (zm_tb_in (zm_xk_in _ h4) rfl), hG.2.2.2.2.2 E x hE h2 (Ne.symm h3)⟩
set_option maxHeartbeats 1000000 in
theorem zm_catch_sound {y pc E q0 : Nat} {ml : List Value} {h : zm_H} {ls : Array Slot} {rest : List Value} {q : Addr} {ce : Cell} (C : zm_cx X b b0 D cA p s m args meth c u0 y) (hr : meth.sig.returnType = zm_rt y) (hlocks : meth.locks = false) (hht : c.exceptionTable.toList = tableOf (zm_hh y)) (hokh : zm_okh y = true) (hkd : zm_kd y = 3) (hE : E < 3) (hcat : zm_cat (zm_hd y) pc E = some q0)
    (hl : zm_lr b b0 ml ls (zm_mx y)) (hP : va_P D zm_cl (zm_ws b b0 cA h) H) (hS : va_S (zm_A b) s.heap H locs) (hce : H[q]? = some ce) (hcv : ce.vm = .none) (hcl : s.vm.findClass (zm_ex E) = some ce.cls) (hc : cells ≤ R.cells) (hs : slots ≤ R.slots) :
    vx_W p l e R s m args below meth c H locs cells slots (vx_MQ below (zm_Qc b b0 D cA (.inl (some (.int (Int32.ofNat q0)))) h) (zm_XC b b0 D cA (.inl (some (.int (Int32.ofNat q0)))) h) args s R.cells R.slots (zm_A b)) (F0 m pc ls rest) q := by
  obtain ⟨hx, hb, hml, hown, hts, hnm, hG, hX, hb0, hbs, hub⟩ := id C
  simp only [zm_okh, Bool.or_eq_true, Bool.and_eq_true, Bool.not_eq_true', decide_eq_true_eq] at hokh
  rcases hokh with h8 | ⟨⟨h8, h9⟩, h7⟩
  · rw [hkd] at h8; cases h8
  obtain ⟨pre, x, suf, e1, e2, e3, e4, e5, e6, e7⟩ := (zm_hand (pc := pc) (E := E) _ _ (Nat.eq_of_beq_eq_true h9) h8).1 q0 hcat
  have hB := hG.2.2.1
  have hcast : (Cond.castable (zm_ex E) (zm_ex E)).before args s = true := by
    have : Cond.castable (zm_ex E) (zm_ex E) ∈ zm_B := by
      match E, hE with
      | 0, _ => exact List.mem_of_getElem? (i := 0) rfl
      | 1, _ => exact List.mem_of_getElem? (i := 1) rfl
      | 2, _ => exact List.mem_of_getElem? (i := 2) rfl
    exact va_Nw.use rfl (hB _ this)
  refine vx_catch hown pre x suf (by rw [hht, e1]) (fun z hz => zm_pass_use hE hG hts (e2 z hz)) e3 e4 (hts _ (zm_tb_in (zm_xk_in _ e5) rfl)) hcast hce hcv hcl ?_
  have hq : ∀ t : State, t.heap = H → s.WarmedH t.vm → zm_Qc b b0 D cA (.inl (some (.int (Int32.ofNat q0)))) h args s (.returned (some (.int (Int32.ofNat q0)))) t := fun t ht _ => ⟨_, rfl, rfl, by rw [ht]; exact hP, hS.F ht⟩
  have hrt : meth.sig.returnType = some .int := hr.trans h7
  rcases e6 with ⟨sl, g1, g2, g3, g4, g5⟩ | ⟨sl, g1, g3, g4, g5⟩
  · refine lv_astore_n hx hb g3 (i := sl) (by simp [Fin.ofNat, Nat.mod_eq_of_lt g2]) (zm_lr_has hl) g1 rfl (fun ls' _ => ?_)
    refine lv_iconst hx hb g4 (v := Int32.ofNat q0) (zm_6 q0 e7) ?_
    exact vx_ret (W.widen hc hs (W.iret hx hb hrt hq hS.2.2 g5 hlocks))
  · refine lv_astore hx hb g3 (zm_lr_has hl) g1 rfl (fun ls' _ => ?_)
    refine lv_iconst hx hb g4 (v := Int32.ofNat q0) (zm_6 q0 e7) ?_
    exact vx_ret (W.widen hc hs (W.iret hx hb hrt hq hS.2.2 g5 hlocks))
theorem zm_out_sound {y pc E : Nat} {h : zm_H} {ls : Array Slot} {rest : List Value} {q : Addr} {ce : Cell} (C : zm_cx X b b0 D cA p s m args meth c u0 y) (hlocks : meth.locks = false) (hht : c.exceptionTable.toList = tableOf (zm_hh y)) (hokh : zm_okh y = true) (hh : zm_kd y = 3 ∨ (zm_hd y = [] ∧ zm_hh y = [])) (hE : E < 3) (hcat : zm_cat (zm_hd y) pc E = none)
    (hP : va_P D zm_cl (zm_ws b b0 cA h) H) (hS : va_S (zm_A b) s.heap H locs) (hce : H[q]? = some ce) (hcv : ce.vm = .none) (hcl : s.vm.findClass (zm_ex E) = some ce.cls) (hc : cells ≤ R.cells) (hs : slots ≤ R.slots) :
    vx_W p l e R s m args below meth c H locs cells slots (vx_MQ below (zm_Qc b b0 D cA (.inr E) h) (zm_XC b b0 D cA (.inr E) h) args s R.cells R.slots (zm_A b)) (F0 m pc ls rest) q := by
  obtain ⟨hx, hb, hml, hown, hts, hnm, hG, hX, hb0, hbs, hub⟩ := id C
  have hpass : ∀ z ∈ c.exceptionTable.toList, zm_pass y pc E z := by
    intro z hz
    rw [hht] at hz
    rcases hh with h9 | h9
    · simp only [zm_okh, Bool.or_eq_true, Bool.and_eq_true, Bool.not_eq_true', decide_eq_true_eq] at hokh
      rcases hokh with h8 | ⟨⟨h8, h7⟩, -⟩
      · rw [h9] at h8; cases h8
      · exact (zm_hand (pc := pc) (E := E) _ _ (Nat.eq_of_beq_eq_true h7) h8).2 hcat z hz
    · rw [h9.2] at hz
      cases hz
  exact vx_outP hown hlocks (fun z hz => zm_pass_use hE hG hts (hpass z hz)) hce hcv hcl (fun t ht _ => ⟨E, rfl, rfl, hE, by rw [ht]; exact hP, hS.F ht⟩) hS.2.2 hc hs
end ZCL
end
section
/-! calls of every kind, and the theorem -/
theorem zm_cal_spec {k a y : Nat} {st as rest : List Value} {h : zm_H} (hz : zm_cal k a y st h = some (as, rest)) : zm_lv a < zm_lv y ∧ a < zm_nM ∧ zm_wd rest ≤ 8 ∧ (zm_exp as).length ≤ zm_mx a ∧
    (((k = 3 ∨ k = 4 ∨ k = 15) ∧ as.length = zm_ar a ∧ st = as.reverse ++ rest) ∨ (k = 5 ∧ ∃ r ps fs, as = .ref r :: ps ∧ ps.length = zm_ar a ∧ st = ps.reverse ++ .ref r :: rest ∧ zm_obj h r = some (zm_own a, fs)) ∨
      ((k = 6 ∨ k = 7) ∧ ∃ r ps, as = .ref r :: ps ∧ ps.length = zm_ar a ∧ st = ps.reverse ++ .ref r :: rest)) := by
  unfold zm_cal at hz
  cases hc : (Nat.blt (zm_lv a) (zm_lv y) && Nat.blt a zm_nM) with
  | false => rw [hc] at hz; cases hz
  | true =>
    rw [hc] at hz
    simp only [Bool.and_eq_true, Nat.blt_eq] at hc
    simp only [cond_true] at hz
    have stat : ∀ (hk : k = 3 ∨ k = 4 ∨ k = 15), (match zm_pop (zm_ar a) [] st with
      | some (as, rest) => cond (Nat.ble (zm_wd rest) 8 && Nat.ble (zm_exp as).length (zm_mx a)) (some (as, rest)) none
      | none => none) = some (as, rest) → zm_lv a < zm_lv y ∧ a < zm_nM ∧ zm_wd rest ≤ 8 ∧ (zm_exp as).length ≤ zm_mx a ∧
    (((k = 3 ∨ k = 4 ∨ k = 15) ∧ as.length = zm_ar a ∧ st = as.reverse ++ rest) ∨ (k = 5 ∧ ∃ r ps fs, as = .ref r :: ps ∧ ps.length = zm_ar a ∧ st = ps.reverse ++ .ref r :: rest ∧ zm_obj h r = some (zm_own a, fs)) ∨
      ((k = 6 ∨ k = 7) ∧ ∃ r ps, as = .ref r :: ps ∧ ps.length = zm_ar a ∧ st = ps.reverse ++ .ref r :: rest)) := by
      intro hk hz
      split at hz
      · rename_i as1 rest1 hp
        cases hb : (Nat.ble (zm_wd rest1) 8 && Nat.ble (zm_exp as1).length (zm_mx a)) with
        | false => rw [hb] at hz; cases hz
        | true =>
          rw [hb] at hz
          cases hz
          rw [Bool.and_eq_true] at hb
          obtain ⟨ps, e1, e2, e3⟩ := zm_pop_spec _ _ _ _ _ hp
          rw [List.append_nil] at e1
          subst e1
          exact ⟨hc.1, hc.2, Nat.le_of_ble_eq_true hb.1, Nat.le_of_ble_eq_true hb.2, Or.inl ⟨hk, e2, e3⟩⟩
      · cases hz
    have spec : ∀ (hk : k = 6 ∨ k = 7), (match zm_pop (zm_ar a) [] st with
      | some (as, .ref r :: rest) => cond (Nat.ble (zm_wd rest) 8 && Nat.ble (zm_exp (.ref r :: as)).length (zm_mx a)) (some (.ref r :: as, rest)) none
      | _ => none) = some (as, rest) → zm_lv a < zm_lv y ∧ a < zm_nM ∧ zm_wd rest ≤ 8 ∧ (zm_exp as).length ≤ zm_mx a ∧
    (((k = 3 ∨ k = 4 ∨ k = 15) ∧ as.length = zm_ar a ∧ st = as.reverse ++ rest) ∨ (k = 5 ∧ ∃ r ps fs, as = .ref r :: ps ∧ ps.length = zm_ar a ∧ st = ps.reverse ++ .ref r :: rest ∧ zm_obj h r = some (zm_own a, fs)) ∨
      ((k = 6 ∨ k = 7) ∧ ∃ r ps, as = .ref r :: ps ∧ ps.length = zm_ar a ∧ st = ps.reverse ++ .ref r :: rest)) := by
      intro hk hz
      split at hz
      · rename_i as1 r1 rest1 hp
        cases hb : (Nat.ble (zm_wd rest1) 8 && Nat.ble (zm_exp (.ref r1 :: as1)).length (zm_mx a)) with
        | false => rw [hb] at hz; cases hz
        | true =>
          rw [hb] at hz
          cases hz
          rw [Bool.and_eq_true] at hb
          obtain ⟨ps, e1, e2, e3⟩ := zm_pop_spec _ _ _ _ _ hp
          rw [List.append_nil] at e1
          subst e1
          exact ⟨hc.1, hc.2, Nat.le_of_ble_eq_true hb.1, Nat.le_of_ble_eq_true hb.2, Or.inr (Or.inr ⟨hk, _, _, rfl, e2, e3⟩)⟩
      · cases hz
    split at hz
    · exact stat (Or.inl rfl) hz
    · exact stat (Or.inr (Or.inl rfl)) hz
    · exact stat (Or.inr (Or.inr rfl)) hz
    · split at hz
      · rename_i as1 r1 rest1 hp
        split at hz
        · rename_i c1 fs1 ho
          cases hb : (Nat.beq c1 (zm_own a) && Nat.ble (zm_wd rest1) 8 && Nat.ble (zm_exp (.ref r1 :: as1)).length (zm_mx a)) with
          | false => rw [hb] at hz; cases hz
          | true =>
            rw [hb] at hz
            cases hz
            simp only [Bool.and_eq_true] at hb
            obtain ⟨ps, e1, e2, e3⟩ := zm_pop_spec _ _ _ _ _ hp
            rw [List.append_nil] at e1
            subst e1
            have e4 := Nat.eq_of_beq_eq_true hb.1.1
            rw [e4] at ho
            exact ⟨hc.1, hc.2, Nat.le_of_ble_eq_true hb.1.2, Nat.le_of_ble_eq_true hb.2, Or.inr (Or.inl ⟨rfl, _, _, _, rfl, e2, e3, ho⟩)⟩
        · cases hz
      · cases hz
    · exact spec (Or.inl rfl) hz
    · exact spec (Or.inr rfl) hz
    · cases hz
theorem zm_ret_len {i : Instr} {rt : Option FieldType} {st : List Value} {v : Option Value} (h : zm_ret i rt st = some v) : zm_len i = 1 := by
  cases i <;> first | rfl | (simp [zm_ret] at h; done)
section ZMN
variable {p : Program} {l : Launch} {e : Env} {R : Room} {s : State} {m : MethodId} {args : Array Value} {below : List Frame} {meth : Method} {c : Code} {H : Heap} {locs : List Loc} {cells slots : Nat} {Q : State → Prop}
variable {X : zm_X} {b b0 : Nat} {D : va_G} {cA : Nat → ClassId} {u0 v0 : Nat}
theorem zm_words {a : Nat} (ha : a < zm_nM) (hts : ∀ w ∈ zm_tb, w.before args s = true) : ∀ w ∈ zm_cw a :: zm_tb, ∀ (a' : Array Value) (U : State), s.WarmedH U.vm → w.before a' U = true := by
  intro w hw a' U hW
  have h1 : w ∈ zm_tb := by
    rcases List.mem_cons.mp hw with rfl | h
    · exact (zm_wfacts ha).1
    · exact h
  exact word_at hW (good_of_word (List.mem_filter.mp h1).2) (hts w h1)
theorem zm_sig {a : Nat} (ha : a < zm_nM) : ∀ sig, parseMethodDescriptor (zm_nm a).desc = some sig → zm_ar a = sig.parameters.length := by
  intro sig hs
  have h2 := (zm_facts ha).2.2.2.2.1
  rw [hs] at h2
  exact (Option.some.inj h2).symm
theorem zm_cwc {a : Nat} (h : zm_kd a ≠ 3) : zm_cw a = .code (zm_nm a) (zm_by a) (zm_mx a) (zm_rt a) := by
  unfold zm_cw
  cases h9 : Nat.beq (zm_kd a) 3 with
  | true => exact absurd (Nat.eq_of_beq_eq_true h9) h
  | false => rfl
theorem zm_pre {as : List Value} {h : zm_H} {y : Nat} (C : zm_cx X b b0 D cA p s m args meth c u0 y) (hZ : zm_Z b s) (hw : zm_wk b b0 D cA s h H locs) (hu : cells + u0 = zm_uc h) (hsz : H.size ≤ s.heap.size + cells) : ∀ U : State, U.heap = H → s.WarmedH U.vm → zm_Pc X b b0 D cA as h (as.map (zm_tr b b0)).toArray U := by
  obtain ⟨hx, hb, hml, hown, hts, hnm, hG, hX, hb0, hbs, hub⟩ := C
  obtain ⟨hP, hS⟩ := hw
  intro U hU hW
  refine ⟨rfl, zm_G.moved hW hG, ?_, hb0, by rw [hU]; exact Nat.le_trans hbs hS.1, by rw [hU]; omega, by rw [hU]; exact hP, ?_, ?_⟩
  · rw [hU]
    exact (hX.kept (hS.2.1 b0 (Nat.lt_of_lt_of_le hb0 hbs) (Nat.not_le.mpr hb0))).moved hW.alike
  · rw [hU]
    exact vx_Zq.moved hW.alike (hZ.1.kept hS.2.1)
  · rw [hU]
    exact vx_Zq.moved hW.alike (hZ.2.kept hS.2.1)
set_option maxHeartbeats 2000000 in
theorem zm_call_run {n y k a idx j pc pc' : Nat} {st as rest ml : List Value} {h h2 : zm_H} {r2 : zm_O} {ls : Array Slot} (hC : zm_Cn l X b b0 D cA n) (C : zm_cx X b b0 D cA p s m args meth c u0 y) (hZ : zm_Z b s) (hok : zm_okI y (pc, .inr (k, idx, a, j), pc') = true) (hcal : zm_cal k a y st h = some (as, rest)) (hrun : zm_run X n a 0 (zm_ent as (zm_mx a)) [] h = some (r2, h2))
    (hl : zm_lr b b0 ml ls (zm_mx y)) (hw : zm_wk b b0 D cA s h H locs) (hu : cells + u0 = zm_uc h) (hv : slots + v0 = zm_us h) (hR : zm_uc h2 ≤ u0 + R.cells) (hR2 : zm_us h2 ≤ v0 + R.slots) (hlv : zm_lv y ≤ R.frames) (hlo : 40 * zm_lv y ≤ R.locals) (hsz : H.size ≤ s.heap.size + cells) :
    pc' = pc + 3 ∧ vx_Run p l e R s m args below meth c H locs cells slots (zm_uc h2 - zm_uc h) (zm_us h2 - zm_us h) (F0 m pc ls (st.map (zm_tr b b0))) (rest.map (zm_tr b b0)) (zm_Qc b b0 D cA r2 h2 (as.map (zm_tr b b0)).toArray) (zm_XC b b0 D cA r2 h2) (zm_A b) := by
  obtain ⟨hx, hb, hml, hown, hts, hnm, hG, hX, hb0, hbs, hub⟩ := id C
  obtain ⟨c1, c2, c3, c4, c5⟩ := zm_cal_spec hcal
  obtain ⟨f1, f2, f3, f4, f5, f6, f7, f8, f9⟩ := zm_facts c2
  obtain ⟨w1, w2, w3, w4⟩ := zm_wfacts c2
  have hM := hC a as h r2 h2 c2 c4 hrun
  have hm := zm_mono _ _ _ _ _ _ _ _ hrun
  have hP := hw.1
  have S : CallFix p m c (zm_by y) (zm_mx y) s args zm_tb (zm_cn (zm_own y)) := ⟨hx, hb, hml, hown, hts⟩
  have hfit : cells + (zm_uc h2 - zm_uc h) ≤ R.cells ∧ slots + (zm_us h2 - zm_us h) ≤ R.slots := by omega
  have hfr : zm_lv a + 1 ≤ R.frames := by omega
  have hlc : 8 + (zm_mx a + 11) + 40 * zm_lv a ≤ R.locals := by omega
  have hW9 : 2 * (F0 m pc ls (st.map (zm_tr b b0))).monitorRoom + ((rest.map (zm_tr b b0)).map fun v => v.category).sum ≤ 8 := lv_room (by rw [zm_tr_sum]; exact c3)
  have hpre := zm_pre (as := as) C hZ hw hu hsz
  have hwords := zm_words (args := args) (s := s) c2 hts
  have hsig := zm_sig c2
  have hlen9 : (as.map (zm_tr b b0)).length = as.length := List.length_map _
  rcases c5 with ⟨hk, e1, e2⟩ | ⟨rfl, r, ps, fs, rfl, e1, e2, e3⟩ | ⟨hk, r, ps, rfl, e1, e2⟩
  · have hstk : (F0 m pc ls (st.map (zm_tr b b0))).stack = (as.map (zm_tr b b0)).reverse ++ rest.map (zm_tr b b0) := by
      show st.map (zm_tr b b0) = _
      rw [e2, List.map_append, List.map_reverse]
    rcases hk with rfl | rfl | rfl
    · simp only [zm_okI, Bool.and_eq_true, decide_eq_true_eq] at hok
      obtain ⟨⟨⟨d1, d2⟩, d3⟩, d4⟩ := hok
      have d4 := Nat.eq_of_beq_eq_true d4
      refine ⟨Nat.eq_of_beq_eq_true d2, ?_⟩
      have hlink : (Cond.methodLink (zm_cn (zm_own y)) idx (zm_nm a)).before args s = true := hts (.methodLink (zm_cn (zm_own y)) idx (zm_nm a)) (zm_tb_in (zm_ml_in (zm_own y, idx, a) d3) rfl)
      have hc1 : zm_cw a ∈ zm_cw a :: zm_tb := List.mem_cons_self
      have hc2 := hts _ w1
      have hcw := zm_cwc (a := a) (by rw [d4]; decide)
      have hst : (Cond.static (zm_nm a)).before args s = true := by
        have h9 := hts _ w3
        unfold zm_kw at h9
        rw [d4] at h9
        exact h9
      exact vx_runS S hM ⟨⟨rfl, rfl, hfr, hlc, hwords, List.mem_cons.mpr (Or.inl hcw.symm), hcw ▸ hc2, hts _ w2, f4, hsig, hlink⟩, hst⟩ ⟨zm_blind, hpre⟩ rfl (by rw [hlen9]; exact e1) hl.1 hstk hW9 (zm_dc_ok d1) hfit
    · simp only [zm_okI, Bool.and_eq_true, decide_eq_true_eq] at hok
      obtain ⟨⟨⟨d1, d2⟩, d3⟩, d4⟩ := hok
      have d4 := Nat.eq_of_beq_eq_true d4
      refine ⟨Nat.eq_of_beq_eq_true d2, ?_⟩
      have hlink : (Cond.methodLinkNest (zm_cn (zm_own y)) idx (zm_nm a) "RefactoringReplay").before args s = true := va_Nw.use (w := .methodLinkNest (zm_cn (zm_own y)) idx (zm_nm a) "RefactoringReplay") rfl (hG.2.1 (zm_own y, idx, a) d3)
      have hc1 : zm_cw a ∈ zm_cw a :: zm_tb := List.mem_cons_self
      have hc2 := hts _ w1
      have hcw := zm_cwc (a := a) (by rw [d4]; decide)
      have hst : (Cond.static (zm_nm a)).before args s = true := by
        have h9 := hts _ w3
        unfold zm_kw at h9
        rw [d4] at h9
        exact h9
      exact vx_runSN S hM ⟨⟨⟨rfl, rfl, hfr, hlc, hwords, List.mem_cons.mpr (Or.inl hcw.symm)⟩, hcw ▸ hc2, hts _ w2, f4, hsig, hlink⟩, hst, trivial⟩ ⟨zm_blind, hpre⟩ rfl (by rw [hlen9]; exact e1) hl.1 hstk hW9 (zm_dc_ok d1) hfit
    · simp only [zm_okI, Bool.and_eq_true, decide_eq_true_eq] at hok
      obtain ⟨⟨⟨d1, d2⟩, d3⟩, d4⟩ := hok
      have d4 := Nat.eq_of_beq_eq_true d4
      refine ⟨Nat.eq_of_beq_eq_true d2, ?_⟩
      have hlink : (Cond.methodLink (zm_cn (zm_own y)) idx (zm_nm a)).before args s = true := hts (.methodLink (zm_cn (zm_own y)) idx (zm_nm a)) (zm_tb_in (zm_ml_in (zm_own y, idx, a) d3) rfl)
      have hc1 : zm_cw a ∈ zm_cw a :: zm_tb := List.mem_cons_self
      have hc2 := hts _ w1
      have hcw : zm_cw a = .codeWith (zm_nm a) (zm_by a) (zm_mx a) (zm_rt a) (zm_hh a) := by
        unfold zm_cw
        rw [d4]
        rfl
      have hst : (Cond.static (zm_nm a)).before args s = true := by
        have h9 := hts _ w3
        unfold zm_kw at h9
        rw [d4] at h9
        exact h9
      exact vx_runSX (hh := zm_hh a) S hM ⟨⟨rfl, rfl, hfr, hlc, hwords, List.mem_cons.mpr (Or.inl hcw.symm)⟩, hcw ▸ hc2, hts _ w2, f4, hsig, hlink, hst⟩ ⟨zm_blind, hpre⟩ rfl (by rw [hlen9]; exact e1) hl.1 hstk hW9 (zm_dc_ok d1) hfit
  · have hstk : (F0 m pc ls (st.map (zm_tr b b0))).stack = (ps.map (zm_tr b b0)).reverse ++ .ref (b + r) :: rest.map (zm_tr b b0) := by
      show st.map (zm_tr b b0) = _
      rw [e2, List.map_append, List.map_reverse]
      rfl
    simp only [zm_okI, Bool.and_eq_true, decide_eq_true_eq, Nat.blt_eq] at hok
    obtain ⟨⟨⟨⟨d1, d2⟩, d3⟩, d4⟩, d5⟩ := hok
    have d4 := Nat.eq_of_beq_eq_true d4
    refine ⟨Nat.eq_of_beq_eq_true d2, ?_⟩
    have hlink : (Cond.methodLink (zm_cn (zm_own y)) idx (zm_nm a)).before args s = true := hts (.methodLink (zm_cn (zm_own y)) idx (zm_nm a)) (zm_tb_in (zm_ml_in (zm_own y, idx, a) d3) rfl)
    have hc1 : zm_cw a ∈ zm_cw a :: zm_tb := List.mem_cons_self
    have hc2 := hts _ w1
    have hcw := zm_cwc (a := a) (by rw [d4]; decide)
    have hin : (Cond.instanceMethod (zm_nm a)).before args s = true := by
      have h9 := hts _ w3
      unfold zm_kw at h9
      rw [d4] at h9
      exact h9
    obtain ⟨o1, o2⟩ := zm_obj_spec e3
    have hat : (zm_ws b b0 cA h)[r]? = some (b + r, .inr (zm_own a, fs.map (zm_tr b b0))) := by rw [zm_ws_at o1, o2]; rfl
    have hrecv := va_recv hG.1 hP (zm_cl_at d5) hat
    exact vx_runV (C := (zm_nm a).cls) S hM ⟨⟨rfl, rfl, hfr, hlc, hwords, List.mem_cons.mpr (Or.inl hcw.symm), hcw ▸ hc2, hts _ w2, f4, hsig, hlink⟩, hin, hts _ (w4 d4)⟩ ⟨zm_blind, hrecv, hpre⟩ rfl (by rw [List.length_map]; exact e1) hl.1 hstk hW9 (zm_dc_ok d1) hfit
  · have hstk : (F0 m pc ls (st.map (zm_tr b b0))).stack = (ps.map (zm_tr b b0)).reverse ++ .ref (b + r) :: rest.map (zm_tr b b0) := by
      show st.map (zm_tr b b0) = _
      rw [e2, List.map_append, List.map_reverse]
      rfl
    rcases hk with rfl | rfl
    · simp only [zm_okI, Bool.and_eq_true, decide_eq_true_eq] at hok
      obtain ⟨⟨⟨d1, d2⟩, d3⟩, d4⟩ := hok
      have d4 := Nat.eq_of_beq_eq_true d4
      refine ⟨Nat.eq_of_beq_eq_true d2, ?_⟩
      have hlink : (Cond.methodLink (zm_cn (zm_own y)) idx (zm_nm a)).before args s = true := hts (.methodLink (zm_cn (zm_own y)) idx (zm_nm a)) (zm_tb_in (zm_ml_in (zm_own y, idx, a) d3) rfl)
      have hc1 : zm_cw a ∈ zm_cw a :: zm_tb := List.mem_cons_self
      have hc2 := hts _ w1
      have hcw := zm_cwc (a := a) (by rw [d4]; decide)
      obtain ⟨g1, g2⟩ := f9 d4
      have hin : (Cond.instanceMethod (zm_nm a)).before args s = true := by
        have h9 := hts _ w3
        unfold zm_kw at h9
        rw [d4] at h9
        exact h9
      rw [g2] at hcw
      exact vx_runI S hM ⟨⟨rfl, rfl, hfr, hlc, hwords, List.mem_cons.mpr (Or.inl hcw.symm), hcw ▸ hc2, hts _ w2, f4, hsig, hlink⟩, g1, hin⟩ ⟨zm_blind, hpre⟩ rfl (by rw [List.length_map]; exact e1) hl.1 hstk hW9 (zm_dc_ok d1) hfit
    · simp only [zm_okI, Bool.and_eq_true, decide_eq_true_eq] at hok
      obtain ⟨⟨⟨d1, d2⟩, d3⟩, d4⟩ := hok
      have d4 := Nat.eq_of_beq_eq_true d4
      refine ⟨Nat.eq_of_beq_eq_true d2, ?_⟩
      have hlink : (Cond.methodLinkNest (zm_cn (zm_own y)) idx (zm_nm a) "RefactoringReplay").before args s = true := va_Nw.use (w := .methodLinkNest (zm_cn (zm_own y)) idx (zm_nm a) "RefactoringReplay") rfl (hG.2.1 (zm_own y, idx, a) d3)
      have hc1 : zm_cw a ∈ zm_cw a :: zm_tb := List.mem_cons_self
      have hc2 := hts _ w1
      have hcw := zm_cwc (a := a) (by rw [d4]; decide)
      obtain ⟨g1, g2⟩ := f9 d4
      have hin : (Cond.instanceMethod (zm_nm a)).before args s = true := by
        have h9 := hts _ w3
        unfold zm_kw at h9
        rw [d4] at h9
        exact h9
      rw [g2] at hcw
      exact vx_runIN S hM ⟨⟨⟨rfl, rfl, hfr, hlc, hwords, List.mem_cons.mpr (Or.inl hcw.symm)⟩, hcw ▸ hc2, hts _ w2, f4, hsig, hlink⟩, g1, hin⟩ ⟨zm_blind, hpre⟩ rfl (by rw [List.length_map]; exact e1) hl.1 hstk hW9 (zm_dc_ok d1) hfit
end ZMN
set_option maxHeartbeats 2000000 in
/-- THE RUNS OF THE SMALL MACHINE ARE RUNS OF THE REAL ONE -/
theorem zm_sound {l : Launch} {X : zm_X} {b b0 : Nat} {D : va_G} {cA : Nat → ClassId} (hltr : l.stackTraces = false) : ∀ n, zm_Fr l X b b0 D cA n := by
  intro n
  induction n with
  | zero => intro y pc ml st h r h' hrun; cases hrun
  | succ n ih =>
    have hC := zm_C_of_F ih
    intro y pc ml st h r h' hrun hok hokh hh p e R s m args below meth c H locs cells slots u0 v0 ls C hr hlocks hht hZ hl hw hu hv hR hR2 hlv hlo h1
    rcases zm_run_cases hrun with ⟨i, pc', v, hlk, hret, rfl, rfl⟩ | ⟨i, pc', pc2, ml2, st2, h2, hlk, hs, hr2⟩ | ⟨k, idx, a, j, pc', as, rest, r2, h2, hlk, hcal, hr2, hx⟩ | ⟨idx, a, j, pc', hlk, hwd, rfl, rfl⟩ | ⟨k, idx, a, j, pc', pc2, ml2, st2, h2, hlk, hs, hr2⟩
    · have hI := zm_lk_ok hok hlk
      simp only [zm_okI, Bool.and_eq_true, Bool.or_eq_true] at hI
      have hlen := zm_ret_len hret
      have hd := zm_dc_ok hI.1
      rw [hlen] at hI
      rcases hI.2 with h9 | h9
      · have h9 := Nat.eq_of_beq_eq_true h9
        rw [h9, Nat.add_sub_cancel_left] at hd
        exact zm_ret_sound C hr hlocks hd hret hw (by omega) (by omega)
      · cases h9
    · have hI := zm_lk_ok hok hlk
      simp only [zm_okI, Bool.and_eq_true, Bool.or_eq_true] at hI
      have hm := zm_mono _ _ _ _ _ _ _ _ hr2
      refine zm_st_sound (v0 := v0) C (zm_dc_ok hI.1) (hI.2.imp Nat.eq_of_beq_eq_true Nat.eq_of_beq_eq_true) hs hl hw hu hv (by omega) (by omega) (fun ls2 H2 locs2 c2 s2 e1 e2 hl2 hw2 => ?_)
      exact ih y pc2 ml2 st2 h2 r h' hr2 hok hokh hh p e R s m args below meth c H2 locs2 c2 s2 u0 v0 ls2 C hr hlocks hht hZ hl2 hw2 e1 e2 hR hR2 hlv hlo h1
    · have hI := zm_lk_ok hok hlk
      have hm := zm_mono _ _ _ _ _ _ _ _ hr2
      have hm3 : zm_uc h2 ≤ zm_uc h' ∧ zm_us h2 ≤ zm_us h' := by
        rcases hx with ⟨v, -, hr3⟩ | ⟨E, -, rfl, -⟩
        · exact zm_mono _ _ _ _ _ _ _ _ hr3
        · exact ⟨Nat.le_refl _, Nat.le_refl _⟩
      refine zm_sz fun hsz => ?_
      obtain ⟨rfl, hrn⟩ := zm_call_run (R := R) (e := e) (below := below) (v0 := v0) hC C hZ hI hcal hr2 hl hw hu hv (by omega) (by omega) hlv hlo hsz
      refine zm_after hrn hw.2 (fun v hv9 H1 locs1 hP1 hS1 => ?_) (fun k9 hk9 hk3 q ce H1 locs1 hP1 hS1 hce hcv hcl => ?_)
      · rcases hx with ⟨v2, e9, hr3⟩ | ⟨E, e9, -⟩
        · cases e9.symm.trans hv9
          have e8 : (v.map (zm_tr b b0)).toList ++ rest.map (zm_tr b b0) = (v.toList ++ rest).map (zm_tr b b0) := by cases v <;> rfl
          rw [e8]
          exact ih y (pc + 3) ml (v.toList ++ rest) h2 r h' hr3 hok hokh hh p e R s m args below meth c H1 locs1 _ _ u0 v0 ls C hr hlocks hht hZ hl ⟨hP1, hS1⟩ (by omega) (by omega) hR hR2 hlv hlo h1
        · cases e9.symm.trans hv9
      · rcases hx with ⟨v2, e9, hr3⟩ | ⟨E, e9, rfl, hx⟩
        · cases e9.symm.trans hk9
        · cases e9.symm.trans hk9
          rcases hx with ⟨q0, hcat, rfl⟩ | ⟨hcat, rfl⟩
          · have hkd : zm_kd y = 3 := by
              rcases hh with h9 | h9
              · exact h9
              · rw [h9.1] at hcat; cases hcat
            exact zm_catch_sound C hr hlocks hht hokh hkd hk3 hcat hl hP1 hS1 hce hcv hcl (by omega) (by omega)
          · exact zm_out_sound C hlocks hht hokh hh hk3 hcat hP1 hS1 hce hcv hcl (by omega) (by omega)
    · have hI := zm_lk_ok hok hlk
      have r1 : zm_uc h + 1 ≤ u0 + R.cells := by have := hR; simp only [zm_uc] at this ⊢; omega
      have r2 : zm_us h + 6 ≤ v0 + R.slots := by have := hR2; simp only [zm_us] at this ⊢; omega
      exact zm_throw_sound hltr C hlocks hh hht hokh hZ hI hwd hl hw hu hv r1 r2 hlv hlo
    · have hI := zm_lk_ok hok hlk
      have hm := zm_mono _ _ _ _ _ _ _ _ hr2
      refine zm_rs_sound (v0 := v0) C hI hs hl hw hu hv (by omega) (by omega) (by omega) (by omega) (fun ls2 H2 locs2 c2 s2 e1 e2 hl2 hw2 => ?_)
      exact ih y pc2 ml2 st2 h2 r h' hr2 hok hokh hh p e R s m args below meth c H2 locs2 c2 s2 u0 v0 ls2 C hr hlocks hht hZ hl2 hw2 e1 e2 hR hR2 hlv hlo h1
end
section
/-! the small machine's rules: zp_wp is 'it comes to an end with Q' -/
theorem zp_st_nret {X : zm_X} {i : Instr} {pc pc' : Nat} {ml st : List Value} {h : zm_H} {z : zm_S} {rt : Option FieldType} (hz : zm_st X i pc pc' ml st h = some z) : zm_ret i rt st = none := by
  cases i <;> first | rfl | (simp [zm_st] at hz; done)
theorem zp_rs_ncal {k idx a j pc' y : Nat} {ml st : List Value} {h : zm_H} {z : zm_S} (hz : zm_rs k idx a j pc' ml st h = some z) : zm_cal k a y st h = none ∧ Nat.beq k 12 = false := by
  revert hz
  match k with
  | 3 | 4 | 5 | 6 | 7 | 12 | 15 => intro hz; simp [zm_rs] at hz
  | 0 | 1 | 2 | 8 | 9 | 10 | 11 | 13 | 14 | 16 => intro _; refine ⟨?_, rfl⟩; unfold zm_cal; cases (Nat.blt (zm_lv a) (zm_lv y) && Nat.blt a zm_nM) <;> rfl
  | n + 17 => intro hz; simp [zm_rs] at hz
theorem zp_run_ret {X : zm_X} {n y pc pc' : Nat} {i : Instr} {ml st : List Value} {h : zm_H} {v : Option Value} (hlk : zm_lk (zm_cd y) pc = some (.inl i, pc')) (hr : zm_ret i (zm_rt y) st = some v) : zm_run X (n + 1) y pc ml st h = some (.inl v, h) := by
  rw [zm_run, hlk]
  simp only [hr]
theorem zp_run_st {X : zm_X} {n y pc pc' pc2 : Nat} {i : Instr} {ml st ml2 st2 : List Value} {h h2 : zm_H} (hlk : zm_lk (zm_cd y) pc = some (.inl i, pc')) (hs : zm_st X i pc pc' ml st h = some (pc2, ml2, st2, h2)) : zm_run X (n + 1) y pc ml st h = zm_run X n y pc2 ml2 st2 h2 := by
  rw [zm_run, hlk]
  simp only [zp_st_nret hs, hs]
theorem zp_run_rs {X : zm_X} {n y pc pc' pc2 k idx a j : Nat} {ml st ml2 st2 : List Value} {h h2 : zm_H} (hlk : zm_lk (zm_cd y) pc = some (.inr (k, idx, a, j), pc')) (hs : zm_rs k idx a j pc' ml st h = some (pc2, ml2, st2, h2)) : zm_run X (n + 1) y pc ml st h = zm_run X n y pc2 ml2 st2 h2 := by
  rw [zm_run, hlk]
  obtain ⟨h1, h2⟩ := zp_rs_ncal (y := y) hs
  simp only [h1, h2, cond_false, hs]
theorem zp_run_thr {X : zm_X} {n y pc pc' idx a j : Nat} {ml st : List Value} {h : zm_H} (hlk : zm_lk (zm_cd y) pc = some (.inr (12, idx, a, j), pc')) (hw : zm_wd st ≤ 8) : zm_run X (n + 1) y pc ml st h = some (.inr a, (h.1, h.2.1, h.2.2.1 + 6, h.2.2.2 + 1)) := by
  rw [zm_run, hlk]
  have h1 : zm_cal 12 a y st h = none := by unfold zm_cal; cases (Nat.blt (zm_lv a) (zm_lv y) && Nat.blt a zm_nM) <;> rfl
  have h2 : Nat.beq 12 12 = true := rfl
  simp only [h1, h2, cond_true, Nat.ble_eq_true_of_le hw]
theorem zp_run_call {X : zm_X} {n y pc pc' k idx a j : Nat} {ml st as rest : List Value} {h : zm_H} (hlk : zm_lk (zm_cd y) pc = some (.inr (k, idx, a, j), pc')) (hc : zm_cal k a y st h = some (as, rest)) : zm_run X (n + 1) y pc ml st h =
    match zm_run X n a 0 (zm_ent as (zm_mx a)) [] h with
        | none => none
        | some (.inl v, h2) => zm_run X n y pc' ml (v.toList ++ rest) h2
        | some (.inr E, h2) => match zm_cat (zm_hd y) pc E with
          | some j => some (.inl (some (.int (Int32.ofNat j))), h2)
          | none => some (.inr E, h2) := by
  rw [zm_run, hlk]
  simp only [hc]
  cases zm_run X n a 0 (zm_ent as (zm_mx a)) [] h with
  | none => rfl
  | some z =>
    obtain ⟨r, h2⟩ := z
    cases r with
    | inl v => rfl
    | inr E =>
      cases hq : zm_cat (zm_hd y) pc E with
      | none => simp only [hq]
      | some j => simp only [hq]
theorem zp_succ {X : zm_X} : ∀ (n y pc : Nat) (ml st : List Value) (h : zm_H) (z : zm_O × zm_H), zm_run X n y pc ml st h = some z → zm_run X (n + 1) y pc ml st h = some z := by
  intro n
  induction n with
  | zero => intro y pc ml st h z hr; cases hr
  | succ n ih =>
    intro y pc ml st h z hr
    obtain ⟨r, h'⟩ := z
    rcases zm_run_cases hr with ⟨i, pc', v, hlk, hret, rfl, rfl⟩ | ⟨i, pc', pc2, ml2, st2, h2, hlk, hs, hr2⟩ | ⟨k, idx, a, j, pc', as, rest, r2, h2, hlk, hcal, hr2, hx⟩ | ⟨idx, a, j, pc', hlk, hwd, rfl, rfl⟩ | ⟨k, idx, a, j, pc', pc2, ml2, st2, h2, hlk, hs, hr2⟩
    · exact zp_run_ret hlk hret
    · rw [zp_run_st hlk hs]; exact ih _ _ _ _ _ _ hr2
    · rw [zp_run_call hlk hcal, ih _ _ _ _ _ _ hr2]
      rcases hx with ⟨v, rfl, hr3⟩ | ⟨E, rfl, rfl, hx⟩
      · exact ih _ _ _ _ _ _ hr3
      · rcases hx with ⟨q, hq, rfl⟩ | ⟨hq, rfl⟩
        · simp only [hq]
        · simp only [hq]
    · exact zp_run_thr hlk hwd
    · rw [zp_run_rs hlk hs]; exact ih _ _ _ _ _ _ hr2
theorem zp_add {X : zm_X} {n y pc : Nat} {ml st : List Value} {h : zm_H} {z : zm_O × zm_H} (k : Nat) (hr : zm_run X n y pc ml st h = some z) : zm_run X (n + k) y pc ml st h = some z := by
  induction k with
  | zero => exact hr
  | succ k ih => exact zp_succ _ _ _ _ _ _ _ ih
def zp_wp (X : zm_X) (y pc : Nat) (ls st : List Value) (h : zm_H) (Q : zm_O → zm_H → Prop) : Prop := ∃ n r h', zm_run X n y pc ls st h = some (r, h') ∧ Q r h'
/-- a method: from its entry -/
def zp_wm (X : zm_X) (y : Nat) (as : List Value) (h : zm_H) (Q : zm_O → zm_H → Prop) : Prop := zp_wp X y 0 (zm_ent as (zm_mx y)) [] h Q
/-- behind a call -/
def zp_k (X : zm_X) (y pc pc' : Nat) (ls rest : List Value) (Q : zm_O → zm_H → Prop) : zm_O → zm_H → Prop := fun r h => match r with
  | .inl none => zp_wp X y pc' ls rest h Q
  | .inl (some v) => zp_wp X y pc' ls (v :: rest) h Q
  | .inr E => match zm_cat (zm_hd y) pc E with
    | some j => Q (.inl (some (.int (Int32.ofNat j)))) h
    | none => Q (.inr E) h
section ZP
variable {X : zm_X} {y pc pc' : Nat} {ls st : List Value} {h : zm_H} {Q : zm_O → zm_H → Prop}
theorem zp_mono {Q' : zm_O → zm_H → Prop} (hq : ∀ r h', Q r h' → Q' r h') (k : zp_wp X y pc ls st h Q) : zp_wp X y pc ls st h Q' := by
  obtain ⟨n, r, h', h1, h2⟩ := k
  exact ⟨n, r, h', h1, hq r h' h2⟩
theorem zp_st {i : Instr} {pc2 : Nat} {ls2 st2 : List Value} {h2 : zm_H} (hf : zm_lk (zm_cd y) pc = some (.inl i, pc')) (hs : zm_st X i pc pc' ls st h = some (pc2, ls2, st2, h2)) (k : zp_wp X y pc2 ls2 st2 h2 Q) : zp_wp X y pc ls st h Q := by
  obtain ⟨n, r, h', h1, hq⟩ := k
  exact ⟨n + 1, r, h', by rw [zp_run_st hf hs]; exact h1, hq⟩
theorem zp_rs {kd idx a j pc2 : Nat} {ls2 st2 : List Value} {h2 : zm_H} (hf : zm_lk (zm_cd y) pc = some (.inr (kd, idx, a, j), pc')) (hs : zm_rs kd idx a j pc' ls st h = some (pc2, ls2, st2, h2)) (k : zp_wp X y pc2 ls2 st2 h2 Q) : zp_wp X y pc ls st h Q := by
  obtain ⟨n, r, h', h1, hq⟩ := k
  exact ⟨n + 1, r, h', by rw [zp_run_rs hf hs]; exact h1, hq⟩
theorem zp_ret {i : Instr} {v : Option Value} (hf : zm_lk (zm_cd y) pc = some (.inl i, pc')) (hr : zm_ret i (zm_rt y) st = some v) (hq : Q (.inl v) h) : zp_wp X y pc ls st h Q := ⟨1, _, _, zp_run_ret hf hr, hq⟩
theorem zp_throw {idx a j : Nat} (hf : zm_lk (zm_cd y) pc = some (.inr (12, idx, a, j), pc')) (hw : zm_wd st ≤ 8) (hq : Q (.inr a) (h.1, h.2.1, h.2.2.1 + 6, h.2.2.2 + 1)) : zp_wp X y pc ls st h Q := ⟨1, _, _, zp_run_thr hf hw, hq⟩
theorem zp_call {kd idx a j : Nat} {as rest : List Value} (hf : zm_lk (zm_cd y) pc = some (.inr (kd, idx, a, j), pc')) (hc : zm_cal kd a y st h = some (as, rest)) (k : zp_wm X a as h (zp_k X y pc pc' ls rest Q)) : zp_wp X y pc ls st h Q := by
  obtain ⟨n, r, h', h1, hq⟩ := k
  match r, hq, h1 with
  | .inl none, hq, h1 =>
    obtain ⟨n2, r2, h2, h3, hq2⟩ := hq
    refine ⟨n + n2 + 1, r2, h2, ?_, hq2⟩
    rw [zp_run_call hf hc, zp_add n2 h1]
    rw [Nat.add_comm n n2]
    exact zp_add n h3
  | .inl (some v), hq, h1 =>
    obtain ⟨n2, r2, h2, h3, hq2⟩ := hq
    refine ⟨n + n2 + 1, r2, h2, ?_, hq2⟩
    rw [zp_run_call hf hc, zp_add n2 h1]
    rw [Nat.add_comm n n2]
    exact zp_add n h3
  | .inr E, hq, h1 =>
    unfold zp_k at hq
    cases hcat : zm_cat (zm_hd y) pc E with
    | some q =>
      simp only [hcat] at hq
      exact ⟨n + 1, _, _, by rw [zp_run_call hf hc, h1]; simp only [hcat], hq⟩
    | none =>
      simp only [hcat] at hq
      exact ⟨n + 1, _, _, by rw [zp_run_call hf hc, h1]; simp only [hcat], hq⟩
/-- a call on an object -/
theorem zp_virt {idx a j r : Nat} {as rest fs : List Value} (hf : zm_lk (zm_cd y) pc = some (.inr (5, idx, a, j), pc')) (hp : zm_pop (zm_ar a) [] st = some (as, .ref r :: rest)) (ho : zm_obj h r = some (zm_own a, fs)) (hc : (Nat.blt (zm_lv a) (zm_lv y) && Nat.blt a zm_nM && (Nat.ble (zm_wd rest) 8 && Nat.ble (zm_exp (.ref r :: as)).length (zm_mx a))) = true) (k : zp_wm X a (.ref r :: as) h (zp_k X y pc pc' ls rest Q)) : zp_wp X y pc ls st h Q := by
  refine zp_call hf ?_ k
  simp only [Bool.and_eq_true] at hc
  unfold zm_cal
  rw [hc.1.1, hc.1.2]
  simp only [Bool.and_true, cond_true, hp, ho, hc.2.1, hc.2.2, Nat.beq_refl]

theorem zp_iconst {n : Int} {v : Int32} (hf : zm_lk (zm_cd y) pc = some (.inl (.iconst n), pc')) (hv : (Int32.ofInt n) = v) (k : zp_wp X y pc' ls (.int v :: st) h Q) : zp_wp X y pc ls st h Q := zp_st hf (by rw [← hv]; rfl) k
theorem zp_bipush {n : Int} {v : Int32} (hf : zm_lk (zm_cd y) pc = some (.inl (.bipush n), pc')) (hv : (Int8.ofInt n).toInt32 = v) (k : zp_wp X y pc' ls (.int v :: st) h Q) : zp_wp X y pc ls st h Q := zp_st hf (by rw [← hv]; rfl) k
theorem zp_sipush {n : Int} {v : Int32} (hf : zm_lk (zm_cd y) pc = some (.inl (.sipush n), pc')) (hv : (Int16.ofInt n).toInt32 = v) (k : zp_wp X y pc' ls (.int v :: st) h Q) : zp_wp X y pc ls st h Q := zp_st hf (by rw [← hv]; rfl) k
theorem zp_lconst {n : Fin 2} {v : Int64} (hf : zm_lk (zm_cd y) pc = some (.inl (.lconst n), pc')) (hv : Int64.ofNat n = v) (k : zp_wp X y pc' ls (.long v :: st) h Q) : zp_wp X y pc ls st h Q := zp_st hf (by rw [← hv]; rfl) k
theorem zp_iload {i : Nat} {x : Int32} (hf : zm_lk (zm_cd y) pc = some (.inl (.iload i), pc')) (hl : ls[(i : Nat)]? = some (.int x)) (k : zp_wp X y pc' ls (.int x :: st) h Q) : zp_wp X y pc ls st h Q := zp_st hf (by simp only [zm_st, zm_iload, hl]) k
theorem zp_iload_n {i : Fin 4} {x : Int32} (hf : zm_lk (zm_cd y) pc = some (.inl (.iload_n i), pc')) (hl : ls[(i : Nat)]? = some (.int x)) (k : zp_wp X y pc' ls (.int x :: st) h Q) : zp_wp X y pc ls st h Q := zp_st hf (by simp only [zm_st, zm_iload, hl]) k
theorem zp_lload {i : Nat} {x : Int64} (hf : zm_lk (zm_cd y) pc = some (.inl (.lload i), pc')) (hl : ls[(i : Nat)]? = some (.long x)) (k : zp_wp X y pc' ls (.long x :: st) h Q) : zp_wp X y pc ls st h Q := zp_st hf (by simp only [zm_st, zm_lload, hl]) k
theorem zp_lload_n {i : Fin 4} {x : Int64} (hf : zm_lk (zm_cd y) pc = some (.inl (.lload_n i), pc')) (hl : ls[(i : Nat)]? = some (.long x)) (k : zp_wp X y pc' ls (.long x :: st) h Q) : zp_wp X y pc ls st h Q := zp_st hf (by simp only [zm_st, zm_lload, hl]) k
theorem zp_aload {i : Nat} {x : Nat} (hf : zm_lk (zm_cd y) pc = some (.inl (.aload i), pc')) (hl : ls[(i : Nat)]? = some (.ref x)) (k : zp_wp X y pc' ls (.ref x :: st) h Q) : zp_wp X y pc ls st h Q := zp_st hf (by simp only [zm_st, zm_aload, hl]) k
theorem zp_aload_n {i : Fin 4} {x : Nat} (hf : zm_lk (zm_cd y) pc = some (.inl (.aload_n i), pc')) (hl : ls[(i : Nat)]? = some (.ref x)) (k : zp_wp X y pc' ls (.ref x :: st) h Q) : zp_wp X y pc ls st h Q := zp_st hf (by simp only [zm_st, zm_aload, hl]) k
theorem zp_sload {i : Nat} {x : Nat} (hf : zm_lk (zm_cd y) pc = some (.inl (.aload i), pc')) (hl : ls[(i : Nat)]? = some (.retAddr x)) (k : zp_wp X y pc' ls (.retAddr x :: st) h Q) : zp_wp X y pc ls st h Q := zp_st hf (by simp only [zm_st, zm_aload, hl]) k
theorem zp_sload_n {i : Fin 4} {x : Nat} (hf : zm_lk (zm_cd y) pc = some (.inl (.aload_n i), pc')) (hl : ls[(i : Nat)]? = some (.retAddr x)) (k : zp_wp X y pc' ls (.retAddr x :: st) h Q) : zp_wp X y pc ls st h Q := zp_st hf (by simp only [zm_st, zm_aload, hl]) k
theorem zp_iadd {x x2 v : Int32} (hf : zm_lk (zm_cd y) pc = some (.inl .iadd, pc')) (hv : x + x2 = v) (k : zp_wp X y pc' ls (.int v :: st) h Q) : zp_wp X y pc ls (.int x2 :: .int x :: st) h Q := zp_st hf (by rw [← hv]; rfl) k
theorem zp_isub {x x2 v : Int32} (hf : zm_lk (zm_cd y) pc = some (.inl .isub, pc')) (hv : x - x2 = v) (k : zp_wp X y pc' ls (.int v :: st) h Q) : zp_wp X y pc ls (.int x2 :: .int x :: st) h Q := zp_st hf (by rw [← hv]; rfl) k
theorem zp_imul {x x2 v : Int32} (hf : zm_lk (zm_cd y) pc = some (.inl .imul, pc')) (hv : x * x2 = v) (k : zp_wp X y pc' ls (.int v :: st) h Q) : zp_wp X y pc ls (.int x2 :: .int x :: st) h Q := zp_st hf (by rw [← hv]; rfl) k
theorem zp_iand {x x2 v : Int32} (hf : zm_lk (zm_cd y) pc = some (.inl .iand, pc')) (hv : x &&& x2 = v) (k : zp_wp X y pc' ls (.int v :: st) h Q) : zp_wp X y pc ls (.int x2 :: .int x :: st) h Q := zp_st hf (by rw [← hv]; rfl) k
theorem zp_ior {x x2 v : Int32} (hf : zm_lk (zm_cd y) pc = some (.inl .ior, pc')) (hv : x ||| x2 = v) (k : zp_wp X y pc' ls (.int v :: st) h Q) : zp_wp X y pc ls (.int x2 :: .int x :: st) h Q := zp_st hf (by rw [← hv]; rfl) k
theorem zp_ixor {x x2 v : Int32} (hf : zm_lk (zm_cd y) pc = some (.inl .ixor, pc')) (hv : x ^^^ x2 = v) (k : zp_wp X y pc' ls (.int v :: st) h Q) : zp_wp X y pc ls (.int x2 :: .int x :: st) h Q := zp_st hf (by rw [← hv]; rfl) k
theorem zp_ishl {x x2 v : Int32} (hf : zm_lk (zm_cd y) pc = some (.inl .ishl, pc')) (hv : x <<< (x2 &&& 31) = v) (k : zp_wp X y pc' ls (.int v :: st) h Q) : zp_wp X y pc ls (.int x2 :: .int x :: st) h Q := zp_st hf (by rw [← hv]; rfl) k
theorem zp_ishr {x x2 v : Int32} (hf : zm_lk (zm_cd y) pc = some (.inl .ishr, pc')) (hv : x >>> (x2 &&& 31) = v) (k : zp_wp X y pc' ls (.int v :: st) h Q) : zp_wp X y pc ls (.int x2 :: .int x :: st) h Q := zp_st hf (by rw [← hv]; rfl) k
theorem zp_iushr {x x2 v : Int32} (hf : zm_lk (zm_cd y) pc = some (.inl .iushr, pc')) (hv : (x.toUInt32 >>> (x2.toUInt32 &&& Int32.toUInt32 31)).toInt32 = v) (k : zp_wp X y pc' ls (.int v :: st) h Q) : zp_wp X y pc ls (.int x2 :: .int x :: st) h Q := zp_st hf (by rw [← hv]; rfl) k
theorem zp_iaddN {a b : Nat} (hf : zm_lk (zm_cd y) pc = some (.inl .iadd, pc')) (k : zp_wp X y pc' ls (.int (nI (a + b)) :: st) h Q) : zp_wp X y pc ls (.int (nI b) :: .int (nI a) :: st) h Q := zp_iadd hf (nI_add a b) k
theorem zp_imulN {a b : Nat} (hf : zm_lk (zm_cd y) pc = some (.inl .imul, pc')) (k : zp_wp X y pc' ls (.int (nI (a * b)) :: st) h Q) : zp_wp X y pc ls (.int (nI b) :: .int (nI a) :: st) h Q := zp_imul hf (pk_mul a b) k
theorem zp_isubN {a b : Nat} (hf : zm_lk (zm_cd y) pc = some (.inl .isub, pc')) (hb : b ≤ a) (k : zp_wp X y pc' ls (.int (nI (a - b)) :: st) h Q) : zp_wp X y pc ls (.int (nI b) :: .int (nI a) :: st) h Q := zp_isub hf (pk_sub hb) k
theorem zp_idiv {x x2 v : Int32} (hf : zm_lk (zm_cd y) pc = some (.inl .idiv, pc')) (hz : ¬ x2 = 0) (hv : x / x2 = v) (k : zp_wp X y pc' ls (.int v :: st) h Q) : zp_wp X y pc ls (.int x2 :: .int x :: st) h Q := zp_st hf (by rw [← hv]; simp only [zm_st, if_neg hz]) k
theorem zp_irem {x x2 v : Int32} (hf : zm_lk (zm_cd y) pc = some (.inl .irem, pc')) (hz : ¬ x2 = 0) (hv : x - x / x2 * x2 = v) (k : zp_wp X y pc' ls (.int v :: st) h Q) : zp_wp X y pc ls (.int x2 :: .int x :: st) h Q := zp_st hf (by rw [← hv]; simp only [zm_st, if_neg hz]) k
theorem zp_ladd {x x2 v : Int64} (hf : zm_lk (zm_cd y) pc = some (.inl .ladd, pc')) (hv : x + x2 = v) (k : zp_wp X y pc' ls (.long v :: st) h Q) : zp_wp X y pc ls (.long x2 :: .long x :: st) h Q := zp_st hf (by rw [← hv]; rfl) k
theorem zp_lsub {x x2 v : Int64} (hf : zm_lk (zm_cd y) pc = some (.inl .lsub, pc')) (hv : x - x2 = v) (k : zp_wp X y pc' ls (.long v :: st) h Q) : zp_wp X y pc ls (.long x2 :: .long x :: st) h Q := zp_st hf (by rw [← hv]; rfl) k
theorem zp_lmul {x x2 v : Int64} (hf : zm_lk (zm_cd y) pc = some (.inl .lmul, pc')) (hv : x * x2 = v) (k : zp_wp X y pc' ls (.long v :: st) h Q) : zp_wp X y pc ls (.long x2 :: .long x :: st) h Q := zp_st hf (by rw [← hv]; rfl) k
theorem zp_land {x x2 v : Int64} (hf : zm_lk (zm_cd y) pc = some (.inl .land, pc')) (hv : x &&& x2 = v) (k : zp_wp X y pc' ls (.long v :: st) h Q) : zp_wp X y pc ls (.long x2 :: .long x :: st) h Q := zp_st hf (by rw [← hv]; rfl) k
theorem zp_lor {x x2 v : Int64} (hf : zm_lk (zm_cd y) pc = some (.inl .lor, pc')) (hv : x ||| x2 = v) (k : zp_wp X y pc' ls (.long v :: st) h Q) : zp_wp X y pc ls (.long x2 :: .long x :: st) h Q := zp_st hf (by rw [← hv]; rfl) k
theorem zp_lxor {x x2 v : Int64} (hf : zm_lk (zm_cd y) pc = some (.inl .lxor, pc')) (hv : x ^^^ x2 = v) (k : zp_wp X y pc' ls (.long v :: st) h Q) : zp_wp X y pc ls (.long x2 :: .long x :: st) h Q := zp_st hf (by rw [← hv]; rfl) k
theorem zp_lshl {x v : Int64} {x2 : Int32} (hf : zm_lk (zm_cd y) pc = some (.inl .lshl, pc')) (hv : x <<< (x2.toInt64 &&& 63) = v) (k : zp_wp X y pc' ls (.long v :: st) h Q) : zp_wp X y pc ls (.int x2 :: .long x :: st) h Q := zp_st hf (by rw [← hv]; rfl) k
theorem zp_lshr {x v : Int64} {x2 : Int32} (hf : zm_lk (zm_cd y) pc = some (.inl .lshr, pc')) (hv : x >>> (x2.toInt64 &&& 63) = v) (k : zp_wp X y pc' ls (.long v :: st) h Q) : zp_wp X y pc ls (.int x2 :: .long x :: st) h Q := zp_st hf (by rw [← hv]; rfl) k
theorem zp_lushr {x v : Int64} {x2 : Int32} (hf : zm_lk (zm_cd y) pc = some (.inl .lushr, pc')) (hv : (x.toUInt64 >>> (x2.toInt64.toUInt64 &&& Int64.toUInt64 63)).toInt64 = v) (k : zp_wp X y pc' ls (.long v :: st) h Q) : zp_wp X y pc ls (.int x2 :: .long x :: st) h Q := zp_st hf (by rw [← hv]; rfl) k
theorem zp_i2l {x : Int32} {v : Int64} (hf : zm_lk (zm_cd y) pc = some (.inl .i2l, pc')) (hv : x.toInt64 = v) (k : zp_wp X y pc' ls (.long v :: st) h Q) : zp_wp X y pc ls (.int x :: st) h Q := zp_st hf (by rw [← hv]; rfl) k
theorem zp_l2i {x : Int64} {v : Int32} (hf : zm_lk (zm_cd y) pc = some (.inl .l2i, pc')) (hv : x.toInt32 = v) (k : zp_wp X y pc' ls (.int v :: st) h Q) : zp_wp X y pc ls (.long x :: st) h Q := zp_st hf (by rw [← hv]; rfl) k
theorem zp_lcmp {x x2 : Int64} {v : Int32} (hf : zm_lk (zm_cd y) pc = some (.inl .lcmp, pc')) (hv : lg_cmp x x2 = v) (k : zp_wp X y pc' ls (.int v :: st) h Q) : zp_wp X y pc ls (.long x2 :: .long x :: st) h Q := zp_st hf (by rw [← hv]; rfl) k
theorem zp_dup_i {x : Int32} (hf : zm_lk (zm_cd y) pc = some (.inl .dup, pc')) (k : zp_wp X y pc' ls (.int x :: .int x :: st) h Q) : zp_wp X y pc ls (.int x :: st) h Q := zp_st hf (rfl) k
theorem zp_pop_i {x : Int32} (hf : zm_lk (zm_cd y) pc = some (.inl .pop, pc')) (k : zp_wp X y pc' ls st h Q) : zp_wp X y pc ls (.int x :: st) h Q := zp_st hf (rfl) k
theorem zp_dup_a {x : Nat} (hf : zm_lk (zm_cd y) pc = some (.inl .dup, pc')) (k : zp_wp X y pc' ls (.ref x :: .ref x :: st) h Q) : zp_wp X y pc ls (.ref x :: st) h Q := zp_st hf (rfl) k
theorem zp_pop_a {x : Nat} (hf : zm_lk (zm_cd y) pc = some (.inl .pop, pc')) (k : zp_wp X y pc' ls st h Q) : zp_wp X y pc ls (.ref x :: st) h Q := zp_st hf (rfl) k
theorem zp_dup2_ia {x : Int32} {q : Nat} (hf : zm_lk (zm_cd y) pc = some (.inl .dup2, pc')) (k : zp_wp X y pc' ls (.int x :: .ref q :: .int x :: .ref q :: st) h Q) : zp_wp X y pc ls (.int x :: .ref q :: st) h Q := zp_st hf (rfl) k
theorem zp_istore_0 {old : Value} {t : List Value} {x : Int32} (hf : zm_lk (zm_cd y) pc = some (.inl (.istore 0), pc')) (hp : zm_pv (old :: t) 0 = true) (k : zp_wp X y pc' (.int x :: t) st h Q) : zp_wp X y pc (old :: t) (.int x :: st) h Q := zp_st (ls2 := .int x :: t) hf rfl k
theorem zp_istore_n_0 {old : Value} {t : List Value} {x : Int32} (hf : zm_lk (zm_cd y) pc = some (.inl (.istore_n 0), pc')) (hp : zm_pv (old :: t) 0 = true) (k : zp_wp X y pc' (.int x :: t) st h Q) : zp_wp X y pc (old :: t) (.int x :: st) h Q := zp_st (ls2 := .int x :: t) hf rfl k
theorem zp_astore_0 {old : Value} {t : List Value} {x : Nat} (hf : zm_lk (zm_cd y) pc = some (.inl (.astore 0), pc')) (hp : zm_pv (old :: t) 0 = true) (k : zp_wp X y pc' (.ref x :: t) st h Q) : zp_wp X y pc (old :: t) (.ref x :: st) h Q := zp_st (ls2 := .ref x :: t) hf rfl k
theorem zp_astore_n_0 {old : Value} {t : List Value} {x : Nat} (hf : zm_lk (zm_cd y) pc = some (.inl (.astore_n 0), pc')) (hp : zm_pv (old :: t) 0 = true) (k : zp_wp X y pc' (.ref x :: t) st h Q) : zp_wp X y pc (old :: t) (.ref x :: st) h Q := zp_st (ls2 := .ref x :: t) hf rfl k
theorem zp_iinc_0 {t : List Value} {x v : Int32} {m : Int} (hf : zm_lk (zm_cd y) pc = some (.inl (.iinc 0 m), pc')) (hv : x + Int32.ofInt m = v) (hp : zm_pv (.int x :: t) 0 = true) (k : zp_wp X y pc' (.int v :: t) st h Q) : zp_wp X y pc (.int x :: t) st h Q := zp_st (ls2 := .int v :: t) hf (by rw [← hv]; rfl) k
theorem zp_iincN_0 {t : List Value} {a : Nat} (hf : zm_lk (zm_cd y) pc = some (.inl (.iinc 0 1), pc')) (hp : zm_pv (.int (nI a) :: t) 0 = true) (k : zp_wp X y pc' (.int (nI (a + 1)) :: t) st h Q) : zp_wp X y pc (.int (nI a) :: t) st h Q := zp_iinc_0 hf (nI_1 a) hp k
theorem zp_lstore_0 {old old2 : Value} {t : List Value} {x : Int64} (hf : zm_lk (zm_cd y) pc = some (.inl (.lstore 0), pc')) (hp : zm_pv (old :: old2 :: t) 0 = true) (k : zp_wp X y pc' (.long x :: zm_mk :: t) st h Q) : zp_wp X y pc (old :: old2 :: t) (.long x :: st) h Q := zp_st (ls2 := .long x :: zm_mk :: t) hf rfl k
theorem zp_lstore_n_0 {old old2 : Value} {t : List Value} {x : Int64} (hf : zm_lk (zm_cd y) pc = some (.inl (.lstore_n 0), pc')) (hp : zm_pv (old :: old2 :: t) 0 = true) (k : zp_wp X y pc' (.long x :: zm_mk :: t) st h Q) : zp_wp X y pc (old :: old2 :: t) (.long x :: st) h Q := zp_st (ls2 := .long x :: zm_mk :: t) hf rfl k
theorem zp_istore_1 {l0 old : Value} {t : List Value} {x : Int32} (hf : zm_lk (zm_cd y) pc = some (.inl (.istore 1), pc')) (hp : zm_pv (l0 :: old :: t) 1 = true) (k : zp_wp X y pc' (l0 :: .int x :: t) st h Q) : zp_wp X y pc (l0 :: old :: t) (.int x :: st) h Q := zp_st (ls2 := l0 :: .int x :: t) hf (by show (zm_sto (l0 :: old :: t) 1 (.int x)).map _ = _; unfold zm_sto; rw [hp, Nat.blt_eq.mpr (by simp)]; rfl) k
theorem zp_istore_n_1 {l0 old : Value} {t : List Value} {x : Int32} (hf : zm_lk (zm_cd y) pc = some (.inl (.istore_n 1), pc')) (hp : zm_pv (l0 :: old :: t) 1 = true) (k : zp_wp X y pc' (l0 :: .int x :: t) st h Q) : zp_wp X y pc (l0 :: old :: t) (.int x :: st) h Q := zp_st (ls2 := l0 :: .int x :: t) hf (by show (zm_sto (l0 :: old :: t) 1 (.int x)).map _ = _; unfold zm_sto; rw [hp, Nat.blt_eq.mpr (by simp)]; rfl) k
theorem zp_astore_1 {l0 old : Value} {t : List Value} {x : Nat} (hf : zm_lk (zm_cd y) pc = some (.inl (.astore 1), pc')) (hp : zm_pv (l0 :: old :: t) 1 = true) (k : zp_wp X y pc' (l0 :: .ref x :: t) st h Q) : zp_wp X y pc (l0 :: old :: t) (.ref x :: st) h Q := zp_st (ls2 := l0 :: .ref x :: t) hf (by show (zm_sto (l0 :: old :: t) 1 (.ref x)).map _ = _; unfold zm_sto; rw [hp, Nat.blt_eq.mpr (by simp)]; rfl) k
theorem zp_astore_n_1 {l0 old : Value} {t : List Value} {x : Nat} (hf : zm_lk (zm_cd y) pc = some (.inl (.astore_n 1), pc')) (hp : zm_pv (l0 :: old :: t) 1 = true) (k : zp_wp X y pc' (l0 :: .ref x :: t) st h Q) : zp_wp X y pc (l0 :: old :: t) (.ref x :: st) h Q := zp_st (ls2 := l0 :: .ref x :: t) hf (by show (zm_sto (l0 :: old :: t) 1 (.ref x)).map _ = _; unfold zm_sto; rw [hp, Nat.blt_eq.mpr (by simp)]; rfl) k
theorem zp_iinc_1 {l0 : Value} {t : List Value} {x v : Int32} {m : Int} (hf : zm_lk (zm_cd y) pc = some (.inl (.iinc 1 m), pc')) (hv : x + Int32.ofInt m = v) (hp : zm_pv (l0 :: .int x :: t) 1 = true) (k : zp_wp X y pc' (l0 :: .int v :: t) st h Q) : zp_wp X y pc (l0 :: .int x :: t) st h Q := zp_st (ls2 := l0 :: .int v :: t) hf (by rw [← hv]; show (zm_sto (l0 :: .int x :: t) 1 (.int (x + Int32.ofInt m))).map _ = _; unfold zm_sto; rw [hp, Nat.blt_eq.mpr (by simp)]; rfl) k
theorem zp_iincN_1 {l0 : Value} {t : List Value} {a : Nat} (hf : zm_lk (zm_cd y) pc = some (.inl (.iinc 1 1), pc')) (hp : zm_pv (l0 :: .int (nI a) :: t) 1 = true) (k : zp_wp X y pc' (l0 :: .int (nI (a + 1)) :: t) st h Q) : zp_wp X y pc (l0 :: .int (nI a) :: t) st h Q := zp_iinc_1 hf (nI_1 a) hp k
theorem zp_lstore_1 {l0 old old2 : Value} {t : List Value} {x : Int64} (hf : zm_lk (zm_cd y) pc = some (.inl (.lstore 1), pc')) (hp : zm_pv (l0 :: old :: old2 :: t) 1 = true) (k : zp_wp X y pc' (l0 :: .long x :: zm_mk :: t) st h Q) : zp_wp X y pc (l0 :: old :: old2 :: t) (.long x :: st) h Q := zp_st (ls2 := l0 :: .long x :: zm_mk :: t) hf (by show (zm_sto2 (l0 :: old :: old2 :: t) 1 (.long x)).map _ = _; unfold zm_sto2; rw [hp, Nat.blt_eq.mpr (by simp)]; rfl) k
theorem zp_lstore_n_1 {l0 old old2 : Value} {t : List Value} {x : Int64} (hf : zm_lk (zm_cd y) pc = some (.inl (.lstore_n 1), pc')) (hp : zm_pv (l0 :: old :: old2 :: t) 1 = true) (k : zp_wp X y pc' (l0 :: .long x :: zm_mk :: t) st h Q) : zp_wp X y pc (l0 :: old :: old2 :: t) (.long x :: st) h Q := zp_st (ls2 := l0 :: .long x :: zm_mk :: t) hf (by show (zm_sto2 (l0 :: old :: old2 :: t) 1 (.long x)).map _ = _; unfold zm_sto2; rw [hp, Nat.blt_eq.mpr (by simp)]; rfl) k
theorem zp_istore_2 {l0 l1 old : Value} {t : List Value} {x : Int32} (hf : zm_lk (zm_cd y) pc = some (.inl (.istore 2), pc')) (hp : zm_pv (l0 :: l1 :: old :: t) 2 = true) (k : zp_wp X y pc' (l0 :: l1 :: .int x :: t) st h Q) : zp_wp X y pc (l0 :: l1 :: old :: t) (.int x :: st) h Q := zp_st (ls2 := l0 :: l1 :: .int x :: t) hf (by show (zm_sto (l0 :: l1 :: old :: t) 2 (.int x)).map _ = _; unfold zm_sto; rw [hp, Nat.blt_eq.mpr (by simp)]; rfl) k
theorem zp_istore_n_2 {l0 l1 old : Value} {t : List Value} {x : Int32} (hf : zm_lk (zm_cd y) pc = some (.inl (.istore_n 2), pc')) (hp : zm_pv (l0 :: l1 :: old :: t) 2 = true) (k : zp_wp X y pc' (l0 :: l1 :: .int x :: t) st h Q) : zp_wp X y pc (l0 :: l1 :: old :: t) (.int x :: st) h Q := zp_st (ls2 := l0 :: l1 :: .int x :: t) hf (by show (zm_sto (l0 :: l1 :: old :: t) 2 (.int x)).map _ = _; unfold zm_sto; rw [hp, Nat.blt_eq.mpr (by simp)]; rfl) k
theorem zp_astore_2 {l0 l1 old : Value} {t : List Value} {x : Nat} (hf : zm_lk (zm_cd y) pc = some (.inl (.astore 2), pc')) (hp : zm_pv (l0 :: l1 :: old :: t) 2 = true) (k : zp_wp X y pc' (l0 :: l1 :: .ref x :: t) st h Q) : zp_wp X y pc (l0 :: l1 :: old :: t) (.ref x :: st) h Q := zp_st (ls2 := l0 :: l1 :: .ref x :: t) hf (by show (zm_sto (l0 :: l1 :: old :: t) 2 (.ref x)).map _ = _; unfold zm_sto; rw [hp, Nat.blt_eq.mpr (by simp)]; rfl) k
theorem zp_astore_n_2 {l0 l1 old : Value} {t : List Value} {x : Nat} (hf : zm_lk (zm_cd y) pc = some (.inl (.astore_n 2), pc')) (hp : zm_pv (l0 :: l1 :: old :: t) 2 = true) (k : zp_wp X y pc' (l0 :: l1 :: .ref x :: t) st h Q) : zp_wp X y pc (l0 :: l1 :: old :: t) (.ref x :: st) h Q := zp_st (ls2 := l0 :: l1 :: .ref x :: t) hf (by show (zm_sto (l0 :: l1 :: old :: t) 2 (.ref x)).map _ = _; unfold zm_sto; rw [hp, Nat.blt_eq.mpr (by simp)]; rfl) k
theorem zp_iinc_2 {l0 l1 : Value} {t : List Value} {x v : Int32} {m : Int} (hf : zm_lk (zm_cd y) pc = some (.inl (.iinc 2 m), pc')) (hv : x + Int32.ofInt m = v) (hp : zm_pv (l0 :: l1 :: .int x :: t) 2 = true) (k : zp_wp X y pc' (l0 :: l1 :: .int v :: t) st h Q) : zp_wp X y pc (l0 :: l1 :: .int x :: t) st h Q := zp_st (ls2 := l0 :: l1 :: .int v :: t) hf (by rw [← hv]; show (zm_sto (l0 :: l1 :: .int x :: t) 2 (.int (x + Int32.ofInt m))).map _ = _; unfold zm_sto; rw [hp, Nat.blt_eq.mpr (by simp)]; rfl) k
theorem zp_iincN_2 {l0 l1 : Value} {t : List Value} {a : Nat} (hf : zm_lk (zm_cd y) pc = some (.inl (.iinc 2 1), pc')) (hp : zm_pv (l0 :: l1 :: .int (nI a) :: t) 2 = true) (k : zp_wp X y pc' (l0 :: l1 :: .int (nI (a + 1)) :: t) st h Q) : zp_wp X y pc (l0 :: l1 :: .int (nI a) :: t) st h Q := zp_iinc_2 hf (nI_1 a) hp k
theorem zp_lstore_2 {l0 l1 old old2 : Value} {t : List Value} {x : Int64} (hf : zm_lk (zm_cd y) pc = some (.inl (.lstore 2), pc')) (hp : zm_pv (l0 :: l1 :: old :: old2 :: t) 2 = true) (k : zp_wp X y pc' (l0 :: l1 :: .long x :: zm_mk :: t) st h Q) : zp_wp X y pc (l0 :: l1 :: old :: old2 :: t) (.long x :: st) h Q := zp_st (ls2 := l0 :: l1 :: .long x :: zm_mk :: t) hf (by show (zm_sto2 (l0 :: l1 :: old :: old2 :: t) 2 (.long x)).map _ = _; unfold zm_sto2; rw [hp, Nat.blt_eq.mpr (by simp)]; rfl) k
theorem zp_lstore_n_2 {l0 l1 old old2 : Value} {t : List Value} {x : Int64} (hf : zm_lk (zm_cd y) pc = some (.inl (.lstore_n 2), pc')) (hp : zm_pv (l0 :: l1 :: old :: old2 :: t) 2 = true) (k : zp_wp X y pc' (l0 :: l1 :: .long x :: zm_mk :: t) st h Q) : zp_wp X y pc (l0 :: l1 :: old :: old2 :: t) (.long x :: st) h Q := zp_st (ls2 := l0 :: l1 :: .long x :: zm_mk :: t) hf (by show (zm_sto2 (l0 :: l1 :: old :: old2 :: t) 2 (.long x)).map _ = _; unfold zm_sto2; rw [hp, Nat.blt_eq.mpr (by simp)]; rfl) k
theorem zp_istore_3 {l0 l1 l2 old : Value} {t : List Value} {x : Int32} (hf : zm_lk (zm_cd y) pc = some (.inl (.istore 3), pc')) (hp : zm_pv (l0 :: l1 :: l2 :: old :: t) 3 = true) (k : zp_wp X y pc' (l0 :: l1 :: l2 :: .int x :: t) st h Q) : zp_wp X y pc (l0 :: l1 :: l2 :: old :: t) (.int x :: st) h Q := zp_st (ls2 := l0 :: l1 :: l2 :: .int x :: t) hf (by show (zm_sto (l0 :: l1 :: l2 :: old :: t) 3 (.int x)).map _ = _; unfold zm_sto; rw [hp, Nat.blt_eq.mpr (by simp)]; rfl) k
theorem zp_istore_n_3 {l0 l1 l2 old : Value} {t : List Value} {x : Int32} (hf : zm_lk (zm_cd y) pc = some (.inl (.istore_n 3), pc')) (hp : zm_pv (l0 :: l1 :: l2 :: old :: t) 3 = true) (k : zp_wp X y pc' (l0 :: l1 :: l2 :: .int x :: t) st h Q) : zp_wp X y pc (l0 :: l1 :: l2 :: old :: t) (.int x :: st) h Q := zp_st (ls2 := l0 :: l1 :: l2 :: .int x :: t) hf (by show (zm_sto (l0 :: l1 :: l2 :: old :: t) 3 (.int x)).map _ = _; unfold zm_sto; rw [hp, Nat.blt_eq.mpr (by simp)]; rfl) k
theorem zp_astore_3 {l0 l1 l2 old : Value} {t : List Value} {x : Nat} (hf : zm_lk (zm_cd y) pc = some (.inl (.astore 3), pc')) (hp : zm_pv (l0 :: l1 :: l2 :: old :: t) 3 = true) (k : zp_wp X y pc' (l0 :: l1 :: l2 :: .ref x :: t) st h Q) : zp_wp X y pc (l0 :: l1 :: l2 :: old :: t) (.ref x :: st) h Q := zp_st (ls2 := l0 :: l1 :: l2 :: .ref x :: t) hf (by show (zm_sto (l0 :: l1 :: l2 :: old :: t) 3 (.ref x)).map _ = _; unfold zm_sto; rw [hp, Nat.blt_eq.mpr (by simp)]; rfl) k
theorem zp_astore_n_3 {l0 l1 l2 old : Value} {t : List Value} {x : Nat} (hf : zm_lk (zm_cd y) pc = some (.inl (.astore_n 3), pc')) (hp : zm_pv (l0 :: l1 :: l2 :: old :: t) 3 = true) (k : zp_wp X y pc' (l0 :: l1 :: l2 :: .ref x :: t) st h Q) : zp_wp X y pc (l0 :: l1 :: l2 :: old :: t) (.ref x :: st) h Q := zp_st (ls2 := l0 :: l1 :: l2 :: .ref x :: t) hf (by show (zm_sto (l0 :: l1 :: l2 :: old :: t) 3 (.ref x)).map _ = _; unfold zm_sto; rw [hp, Nat.blt_eq.mpr (by simp)]; rfl) k
theorem zp_iinc_3 {l0 l1 l2 : Value} {t : List Value} {x v : Int32} {m : Int} (hf : zm_lk (zm_cd y) pc = some (.inl (.iinc 3 m), pc')) (hv : x + Int32.ofInt m = v) (hp : zm_pv (l0 :: l1 :: l2 :: .int x :: t) 3 = true) (k : zp_wp X y pc' (l0 :: l1 :: l2 :: .int v :: t) st h Q) : zp_wp X y pc (l0 :: l1 :: l2 :: .int x :: t) st h Q := zp_st (ls2 := l0 :: l1 :: l2 :: .int v :: t) hf (by rw [← hv]; show (zm_sto (l0 :: l1 :: l2 :: .int x :: t) 3 (.int (x + Int32.ofInt m))).map _ = _; unfold zm_sto; rw [hp, Nat.blt_eq.mpr (by simp)]; rfl) k
theorem zp_iincN_3 {l0 l1 l2 : Value} {t : List Value} {a : Nat} (hf : zm_lk (zm_cd y) pc = some (.inl (.iinc 3 1), pc')) (hp : zm_pv (l0 :: l1 :: l2 :: .int (nI a) :: t) 3 = true) (k : zp_wp X y pc' (l0 :: l1 :: l2 :: .int (nI (a + 1)) :: t) st h Q) : zp_wp X y pc (l0 :: l1 :: l2 :: .int (nI a) :: t) st h Q := zp_iinc_3 hf (nI_1 a) hp k
theorem zp_lstore_3 {l0 l1 l2 old old2 : Value} {t : List Value} {x : Int64} (hf : zm_lk (zm_cd y) pc = some (.inl (.lstore 3), pc')) (hp : zm_pv (l0 :: l1 :: l2 :: old :: old2 :: t) 3 = true) (k : zp_wp X y pc' (l0 :: l1 :: l2 :: .long x :: zm_mk :: t) st h Q) : zp_wp X y pc (l0 :: l1 :: l2 :: old :: old2 :: t) (.long x :: st) h Q := zp_st (ls2 := l0 :: l1 :: l2 :: .long x :: zm_mk :: t) hf (by show (zm_sto2 (l0 :: l1 :: l2 :: old :: old2 :: t) 3 (.long x)).map _ = _; unfold zm_sto2; rw [hp, Nat.blt_eq.mpr (by simp)]; rfl) k
theorem zp_lstore_n_3 {l0 l1 l2 old old2 : Value} {t : List Value} {x : Int64} (hf : zm_lk (zm_cd y) pc = some (.inl (.lstore_n 3), pc')) (hp : zm_pv (l0 :: l1 :: l2 :: old :: old2 :: t) 3 = true) (k : zp_wp X y pc' (l0 :: l1 :: l2 :: .long x :: zm_mk :: t) st h Q) : zp_wp X y pc (l0 :: l1 :: l2 :: old :: old2 :: t) (.long x :: st) h Q := zp_st (ls2 := l0 :: l1 :: l2 :: .long x :: zm_mk :: t) hf (by show (zm_sto2 (l0 :: l1 :: l2 :: old :: old2 :: t) 3 (.long x)).map _ = _; unfold zm_sto2; rw [hp, Nat.blt_eq.mpr (by simp)]; rfl) k
theorem zp_istore_4 {l0 l1 l2 l3 old : Value} {t : List Value} {x : Int32} (hf : zm_lk (zm_cd y) pc = some (.inl (.istore 4), pc')) (hp : zm_pv (l0 :: l1 :: l2 :: l3 :: old :: t) 4 = true) (k : zp_wp X y pc' (l0 :: l1 :: l2 :: l3 :: .int x :: t) st h Q) : zp_wp X y pc (l0 :: l1 :: l2 :: l3 :: old :: t) (.int x :: st) h Q := zp_st (ls2 := l0 :: l1 :: l2 :: l3 :: .int x :: t) hf (by show (zm_sto (l0 :: l1 :: l2 :: l3 :: old :: t) 4 (.int x)).map _ = _; unfold zm_sto; rw [hp, Nat.blt_eq.mpr (by simp)]; rfl) k
theorem zp_astore_4 {l0 l1 l2 l3 old : Value} {t : List Value} {x : Nat} (hf : zm_lk (zm_cd y) pc = some (.inl (.astore 4), pc')) (hp : zm_pv (l0 :: l1 :: l2 :: l3 :: old :: t) 4 = true) (k : zp_wp X y pc' (l0 :: l1 :: l2 :: l3 :: .ref x :: t) st h Q) : zp_wp X y pc (l0 :: l1 :: l2 :: l3 :: old :: t) (.ref x :: st) h Q := zp_st (ls2 := l0 :: l1 :: l2 :: l3 :: .ref x :: t) hf (by show (zm_sto (l0 :: l1 :: l2 :: l3 :: old :: t) 4 (.ref x)).map _ = _; unfold zm_sto; rw [hp, Nat.blt_eq.mpr (by simp)]; rfl) k
theorem zp_iinc_4 {l0 l1 l2 l3 : Value} {t : List Value} {x v : Int32} {m : Int} (hf : zm_lk (zm_cd y) pc = some (.inl (.iinc 4 m), pc')) (hv : x + Int32.ofInt m = v) (hp : zm_pv (l0 :: l1 :: l2 :: l3 :: .int x :: t) 4 = true) (k : zp_wp X y pc' (l0 :: l1 :: l2 :: l3 :: .int v :: t) st h Q) : zp_wp X y pc (l0 :: l1 :: l2 :: l3 :: .int x :: t) st h Q := zp_st (ls2 := l0 :: l1 :: l2 :: l3 :: .int v :: t) hf (by rw [← hv]; show (zm_sto (l0 :: l1 :: l2 :: l3 :: .int x :: t) 4 (.int (x + Int32.ofInt m))).map _ = _; unfold zm_sto; rw [hp, Nat.blt_eq.mpr (by simp)]; rfl) k
theorem zp_iincN_4 {l0 l1 l2 l3 : Value} {t : List Value} {a : Nat} (hf : zm_lk (zm_cd y) pc = some (.inl (.iinc 4 1), pc')) (hp : zm_pv (l0 :: l1 :: l2 :: l3 :: .int (nI a) :: t) 4 = true) (k : zp_wp X y pc' (l0 :: l1 :: l2 :: l3 :: .int (nI (a + 1)) :: t) st h Q) : zp_wp X y pc (l0 :: l1 :: l2 :: l3 :: .int (nI a) :: t) st h Q := zp_iinc_4 hf (nI_1 a) hp k
theorem zp_lstore_4 {l0 l1 l2 l3 old old2 : Value} {t : List Value} {x : Int64} (hf : zm_lk (zm_cd y) pc = some (.inl (.lstore 4), pc')) (hp : zm_pv (l0 :: l1 :: l2 :: l3 :: old :: old2 :: t) 4 = true) (k : zp_wp X y pc' (l0 :: l1 :: l2 :: l3 :: .long x :: zm_mk :: t) st h Q) : zp_wp X y pc (l0 :: l1 :: l2 :: l3 :: old :: old2 :: t) (.long x :: st) h Q := zp_st (ls2 := l0 :: l1 :: l2 :: l3 :: .long x :: zm_mk :: t) hf (by show (zm_sto2 (l0 :: l1 :: l2 :: l3 :: old :: old2 :: t) 4 (.long x)).map _ = _; unfold zm_sto2; rw [hp, Nat.blt_eq.mpr (by simp)]; rfl) k
theorem zp_istore_5 {l0 l1 l2 l3 l4 old : Value} {t : List Value} {x : Int32} (hf : zm_lk (zm_cd y) pc = some (.inl (.istore 5), pc')) (hp : zm_pv (l0 :: l1 :: l2 :: l3 :: l4 :: old :: t) 5 = true) (k : zp_wp X y pc' (l0 :: l1 :: l2 :: l3 :: l4 :: .int x :: t) st h Q) : zp_wp X y pc (l0 :: l1 :: l2 :: l3 :: l4 :: old :: t) (.int x :: st) h Q := zp_st (ls2 := l0 :: l1 :: l2 :: l3 :: l4 :: .int x :: t) hf (by show (zm_sto (l0 :: l1 :: l2 :: l3 :: l4 :: old :: t) 5 (.int x)).map _ = _; unfold zm_sto; rw [hp, Nat.blt_eq.mpr (by simp)]; rfl) k
theorem zp_astore_5 {l0 l1 l2 l3 l4 old : Value} {t : List Value} {x : Nat} (hf : zm_lk (zm_cd y) pc = some (.inl (.astore 5), pc')) (hp : zm_pv (l0 :: l1 :: l2 :: l3 :: l4 :: old :: t) 5 = true) (k : zp_wp X y pc' (l0 :: l1 :: l2 :: l3 :: l4 :: .ref x :: t) st h Q) : zp_wp X y pc (l0 :: l1 :: l2 :: l3 :: l4 :: old :: t) (.ref x :: st) h Q := zp_st (ls2 := l0 :: l1 :: l2 :: l3 :: l4 :: .ref x :: t) hf (by show (zm_sto (l0 :: l1 :: l2 :: l3 :: l4 :: old :: t) 5 (.ref x)).map _ = _; unfold zm_sto; rw [hp, Nat.blt_eq.mpr (by simp)]; rfl) k
theorem zp_iinc_5 {l0 l1 l2 l3 l4 : Value} {t : List Value} {x v : Int32} {m : Int} (hf : zm_lk (zm_cd y) pc = some (.inl (.iinc 5 m), pc')) (hv : x + Int32.ofInt m = v) (hp : zm_pv (l0 :: l1 :: l2 :: l3 :: l4 :: .int x :: t) 5 = true) (k : zp_wp X y pc' (l0 :: l1 :: l2 :: l3 :: l4 :: .int v :: t) st h Q) : zp_wp X y pc (l0 :: l1 :: l2 :: l3 :: l4 :: .int x :: t) st h Q := zp_st (ls2 := l0 :: l1 :: l2 :: l3 :: l4 :: .int v :: t) hf (by rw [← hv]; show (zm_sto (l0 :: l1 :: l2 :: l3 :: l4 :: .int x :: t) 5 (.int (x + Int32.ofInt m))).map _ = _; unfold zm_sto; rw [hp, Nat.blt_eq.mpr (by simp)]; rfl) k
theorem zp_iincN_5 {l0 l1 l2 l3 l4 : Value} {t : List Value} {a : Nat} (hf : zm_lk (zm_cd y) pc = some (.inl (.iinc 5 1), pc')) (hp : zm_pv (l0 :: l1 :: l2 :: l3 :: l4 :: .int (nI a) :: t) 5 = true) (k : zp_wp X y pc' (l0 :: l1 :: l2 :: l3 :: l4 :: .int (nI (a + 1)) :: t) st h Q) : zp_wp X y pc (l0 :: l1 :: l2 :: l3 :: l4 :: .int (nI a) :: t) st h Q := zp_iinc_5 hf (nI_1 a) hp k
theorem zp_lstore_5 {l0 l1 l2 l3 l4 old old2 : Value} {t : List Value} {x : Int64} (hf : zm_lk (zm_cd y) pc = some (.inl (.lstore 5), pc')) (hp : zm_pv (l0 :: l1 :: l2 :: l3 :: l4 :: old :: old2 :: t) 5 = true) (k : zp_wp X y pc' (l0 :: l1 :: l2 :: l3 :: l4 :: .long x :: zm_mk :: t) st h Q) : zp_wp X y pc (l0 :: l1 :: l2 :: l3 :: l4 :: old :: old2 :: t) (.long x :: st) h Q := zp_st (ls2 := l0 :: l1 :: l2 :: l3 :: l4 :: .long x :: zm_mk :: t) hf (by show (zm_sto2 (l0 :: l1 :: l2 :: l3 :: l4 :: old :: old2 :: t) 5 (.long x)).map _ = _; unfold zm_sto2; rw [hp, Nat.blt_eq.mpr (by simp)]; rfl) k
theorem zp_istore_6 {l0 l1 l2 l3 l4 l5 old : Value} {t : List Value} {x : Int32} (hf : zm_lk (zm_cd y) pc = some (.inl (.istore 6), pc')) (hp : zm_pv (l0 :: l1 :: l2 :: l3 :: l4 :: l5 :: old :: t) 6 = true) (k : zp_wp X y pc' (l0 :: l1 :: l2 :: l3 :: l4 :: l5 :: .int x :: t) st h Q) : zp_wp X y pc (l0 :: l1 :: l2 :: l3 :: l4 :: l5 :: old :: t) (.int x :: st) h Q := zp_st (ls2 := l0 :: l1 :: l2 :: l3 :: l4 :: l5 :: .int x :: t) hf (by show (zm_sto (l0 :: l1 :: l2 :: l3 :: l4 :: l5 :: old :: t) 6 (.int x)).map _ = _; unfold zm_sto; rw [hp, Nat.blt_eq.mpr (by simp)]; rfl) k
theorem zp_astore_6 {l0 l1 l2 l3 l4 l5 old : Value} {t : List Value} {x : Nat} (hf : zm_lk (zm_cd y) pc = some (.inl (.astore 6), pc')) (hp : zm_pv (l0 :: l1 :: l2 :: l3 :: l4 :: l5 :: old :: t) 6 = true) (k : zp_wp X y pc' (l0 :: l1 :: l2 :: l3 :: l4 :: l5 :: .ref x :: t) st h Q) : zp_wp X y pc (l0 :: l1 :: l2 :: l3 :: l4 :: l5 :: old :: t) (.ref x :: st) h Q := zp_st (ls2 := l0 :: l1 :: l2 :: l3 :: l4 :: l5 :: .ref x :: t) hf (by show (zm_sto (l0 :: l1 :: l2 :: l3 :: l4 :: l5 :: old :: t) 6 (.ref x)).map _ = _; unfold zm_sto; rw [hp, Nat.blt_eq.mpr (by simp)]; rfl) k
theorem zp_iinc_6 {l0 l1 l2 l3 l4 l5 : Value} {t : List Value} {x v : Int32} {m : Int} (hf : zm_lk (zm_cd y) pc = some (.inl (.iinc 6 m), pc')) (hv : x + Int32.ofInt m = v) (hp : zm_pv (l0 :: l1 :: l2 :: l3 :: l4 :: l5 :: .int x :: t) 6 = true) (k : zp_wp X y pc' (l0 :: l1 :: l2 :: l3 :: l4 :: l5 :: .int v :: t) st h Q) : zp_wp X y pc (l0 :: l1 :: l2 :: l3 :: l4 :: l5 :: .int x :: t) st h Q := zp_st (ls2 := l0 :: l1 :: l2 :: l3 :: l4 :: l5 :: .int v :: t) hf (by rw [← hv]; show (zm_sto (l0 :: l1 :: l2 :: l3 :: l4 :: l5 :: .int x :: t) 6 (.int (x + Int32.ofInt m))).map _ = _; unfold zm_sto; rw [hp, Nat.blt_eq.mpr (by simp)]; rfl) k
theorem zp_iincN_6 {l0 l1 l2 l3 l4 l5 : Value} {t : List Value} {a : Nat} (hf : zm_lk (zm_cd y) pc = some (.inl (.iinc 6 1), pc')) (hp : zm_pv (l0 :: l1 :: l2 :: l3 :: l4 :: l5 :: .int (nI a) :: t) 6 = true) (k : zp_wp X y pc' (l0 :: l1 :: l2 :: l3 :: l4 :: l5 :: .int (nI (a + 1)) :: t) st h Q) : zp_wp X y pc (l0 :: l1 :: l2 :: l3 :: l4 :: l5 :: .int (nI a) :: t) st h Q := zp_iinc_6 hf (nI_1 a) hp k
theorem zp_lstore_6 {l0 l1 l2 l3 l4 l5 old old2 : Value} {t : List Value} {x : Int64} (hf : zm_lk (zm_cd y) pc = some (.inl (.lstore 6), pc')) (hp : zm_pv (l0 :: l1 :: l2 :: l3 :: l4 :: l5 :: old :: old2 :: t) 6 = true) (k : zp_wp X y pc' (l0 :: l1 :: l2 :: l3 :: l4 :: l5 :: .long x :: zm_mk :: t) st h Q) : zp_wp X y pc (l0 :: l1 :: l2 :: l3 :: l4 :: l5 :: old :: old2 :: t) (.long x :: st) h Q := zp_st (ls2 := l0 :: l1 :: l2 :: l3 :: l4 :: l5 :: .long x :: zm_mk :: t) hf (by show (zm_sto2 (l0 :: l1 :: l2 :: l3 :: l4 :: l5 :: old :: old2 :: t) 6 (.long x)).map _ = _; unfold zm_sto2; rw [hp, Nat.blt_eq.mpr (by simp)]; rfl) k
theorem zp_istore_7 {l0 l1 l2 l3 l4 l5 l6 old : Value} {t : List Value} {x : Int32} (hf : zm_lk (zm_cd y) pc = some (.inl (.istore 7), pc')) (hp : zm_pv (l0 :: l1 :: l2 :: l3 :: l4 :: l5 :: l6 :: old :: t) 7 = true) (k : zp_wp X y pc' (l0 :: l1 :: l2 :: l3 :: l4 :: l5 :: l6 :: .int x :: t) st h Q) : zp_wp X y pc (l0 :: l1 :: l2 :: l3 :: l4 :: l5 :: l6 :: old :: t) (.int x :: st) h Q := zp_st (ls2 := l0 :: l1 :: l2 :: l3 :: l4 :: l5 :: l6 :: .int x :: t) hf (by show (zm_sto (l0 :: l1 :: l2 :: l3 :: l4 :: l5 :: l6 :: old :: t) 7 (.int x)).map _ = _; unfold zm_sto; rw [hp, Nat.blt_eq.mpr (by simp)]; rfl) k
theorem zp_astore_7 {l0 l1 l2 l3 l4 l5 l6 old : Value} {t : List Value} {x : Nat} (hf : zm_lk (zm_cd y) pc = some (.inl (.astore 7), pc')) (hp : zm_pv (l0 :: l1 :: l2 :: l3 :: l4 :: l5 :: l6 :: old :: t) 7 = true) (k : zp_wp X y pc' (l0 :: l1 :: l2 :: l3 :: l4 :: l5 :: l6 :: .ref x :: t) st h Q) : zp_wp X y pc (l0 :: l1 :: l2 :: l3 :: l4 :: l5 :: l6 :: old :: t) (.ref x :: st) h Q := zp_st (ls2 := l0 :: l1 :: l2 :: l3 :: l4 :: l5 :: l6 :: .ref x :: t) hf (by show (zm_sto (l0 :: l1 :: l2 :: l3 :: l4 :: l5 :: l6 :: old :: t) 7 (.ref x)).map _ = _; unfold zm_sto; rw [hp, Nat.blt_eq.mpr (by simp)]; rfl) k
theorem zp_iinc_7 {l0 l1 l2 l3 l4 l5 l6 : Value} {t : List Value} {x v : Int32} {m : Int} (hf : zm_lk (zm_cd y) pc = some (.inl (.iinc 7 m), pc')) (hv : x + Int32.ofInt m = v) (hp : zm_pv (l0 :: l1 :: l2 :: l3 :: l4 :: l5 :: l6 :: .int x :: t) 7 = true) (k : zp_wp X y pc' (l0 :: l1 :: l2 :: l3 :: l4 :: l5 :: l6 :: .int v :: t) st h Q) : zp_wp X y pc (l0 :: l1 :: l2 :: l3 :: l4 :: l5 :: l6 :: .int x :: t) st h Q := zp_st (ls2 := l0 :: l1 :: l2 :: l3 :: l4 :: l5 :: l6 :: .int v :: t) hf (by rw [← hv]; show (zm_sto (l0 :: l1 :: l2 :: l3 :: l4 :: l5 :: l6 :: .int x :: t) 7 (.int (x + Int32.ofInt m))).map _ = _; unfold zm_sto; rw [hp, Nat.blt_eq.mpr (by simp)]; rfl) k
theorem zp_iincN_7 {l0 l1 l2 l3 l4 l5 l6 : Value} {t : List Value} {a : Nat} (hf : zm_lk (zm_cd y) pc = some (.inl (.iinc 7 1), pc')) (hp : zm_pv (l0 :: l1 :: l2 :: l3 :: l4 :: l5 :: l6 :: .int (nI a) :: t) 7 = true) (k : zp_wp X y pc' (l0 :: l1 :: l2 :: l3 :: l4 :: l5 :: l6 :: .int (nI (a + 1)) :: t) st h Q) : zp_wp X y pc (l0 :: l1 :: l2 :: l3 :: l4 :: l5 :: l6 :: .int (nI a) :: t) st h Q := zp_iinc_7 hf (nI_1 a) hp k
theorem zp_lstore_7 {l0 l1 l2 l3 l4 l5 l6 old old2 : Value} {t : List Value} {x : Int64} (hf : zm_lk (zm_cd y) pc = some (.inl (.lstore 7), pc')) (hp : zm_pv (l0 :: l1 :: l2 :: l3 :: l4 :: l5 :: l6 :: old :: old2 :: t) 7 = true) (k : zp_wp X y pc' (l0 :: l1 :: l2 :: l3 :: l4 :: l5 :: l6 :: .long x :: zm_mk :: t) st h Q) : zp_wp X y pc (l0 :: l1 :: l2 :: l3 :: l4 :: l5 :: l6 :: old :: old2 :: t) (.long x :: st) h Q := zp_st (ls2 := l0 :: l1 :: l2 :: l3 :: l4 :: l5 :: l6 :: .long x :: zm_mk :: t) hf (by show (zm_sto2 (l0 :: l1 :: l2 :: l3 :: l4 :: l5 :: l6 :: old :: old2 :: t) 7 (.long x)).map _ = _; unfold zm_sto2; rw [hp, Nat.blt_eq.mpr (by simp)]; rfl) k
theorem zp_istore_8 {l0 l1 l2 l3 l4 l5 l6 l7 old : Value} {t : List Value} {x : Int32} (hf : zm_lk (zm_cd y) pc = some (.inl (.istore 8), pc')) (hp : zm_pv (l0 :: l1 :: l2 :: l3 :: l4 :: l5 :: l6 :: l7 :: old :: t) 8 = true) (k : zp_wp X y pc' (l0 :: l1 :: l2 :: l3 :: l4 :: l5 :: l6 :: l7 :: .int x :: t) st h Q) : zp_wp X y pc (l0 :: l1 :: l2 :: l3 :: l4 :: l5 :: l6 :: l7 :: old :: t) (.int x :: st) h Q := zp_st (ls2 := l0 :: l1 :: l2 :: l3 :: l4 :: l5 :: l6 :: l7 :: .int x :: t) hf (by show (zm_sto (l0 :: l1 :: l2 :: l3 :: l4 :: l5 :: l6 :: l7 :: old :: t) 8 (.int x)).map _ = _; unfold zm_sto; rw [hp, Nat.blt_eq.mpr (by simp)]; rfl) k
theorem zp_astore_8 {l0 l1 l2 l3 l4 l5 l6 l7 old : Value} {t : List Value} {x : Nat} (hf : zm_lk (zm_cd y) pc = some (.inl (.astore 8), pc')) (hp : zm_pv (l0 :: l1 :: l2 :: l3 :: l4 :: l5 :: l6 :: l7 :: old :: t) 8 = true) (k : zp_wp X y pc' (l0 :: l1 :: l2 :: l3 :: l4 :: l5 :: l6 :: l7 :: .ref x :: t) st h Q) : zp_wp X y pc (l0 :: l1 :: l2 :: l3 :: l4 :: l5 :: l6 :: l7 :: old :: t) (.ref x :: st) h Q := zp_st (ls2 := l0 :: l1 :: l2 :: l3 :: l4 :: l5 :: l6 :: l7 :: .ref x :: t) hf (by show (zm_sto (l0 :: l1 :: l2 :: l3 :: l4 :: l5 :: l6 :: l7 :: old :: t) 8 (.ref x)).map _ = _; unfold zm_sto; rw [hp, Nat.blt_eq.mpr (by simp)]; rfl) k
theorem zp_iinc_8 {l0 l1 l2 l3 l4 l5 l6 l7 : Value} {t : List Value} {x v : Int32} {m : Int} (hf : zm_lk (zm_cd y) pc = some (.inl (.iinc 8 m), pc')) (hv : x + Int32.ofInt m = v) (hp : zm_pv (l0 :: l1 :: l2 :: l3 :: l4 :: l5 :: l6 :: l7 :: .int x :: t) 8 = true) (k : zp_wp X y pc' (l0 :: l1 :: l2 :: l3 :: l4 :: l5 :: l6 :: l7 :: .int v :: t) st h Q) : zp_wp X y pc (l0 :: l1 :: l2 :: l3 :: l4 :: l5 :: l6 :: l7 :: .int x :: t) st h Q := zp_st (ls2 := l0 :: l1 :: l2 :: l3 :: l4 :: l5 :: l6 :: l7 :: .int v :: t) hf (by rw [← hv]; show (zm_sto (l0 :: l1 :: l2 :: l3 :: l4 :: l5 :: l6 :: l7 :: .int x :: t) 8 (.int (x + Int32.ofInt m))).map _ = _; unfold zm_sto; rw [hp, Nat.blt_eq.mpr (by simp)]; rfl) k
theorem zp_iincN_8 {l0 l1 l2 l3 l4 l5 l6 l7 : Value} {t : List Value} {a : Nat} (hf : zm_lk (zm_cd y) pc = some (.inl (.iinc 8 1), pc')) (hp : zm_pv (l0 :: l1 :: l2 :: l3 :: l4 :: l5 :: l6 :: l7 :: .int (nI a) :: t) 8 = true) (k : zp_wp X y pc' (l0 :: l1 :: l2 :: l3 :: l4 :: l5 :: l6 :: l7 :: .int (nI (a + 1)) :: t) st h Q) : zp_wp X y pc (l0 :: l1 :: l2 :: l3 :: l4 :: l5 :: l6 :: l7 :: .int (nI a) :: t) st h Q := zp_iinc_8 hf (nI_1 a) hp k
theorem zp_lstore_8 {l0 l1 l2 l3 l4 l5 l6 l7 old old2 : Value} {t : List Value} {x : Int64} (hf : zm_lk (zm_cd y) pc = some (.inl (.lstore 8), pc')) (hp : zm_pv (l0 :: l1 :: l2 :: l3 :: l4 :: l5 :: l6 :: l7 :: old :: old2 :: t) 8 = true) (k : zp_wp X y pc' (l0 :: l1 :: l2 :: l3 :: l4 :: l5 :: l6 :: l7 :: .long x :: zm_mk :: t) st h Q) : zp_wp X y pc (l0 :: l1 :: l2 :: l3 :: l4 :: l5 :: l6 :: l7 :: old :: old2 :: t) (.long x :: st) h Q := zp_st (ls2 := l0 :: l1 :: l2 :: l3 :: l4 :: l5 :: l6 :: l7 :: .long x :: zm_mk :: t) hf (by show (zm_sto2 (l0 :: l1 :: l2 :: l3 :: l4 :: l5 :: l6 :: l7 :: old :: old2 :: t) 8 (.long x)).map _ = _; unfold zm_sto2; rw [hp, Nat.blt_eq.mpr (by simp)]; rfl) k
theorem zp_istore_9 {l0 l1 l2 l3 l4 l5 l6 l7 l8 old : Value} {t : List Value} {x : Int32} (hf : zm_lk (zm_cd y) pc = some (.inl (.istore 9), pc')) (hp : zm_pv (l0 :: l1 :: l2 :: l3 :: l4 :: l5 :: l6 :: l7 :: l8 :: old :: t) 9 = true) (k : zp_wp X y pc' (l0 :: l1 :: l2 :: l3 :: l4 :: l5 :: l6 :: l7 :: l8 :: .int x :: t) st h Q) : zp_wp X y pc (l0 :: l1 :: l2 :: l3 :: l4 :: l5 :: l6 :: l7 :: l8 :: old :: t) (.int x :: st) h Q := zp_st (ls2 := l0 :: l1 :: l2 :: l3 :: l4 :: l5 :: l6 :: l7 :: l8 :: .int x :: t) hf (by show (zm_sto (l0 :: l1 :: l2 :: l3 :: l4 :: l5 :: l6 :: l7 :: l8 :: old :: t) 9 (.int x)).map _ = _; unfold zm_sto; rw [hp, Nat.blt_eq.mpr (by simp)]; rfl) k
theorem zp_astore_9 {l0 l1 l2 l3 l4 l5 l6 l7 l8 old : Value} {t : List Value} {x : Nat} (hf : zm_lk (zm_cd y) pc = some (.inl (.astore 9), pc')) (hp : zm_pv (l0 :: l1 :: l2 :: l3 :: l4 :: l5 :: l6 :: l7 :: l8 :: old :: t) 9 = true) (k : zp_wp X y pc' (l0 :: l1 :: l2 :: l3 :: l4 :: l5 :: l6 :: l7 :: l8 :: .ref x :: t) st h Q) : zp_wp X y pc (l0 :: l1 :: l2 :: l3 :: l4 :: l5 :: l6 :: l7 :: l8 :: old :: t) (.ref x :: st) h Q := zp_st (ls2 := l0 :: l1 :: l2 :: l3 :: l4 :: l5 :: l6 :: l7 :: l8 :: .ref x :: t) hf (by show (zm_sto (l0 :: l1 :: l2 :: l3 :: l4 :: l5 :: l6 :: l7 :: l8 :: old :: t) 9 (.ref x)).map _ = _; unfold zm_sto; rw [hp, Nat.blt_eq.mpr (by simp)]; rfl) k
theorem zp_iinc_9 {l0 l1 l2 l3 l4 l5 l6 l7 l8 : Value} {t : List Value} {x v : Int32} {m : Int} (hf : zm_lk (zm_cd y) pc = some (.inl (.iinc 9 m), pc')) (hv : x + Int32.ofInt m = v) (hp : zm_pv (l0 :: l1 :: l2 :: l3 :: l4 :: l5 :: l6 :: l7 :: l8 :: .int x :: t) 9 = true) (k : zp_wp X y pc' (l0 :: l1 :: l2 :: l3 :: l4 :: l5 :: l6 :: l7 :: l8 :: .int v :: t) st h Q) : zp_wp X y pc (l0 :: l1 :: l2 :: l3 :: l4 :: l5 :: l6 :: l7 :: l8 :: .int x :: t) st h Q := zp_st (ls2 := l0 :: l1 :: l2 :: l3 :: l4 :: l5 :: l6 :: l7 :: l8 :: .int v :: t) hf (by rw [← hv]; show (zm_sto (l0 :: l1 :: l2 :: l3 :: l4 :: l5 :: l6 :: l7 :: l8 :: .int x :: t) 9 (.int (x + Int32.ofInt m))).map _ = _; unfold zm_sto; rw [hp, Nat.blt_eq.mpr (by simp)]; rfl) k
theorem zp_iincN_9 {l0 l1 l2 l3 l4 l5 l6 l7 l8 : Value} {t : List Value} {a : Nat} (hf : zm_lk (zm_cd y) pc = some (.inl (.iinc 9 1), pc')) (hp : zm_pv (l0 :: l1 :: l2 :: l3 :: l4 :: l5 :: l6 :: l7 :: l8 :: .int (nI a) :: t) 9 = true) (k : zp_wp X y pc' (l0 :: l1 :: l2 :: l3 :: l4 :: l5 :: l6 :: l7 :: l8 :: .int (nI (a + 1)) :: t) st h Q) : zp_wp X y pc (l0 :: l1 :: l2 :: l3 :: l4 :: l5 :: l6 :: l7 :: l8 :: .int (nI a) :: t) st h Q := zp_iinc_9 hf (nI_1 a) hp k
theorem zp_lstore_9 {l0 l1 l2 l3 l4 l5 l6 l7 l8 old old2 : Value} {t : List Value} {x : Int64} (hf : zm_lk (zm_cd y) pc = some (.inl (.lstore 9), pc')) (hp : zm_pv (l0 :: l1 :: l2 :: l3 :: l4 :: l5 :: l6 :: l7 :: l8 :: old :: old2 :: t) 9 = true) (k : zp_wp X y pc' (l0 :: l1 :: l2 :: l3 :: l4 :: l5 :: l6 :: l7 :: l8 :: .long x :: zm_mk :: t) st h Q) : zp_wp X y pc (l0 :: l1 :: l2 :: l3 :: l4 :: l5 :: l6 :: l7 :: l8 :: old :: old2 :: t) (.long x :: st) h Q := zp_st (ls2 := l0 :: l1 :: l2 :: l3 :: l4 :: l5 :: l6 :: l7 :: l8 :: .long x :: zm_mk :: t) hf (by show (zm_sto2 (l0 :: l1 :: l2 :: l3 :: l4 :: l5 :: l6 :: l7 :: l8 :: old :: old2 :: t) 9 (.long x)).map _ = _; unfold zm_sto2; rw [hp, Nat.blt_eq.mpr (by simp)]; rfl) k
theorem zp_istore_10 {l0 l1 l2 l3 l4 l5 l6 l7 l8 l9 old : Value} {t : List Value} {x : Int32} (hf : zm_lk (zm_cd y) pc = some (.inl (.istore 10), pc')) (hp : zm_pv (l0 :: l1 :: l2 :: l3 :: l4 :: l5 :: l6 :: l7 :: l8 :: l9 :: old :: t) 10 = true) (k : zp_wp X y pc' (l0 :: l1 :: l2 :: l3 :: l4 :: l5 :: l6 :: l7 :: l8 :: l9 :: .int x :: t) st h Q) : zp_wp X y pc (l0 :: l1 :: l2 :: l3 :: l4 :: l5 :: l6 :: l7 :: l8 :: l9 :: old :: t) (.int x :: st) h Q := zp_st (ls2 := l0 :: l1 :: l2 :: l3 :: l4 :: l5 :: l6 :: l7 :: l8 :: l9 :: .int x :: t) hf (by show (zm_sto (l0 :: l1 :: l2 :: l3 :: l4 :: l5 :: l6 :: l7 :: l8 :: l9 :: old :: t) 10 (.int x)).map _ = _; unfold zm_sto; rw [hp, Nat.blt_eq.mpr (by simp)]; rfl) k
theorem zp_astore_10 {l0 l1 l2 l3 l4 l5 l6 l7 l8 l9 old : Value} {t : List Value} {x : Nat} (hf : zm_lk (zm_cd y) pc = some (.inl (.astore 10), pc')) (hp : zm_pv (l0 :: l1 :: l2 :: l3 :: l4 :: l5 :: l6 :: l7 :: l8 :: l9 :: old :: t) 10 = true) (k : zp_wp X y pc' (l0 :: l1 :: l2 :: l3 :: l4 :: l5 :: l6 :: l7 :: l8 :: l9 :: .ref x :: t) st h Q) : zp_wp X y pc (l0 :: l1 :: l2 :: l3 :: l4 :: l5 :: l6 :: l7 :: l8 :: l9 :: old :: t) (.ref x :: st) h Q := zp_st (ls2 := l0 :: l1 :: l2 :: l3 :: l4 :: l5 :: l6 :: l7 :: l8 :: l9 :: .ref x :: t) hf (by show (zm_sto (l0 :: l1 :: l2 :: l3 :: l4 :: l5 :: l6 :: l7 :: l8 :: l9 :: old :: t) 10 (.ref x)).map _ = _; unfold zm_sto; rw [hp, Nat.blt_eq.mpr (by simp)]; rfl) k
theorem zp_iinc_10 {l0 l1 l2 l3 l4 l5 l6 l7 l8 l9 : Value} {t : List Value} {x v : Int32} {m : Int} (hf : zm_lk (zm_cd y) pc = some (.inl (.iinc 10 m), pc')) (hv : x + Int32.ofInt m = v) (hp : zm_pv (l0 :: l1 :: l2 :: l3 :: l4 :: l5 :: l6 :: l7 :: l8 :: l9 :: .int x :: t) 10 = true) (k : zp_wp X y pc' (l0 :: l1 :: l2 :: l3 :: l4 :: l5 :: l6 :: l7 :: l8 :: l9 :: .int v :: t) st h Q) : zp_wp X y pc (l0 :: l1 :: l2 :: l3 :: l4 :: l5 :: l6 :: l7 :: l8 :: l9 :: .int x :: t) st h Q := zp_st (ls2 := l0 :: l1 :: l2 :: l3 :: l4 :: l5 :: l6 :: l7 :: l8 :: l9 :: .int v :: t) hf (by rw [← hv]; show (zm_sto (l0 :: l1 :: l2 :: l3 :: l4 :: l5 :: l6 :: l7 :: l8 :: l9 :: .int x :: t) 10 (.int (x + Int32.ofInt m))).map _ = _; unfold zm_sto; rw [hp, Nat.blt_eq.mpr (by simp)]; rfl) k
theorem zp_iincN_10 {l0 l1 l2 l3 l4 l5 l6 l7 l8 l9 : Value} {t : List Value} {a : Nat} (hf : zm_lk (zm_cd y) pc = some (.inl (.iinc 10 1), pc')) (hp : zm_pv (l0 :: l1 :: l2 :: l3 :: l4 :: l5 :: l6 :: l7 :: l8 :: l9 :: .int (nI a) :: t) 10 = true) (k : zp_wp X y pc' (l0 :: l1 :: l2 :: l3 :: l4 :: l5 :: l6 :: l7 :: l8 :: l9 :: .int (nI (a + 1)) :: t) st h Q) : zp_wp X y pc (l0 :: l1 :: l2 :: l3 :: l4 :: l5 :: l6 :: l7 :: l8 :: l9 :: .int (nI a) :: t) st h Q := zp_iinc_10 hf (nI_1 a) hp k
theorem zp_lstore_10 {l0 l1 l2 l3 l4 l5 l6 l7 l8 l9 old old2 : Value} {t : List Value} {x : Int64} (hf : zm_lk (zm_cd y) pc = some (.inl (.lstore 10), pc')) (hp : zm_pv (l0 :: l1 :: l2 :: l3 :: l4 :: l5 :: l6 :: l7 :: l8 :: l9 :: old :: old2 :: t) 10 = true) (k : zp_wp X y pc' (l0 :: l1 :: l2 :: l3 :: l4 :: l5 :: l6 :: l7 :: l8 :: l9 :: .long x :: zm_mk :: t) st h Q) : zp_wp X y pc (l0 :: l1 :: l2 :: l3 :: l4 :: l5 :: l6 :: l7 :: l8 :: l9 :: old :: old2 :: t) (.long x :: st) h Q := zp_st (ls2 := l0 :: l1 :: l2 :: l3 :: l4 :: l5 :: l6 :: l7 :: l8 :: l9 :: .long x :: zm_mk :: t) hf (by show (zm_sto2 (l0 :: l1 :: l2 :: l3 :: l4 :: l5 :: l6 :: l7 :: l8 :: l9 :: old :: old2 :: t) 10 (.long x)).map _ = _; unfold zm_sto2; rw [hp, Nat.blt_eq.mpr (by simp)]; rfl) k
theorem zp_istore_11 {l0 l1 l2 l3 l4 l5 l6 l7 l8 l9 l10 old : Value} {t : List Value} {x : Int32} (hf : zm_lk (zm_cd y) pc = some (.inl (.istore 11), pc')) (hp : zm_pv (l0 :: l1 :: l2 :: l3 :: l4 :: l5 :: l6 :: l7 :: l8 :: l9 :: l10 :: old :: t) 11 = true) (k : zp_wp X y pc' (l0 :: l1 :: l2 :: l3 :: l4 :: l5 :: l6 :: l7 :: l8 :: l9 :: l10 :: .int x :: t) st h Q) : zp_wp X y pc (l0 :: l1 :: l2 :: l3 :: l4 :: l5 :: l6 :: l7 :: l8 :: l9 :: l10 :: old :: t) (.int x :: st) h Q := zp_st (ls2 := l0 :: l1 :: l2 :: l3 :: l4 :: l5 :: l6 :: l7 :: l8 :: l9 :: l10 :: .int x :: t) hf (by show (zm_sto (l0 :: l1 :: l2 :: l3 :: l4 :: l5 :: l6 :: l7 :: l8 :: l9 :: l10 :: old :: t) 11 (.int x)).map _ = _; unfold zm_sto; rw [hp, Nat.blt_eq.mpr (by simp)]; rfl) k
theorem zp_astore_11 {l0 l1 l2 l3 l4 l5 l6 l7 l8 l9 l10 old : Value} {t : List Value} {x : Nat} (hf : zm_lk (zm_cd y) pc = some (.inl (.astore 11), pc')) (hp : zm_pv (l0 :: l1 :: l2 :: l3 :: l4 :: l5 :: l6 :: l7 :: l8 :: l9 :: l10 :: old :: t) 11 = true) (k : zp_wp X y pc' (l0 :: l1 :: l2 :: l3 :: l4 :: l5 :: l6 :: l7 :: l8 :: l9 :: l10 :: .ref x :: t) st h Q) : zp_wp X y pc (l0 :: l1 :: l2 :: l3 :: l4 :: l5 :: l6 :: l7 :: l8 :: l9 :: l10 :: old :: t) (.ref x :: st) h Q := zp_st (ls2 := l0 :: l1 :: l2 :: l3 :: l4 :: l5 :: l6 :: l7 :: l8 :: l9 :: l10 :: .ref x :: t) hf (by show (zm_sto (l0 :: l1 :: l2 :: l3 :: l4 :: l5 :: l6 :: l7 :: l8 :: l9 :: l10 :: old :: t) 11 (.ref x)).map _ = _; unfold zm_sto; rw [hp, Nat.blt_eq.mpr (by simp)]; rfl) k
theorem zp_iinc_11 {l0 l1 l2 l3 l4 l5 l6 l7 l8 l9 l10 : Value} {t : List Value} {x v : Int32} {m : Int} (hf : zm_lk (zm_cd y) pc = some (.inl (.iinc 11 m), pc')) (hv : x + Int32.ofInt m = v) (hp : zm_pv (l0 :: l1 :: l2 :: l3 :: l4 :: l5 :: l6 :: l7 :: l8 :: l9 :: l10 :: .int x :: t) 11 = true) (k : zp_wp X y pc' (l0 :: l1 :: l2 :: l3 :: l4 :: l5 :: l6 :: l7 :: l8 :: l9 :: l10 :: .int v :: t) st h Q) : zp_wp X y pc (l0 :: l1 :: l2 :: l3 :: l4 :: l5 :: l6 :: l7 :: l8 :: l9 :: l10 :: .int x :: t) st h Q := zp_st (ls2 := l0 :: l1 :: l2 :: l3 :: l4 :: l5 :: l6 :: l7 :: l8 :: l9 :: l10 :: .int v :: t) hf (by rw [← hv]; show (zm_sto (l0 :: l1 :: l2 :: l3 :: l4 :: l5 :: l6 :: l7 :: l8 :: l9 :: l10 :: .int x :: t) 11 (.int (x + Int32.ofInt m))).map _ = _; unfold zm_sto; rw [hp, Nat.blt_eq.mpr (by simp)]; rfl) k
theorem zp_iincN_11 {l0 l1 l2 l3 l4 l5 l6 l7 l8 l9 l10 : Value} {t : List Value} {a : Nat} (hf : zm_lk (zm_cd y) pc = some (.inl (.iinc 11 1), pc')) (hp : zm_pv (l0 :: l1 :: l2 :: l3 :: l4 :: l5 :: l6 :: l7 :: l8 :: l9 :: l10 :: .int (nI a) :: t) 11 = true) (k : zp_wp X y pc' (l0 :: l1 :: l2 :: l3 :: l4 :: l5 :: l6 :: l7 :: l8 :: l9 :: l10 :: .int (nI (a + 1)) :: t) st h Q) : zp_wp X y pc (l0 :: l1 :: l2 :: l3 :: l4 :: l5 :: l6 :: l7 :: l8 :: l9 :: l10 :: .int (nI a) :: t) st h Q := zp_iinc_11 hf (nI_1 a) hp k
theorem zp_lstore_11 {l0 l1 l2 l3 l4 l5 l6 l7 l8 l9 l10 old old2 : Value} {t : List Value} {x : Int64} (hf : zm_lk (zm_cd y) pc = some (.inl (.lstore 11), pc')) (hp : zm_pv (l0 :: l1 :: l2 :: l3 :: l4 :: l5 :: l6 :: l7 :: l8 :: l9 :: l10 :: old :: old2 :: t) 11 = true) (k : zp_wp X y pc' (l0 :: l1 :: l2 :: l3 :: l4 :: l5 :: l6 :: l7 :: l8 :: l9 :: l10 :: .long x :: zm_mk :: t) st h Q) : zp_wp X y pc (l0 :: l1 :: l2 :: l3 :: l4 :: l5 :: l6 :: l7 :: l8 :: l9 :: l10 :: old :: old2 :: t) (.long x :: st) h Q := zp_st (ls2 := l0 :: l1 :: l2 :: l3 :: l4 :: l5 :: l6 :: l7 :: l8 :: l9 :: l10 :: .long x :: zm_mk :: t) hf (by show (zm_sto2 (l0 :: l1 :: l2 :: l3 :: l4 :: l5 :: l6 :: l7 :: l8 :: l9 :: l10 :: old :: old2 :: t) 11 (.long x)).map _ = _; unfold zm_sto2; rw [hp, Nat.blt_eq.mpr (by simp)]; rfl) k
theorem zp_brs {b : Bool} {off : Int} {tgt : Nat} {ls st : List Value} {h : zm_H} (ht : (pc : Int) + off = (tgt : Int)) : zm_br b pc pc' off ls st h = some (cond b tgt pc', ls, st, h) := by
  unfold zm_br
  rw [ht, if_pos (Int.natCast_nonneg tgt)]
  rfl
theorem zp_if_eq {x : Int32} {off : Int} {tgt : Nat} (hf : zm_lk (zm_cd y) pc = some (.inl (.ifCond .eq off), pc')) (ht : (pc : Int) + off = (tgt : Int)) (kt : x = 0 → zp_wp X y tgt ls st h Q) (kf : ¬ (x = 0) → zp_wp X y pc' ls st h Q) : zp_wp X y pc ls (.int x :: st) h Q := by
  by_cases hc : x = 0
  · exact zp_st hf (by show zm_br (decide (x = 0)) pc pc' off ls st h = _; rw [zp_brs ht, decide_eq_true hc]; rfl) (kt hc)
  · exact zp_st hf (by show zm_br (decide (x = 0)) pc pc' off ls st h = _; rw [zp_brs ht, decide_eq_false hc]; rfl) (kf hc)
theorem zp_icmp_eq {x x2 : Int32} {off : Int} {tgt : Nat} (hf : zm_lk (zm_cd y) pc = some (.inl (.if_icmp .eq off), pc')) (ht : (pc : Int) + off = (tgt : Int)) (kt : x = x2 → zp_wp X y tgt ls st h Q) (kf : ¬ (x = x2) → zp_wp X y pc' ls st h Q) : zp_wp X y pc ls (.int x2 :: .int x :: st) h Q := by
  by_cases hc : x = x2
  · exact zp_st hf (by show zm_br (decide (x = x2)) pc pc' off ls st h = _; rw [zp_brs ht, decide_eq_true hc]; rfl) (kt hc)
  · exact zp_st hf (by show zm_br (decide (x = x2)) pc pc' off ls st h = _; rw [zp_brs ht, decide_eq_false hc]; rfl) (kf hc)
theorem zp_if_ne {x : Int32} {off : Int} {tgt : Nat} (hf : zm_lk (zm_cd y) pc = some (.inl (.ifCond .ne off), pc')) (ht : (pc : Int) + off = (tgt : Int)) (kt : ¬ x = 0 → zp_wp X y tgt ls st h Q) (kf : ¬ (¬ x = 0) → zp_wp X y pc' ls st h Q) : zp_wp X y pc ls (.int x :: st) h Q := by
  by_cases hc : ¬ x = 0
  · exact zp_st hf (by show zm_br (decide (¬ x = 0)) pc pc' off ls st h = _; rw [zp_brs ht, decide_eq_true hc]; rfl) (kt hc)
  · exact zp_st hf (by show zm_br (decide (¬ x = 0)) pc pc' off ls st h = _; rw [zp_brs ht, decide_eq_false hc]; rfl) (kf hc)
theorem zp_icmp_ne {x x2 : Int32} {off : Int} {tgt : Nat} (hf : zm_lk (zm_cd y) pc = some (.inl (.if_icmp .ne off), pc')) (ht : (pc : Int) + off = (tgt : Int)) (kt : ¬ x = x2 → zp_wp X y tgt ls st h Q) (kf : ¬ (¬ x = x2) → zp_wp X y pc' ls st h Q) : zp_wp X y pc ls (.int x2 :: .int x :: st) h Q := by
  by_cases hc : ¬ x = x2
  · exact zp_st hf (by show zm_br (decide (¬ x = x2)) pc pc' off ls st h = _; rw [zp_brs ht, decide_eq_true hc]; rfl) (kt hc)
  · exact zp_st hf (by show zm_br (decide (¬ x = x2)) pc pc' off ls st h = _; rw [zp_brs ht, decide_eq_false hc]; rfl) (kf hc)
theorem zp_if_lt {x : Int32} {off : Int} {tgt : Nat} (hf : zm_lk (zm_cd y) pc = some (.inl (.ifCond .lt off), pc')) (ht : (pc : Int) + off = (tgt : Int)) (kt : x < 0 → zp_wp X y tgt ls st h Q) (kf : ¬ (x < 0) → zp_wp X y pc' ls st h Q) : zp_wp X y pc ls (.int x :: st) h Q := by
  by_cases hc : x < 0
  · exact zp_st hf (by show zm_br (decide (x < 0)) pc pc' off ls st h = _; rw [zp_brs ht, decide_eq_true hc]; rfl) (kt hc)
  · exact zp_st hf (by show zm_br (decide (x < 0)) pc pc' off ls st h = _; rw [zp_brs ht, decide_eq_false hc]; rfl) (kf hc)
theorem zp_icmp_lt {x x2 : Int32} {off : Int} {tgt : Nat} (hf : zm_lk (zm_cd y) pc = some (.inl (.if_icmp .lt off), pc')) (ht : (pc : Int) + off = (tgt : Int)) (kt : x < x2 → zp_wp X y tgt ls st h Q) (kf : ¬ (x < x2) → zp_wp X y pc' ls st h Q) : zp_wp X y pc ls (.int x2 :: .int x :: st) h Q := by
  by_cases hc : x < x2
  · exact zp_st hf (by show zm_br (decide (x < x2)) pc pc' off ls st h = _; rw [zp_brs ht, decide_eq_true hc]; rfl) (kt hc)
  · exact zp_st hf (by show zm_br (decide (x < x2)) pc pc' off ls st h = _; rw [zp_brs ht, decide_eq_false hc]; rfl) (kf hc)
theorem zp_if_ge {x : Int32} {off : Int} {tgt : Nat} (hf : zm_lk (zm_cd y) pc = some (.inl (.ifCond .ge off), pc')) (ht : (pc : Int) + off = (tgt : Int)) (kt : 0 ≤ x → zp_wp X y tgt ls st h Q) (kf : ¬ (0 ≤ x) → zp_wp X y pc' ls st h Q) : zp_wp X y pc ls (.int x :: st) h Q := by
  by_cases hc : 0 ≤ x
  · exact zp_st hf (by show zm_br (decide (0 ≤ x)) pc pc' off ls st h = _; rw [zp_brs ht, decide_eq_true hc]; rfl) (kt hc)
  · exact zp_st hf (by show zm_br (decide (0 ≤ x)) pc pc' off ls st h = _; rw [zp_brs ht, decide_eq_false hc]; rfl) (kf hc)
theorem zp_icmp_ge {x x2 : Int32} {off : Int} {tgt : Nat} (hf : zm_lk (zm_cd y) pc = some (.inl (.if_icmp .ge off), pc')) (ht : (pc : Int) + off = (tgt : Int)) (kt : x2 ≤ x → zp_wp X y tgt ls st h Q) (kf : ¬ (x2 ≤ x) → zp_wp X y pc' ls st h Q) : zp_wp X y pc ls (.int x2 :: .int x :: st) h Q := by
  by_cases hc : x2 ≤ x
  · exact zp_st hf (by show zm_br (decide (x2 ≤ x)) pc pc' off ls st h = _; rw [zp_brs ht, decide_eq_true hc]; rfl) (kt hc)
  · exact zp_st hf (by show zm_br (decide (x2 ≤ x)) pc pc' off ls st h = _; rw [zp_brs ht, decide_eq_false hc]; rfl) (kf hc)
theorem zp_if_gt {x : Int32} {off : Int} {tgt : Nat} (hf : zm_lk (zm_cd y) pc = some (.inl (.ifCond .gt off), pc')) (ht : (pc : Int) + off = (tgt : Int)) (kt : 0 < x → zp_wp X y tgt ls st h Q) (kf : ¬ (0 < x) → zp_wp X y pc' ls st h Q) : zp_wp X y pc ls (.int x :: st) h Q := by
  by_cases hc : 0 < x
  · exact zp_st hf (by show zm_br (decide (0 < x)) pc pc' off ls st h = _; rw [zp_brs ht, decide_eq_true hc]; rfl) (kt hc)
  · exact zp_st hf (by show zm_br (decide (0 < x)) pc pc' off ls st h = _; rw [zp_brs ht, decide_eq_false hc]; rfl) (kf hc)
theorem zp_icmp_gt {x x2 : Int32} {off : Int} {tgt : Nat} (hf : zm_lk (zm_cd y) pc = some (.inl (.if_icmp .gt off), pc')) (ht : (pc : Int) + off = (tgt : Int)) (kt : x2 < x → zp_wp X y tgt ls st h Q) (kf : ¬ (x2 < x) → zp_wp X y pc' ls st h Q) : zp_wp X y pc ls (.int x2 :: .int x :: st) h Q := by
  by_cases hc : x2 < x
  · exact zp_st hf (by show zm_br (decide (x2 < x)) pc pc' off ls st h = _; rw [zp_brs ht, decide_eq_true hc]; rfl) (kt hc)
  · exact zp_st hf (by show zm_br (decide (x2 < x)) pc pc' off ls st h = _; rw [zp_brs ht, decide_eq_false hc]; rfl) (kf hc)
theorem zp_if_le {x : Int32} {off : Int} {tgt : Nat} (hf : zm_lk (zm_cd y) pc = some (.inl (.ifCond .le off), pc')) (ht : (pc : Int) + off = (tgt : Int)) (kt : x ≤ 0 → zp_wp X y tgt ls st h Q) (kf : ¬ (x ≤ 0) → zp_wp X y pc' ls st h Q) : zp_wp X y pc ls (.int x :: st) h Q := by
  by_cases hc : x ≤ 0
  · exact zp_st hf (by show zm_br (decide (x ≤ 0)) pc pc' off ls st h = _; rw [zp_brs ht, decide_eq_true hc]; rfl) (kt hc)
  · exact zp_st hf (by show zm_br (decide (x ≤ 0)) pc pc' off ls st h = _; rw [zp_brs ht, decide_eq_false hc]; rfl) (kf hc)
theorem zp_icmp_le {x x2 : Int32} {off : Int} {tgt : Nat} (hf : zm_lk (zm_cd y) pc = some (.inl (.if_icmp .le off), pc')) (ht : (pc : Int) + off = (tgt : Int)) (kt : x ≤ x2 → zp_wp X y tgt ls st h Q) (kf : ¬ (x ≤ x2) → zp_wp X y pc' ls st h Q) : zp_wp X y pc ls (.int x2 :: .int x :: st) h Q := by
  by_cases hc : x ≤ x2
  · exact zp_st hf (by show zm_br (decide (x ≤ x2)) pc pc' off ls st h = _; rw [zp_brs ht, decide_eq_true hc]; rfl) (kt hc)
  · exact zp_st hf (by show zm_br (decide (x ≤ x2)) pc pc' off ls st h = _; rw [zp_brs ht, decide_eq_false hc]; rfl) (kf hc)
theorem zp_icmpN_eq {a b : Nat} {off : Int} {tgt : Nat} (hf : zm_lk (zm_cd y) pc = some (.inl (.if_icmp .eq off), pc')) (ht : (pc : Int) + off = (tgt : Int)) (ha : a < 2 ^ 31) (hb : b < 2 ^ 31) (kt : a = b → zp_wp X y tgt ls st h Q) (kf : ¬ a = b → zp_wp X y pc' ls st h Q) : zp_wp X y pc ls (.int (nI b) :: .int (nI a) :: st) h Q := by
  have e1 := nI_eq ha hb
  have e2 := nI_ltI ha hb
  have e3 := nI_leI ha hb
  have e4 := nI_ltI hb ha
  have e5 := nI_leI hb ha
  refine zp_icmp_eq hf ht (fun hc => kt ?_) (fun hc => kf ?_) <;> simp only [e1, e2, e3, e4, e5] at hc <;> omega
theorem zp_icmpN_ne {a b : Nat} {off : Int} {tgt : Nat} (hf : zm_lk (zm_cd y) pc = some (.inl (.if_icmp .ne off), pc')) (ht : (pc : Int) + off = (tgt : Int)) (ha : a < 2 ^ 31) (hb : b < 2 ^ 31) (kt : ¬ a = b → zp_wp X y tgt ls st h Q) (kf : a = b → zp_wp X y pc' ls st h Q) : zp_wp X y pc ls (.int (nI b) :: .int (nI a) :: st) h Q := by
  have e1 := nI_eq ha hb
  have e2 := nI_ltI ha hb
  have e3 := nI_leI ha hb
  have e4 := nI_ltI hb ha
  have e5 := nI_leI hb ha
  refine zp_icmp_ne hf ht (fun hc => kt ?_) (fun hc => kf ?_) <;> simp only [e1, e2, e3, e4, e5] at hc <;> omega
theorem zp_icmpN_lt {a b : Nat} {off : Int} {tgt : Nat} (hf : zm_lk (zm_cd y) pc = some (.inl (.if_icmp .lt off), pc')) (ht : (pc : Int) + off = (tgt : Int)) (ha : a < 2 ^ 31) (hb : b < 2 ^ 31) (kt : a < b → zp_wp X y tgt ls st h Q) (kf : b ≤ a → zp_wp X y pc' ls st h Q) : zp_wp X y pc ls (.int (nI b) :: .int (nI a) :: st) h Q := by
  have e1 := nI_eq ha hb
  have e2 := nI_ltI ha hb
  have e3 := nI_leI ha hb
  have e4 := nI_ltI hb ha
  have e5 := nI_leI hb ha
  refine zp_icmp_lt hf ht (fun hc => kt ?_) (fun hc => kf ?_) <;> simp only [e1, e2, e3, e4, e5] at hc <;> omega
theorem zp_icmpN_ge {a b : Nat} {off : Int} {tgt : Nat} (hf : zm_lk (zm_cd y) pc = some (.inl (.if_icmp .ge off), pc')) (ht : (pc : Int) + off = (tgt : Int)) (ha : a < 2 ^ 31) (hb : b < 2 ^ 31) (kt : b ≤ a → zp_wp X y tgt ls st h Q) (kf : a < b → zp_wp X y pc' ls st h Q) : zp_wp X y pc ls (.int (nI b) :: .int (nI a) :: st) h Q := by
  have e1 := nI_eq ha hb
  have e2 := nI_ltI ha hb
  have e3 := nI_leI ha hb
  have e4 := nI_ltI hb ha
  have e5 := nI_leI hb ha
  refine zp_icmp_ge hf ht (fun hc => kt ?_) (fun hc => kf ?_) <;> simp only [e1, e2, e3, e4, e5] at hc <;> omega
theorem zp_icmpN_gt {a b : Nat} {off : Int} {tgt : Nat} (hf : zm_lk (zm_cd y) pc = some (.inl (.if_icmp .gt off), pc')) (ht : (pc : Int) + off = (tgt : Int)) (ha : a < 2 ^ 31) (hb : b < 2 ^ 31) (kt : b < a → zp_wp X y tgt ls st h Q) (kf : a ≤ b → zp_wp X y pc' ls st h Q) : zp_wp X y pc ls (.int (nI b) :: .int (nI a) :: st) h Q := by
  have e1 := nI_eq ha hb
  have e2 := nI_ltI ha hb
  have e3 := nI_leI ha hb
  have e4 := nI_ltI hb ha
  have e5 := nI_leI hb ha
  refine zp_icmp_gt hf ht (fun hc => kt ?_) (fun hc => kf ?_) <;> simp only [e1, e2, e3, e4, e5] at hc <;> omega
theorem zp_icmpN_le {a b : Nat} {off : Int} {tgt : Nat} (hf : zm_lk (zm_cd y) pc = some (.inl (.if_icmp .le off), pc')) (ht : (pc : Int) + off = (tgt : Int)) (ha : a < 2 ^ 31) (hb : b < 2 ^ 31) (kt : a ≤ b → zp_wp X y tgt ls st h Q) (kf : b < a → zp_wp X y pc' ls st h Q) : zp_wp X y pc ls (.int (nI b) :: .int (nI a) :: st) h Q := by
  have e1 := nI_eq ha hb
  have e2 := nI_ltI ha hb
  have e3 := nI_leI ha hb
  have e4 := nI_ltI hb ha
  have e5 := nI_leI hb ha
  refine zp_icmp_le hf ht (fun hc => kt ?_) (fun hc => kf ?_) <;> simp only [e1, e2, e3, e4, e5] at hc <;> omega
theorem zp_goto {off : Int} {tgt : Nat} (hf : zm_lk (zm_cd y) pc = some (.inl (.goto off), pc')) (ht : (pc : Int) + off = (tgt : Int)) (k : zp_wp X y tgt ls st h Q) : zp_wp X y pc ls st h Q := zp_st hf (by show zm_jmp pc off ls st h = _; unfold zm_jmp; rw [ht, if_pos (Int.natCast_nonneg tgt)]; rfl) k
theorem zp_switch {d lo hi off : Int} {offs : Array Int} {tgt : Nat} {x : Int32} (hf : zm_lk (zm_cd y) pc = some (.inl (.tableswitch d lo hi offs), pc')) (h1 : ¬ x.toInt < lo) (h2 : ¬ hi < x.toInt) (ho : offs[(x.toInt - lo).toNat]? = some off) (ht : (pc : Int) + off = (tgt : Int)) (k : zp_wp X y tgt ls st h Q) : zp_wp X y pc ls (.int x :: st) h Q :=
  zp_st hf (by simp only [zm_st]; rw [if_neg (fun q => q.elim h1 h2)]; simp only [ho]; unfold zm_jmp; rw [ht, if_pos (Int.natCast_nonneg tgt)]; rfl) k
theorem zp_switchD {d lo hi : Int} {offs : Array Int} {tgt : Nat} {x : Int32} (hf : zm_lk (zm_cd y) pc = some (.inl (.tableswitch d lo hi offs), pc')) (h1 : x.toInt < lo ∨ hi < x.toInt) (ht : (pc : Int) + d = (tgt : Int)) (k : zp_wp X y tgt ls st h Q) : zp_wp X y pc ls (.int x :: st) h Q :=
  zp_st hf (by simp only [zm_st]; rw [if_pos h1]; unfold zm_jmp; rw [ht, if_pos (Int.natCast_nonneg tgt)]; rfl) k
/-! memory; an index is a number -/
theorem zp_nix {j n : Nat} (hj : j < n) (hn : n ≤ 2 ^ 30) : ¬ (nI j < 0 ∨ n ≤ (nI j).toNatClampNeg) ∧ (nI j).toNatClampNeg = j := by
  have h1 : (nI j).toNatClampNeg = j := nI_clamp (by omega)
  refine ⟨fun q => ?_, h1⟩
  rcases q with q | q
  · exact nI_pos (by omega) q
  · rw [h1] at q; omega
theorem zp_iald {a n j : Nat} {f : Nat → Int32} (hf : zm_lk (zm_cd y) pc = some (.inl .iaload, pc')) (ha : zm_iarr h a = some (n, f)) (hj : j < n) (hn : n ≤ 2 ^ 30) (k : zp_wp X y pc' ls (.int (f j) :: st) h Q) : zp_wp X y pc ls (.int (nI j) :: .ref a :: st) h Q := by
  obtain ⟨h1, h2⟩ := zp_nix hj hn
  exact zp_st hf (by simp only [zm_st, ha]; rw [if_neg h1, h2]) k
theorem zp_sald {j : Nat} {q : Nat} (hf : zm_lk (zm_cd y) pc = some (.inl .iaload, pc')) (hj : j < X.1) (hn : X.1 ≤ 2 ^ 30) (k : zp_wp X y pc' ls (.int (X.2 j) :: st) h Q) : zp_wp X y pc ls (.int (nI j) :: .retAddr q :: st) h Q := by
  obtain ⟨h1, h2⟩ := zp_nix hj hn
  exact zp_st hf (by simp only [zm_st]; rw [if_neg h1, h2]) k
theorem zp_lald {a n j : Nat} {f : Nat → Int64} (hf : zm_lk (zm_cd y) pc = some (.inl .laload, pc')) (ha : zm_larr h a = some (n, f)) (hj : j < n) (hn : n ≤ 2 ^ 30) (k : zp_wp X y pc' ls (.long (f j) :: st) h Q) : zp_wp X y pc ls (.int (nI j) :: .ref a :: st) h Q := by
  obtain ⟨h1, h2⟩ := zp_nix hj hn
  exact zp_st hf (by simp only [zm_st, ha]; rw [if_neg h1, h2]) k
theorem zp_qald {a n j q : Nat} {f : Nat → Option Nat} (hf : zm_lk (zm_cd y) pc = some (.inl .aaload, pc')) (ha : zm_qarr h a = some (n, f)) (hj : j < n) (hn : n ≤ 2 ^ 30) (hq : f j = some q) (k : zp_wp X y pc' ls (.ref q :: st) h Q) : zp_wp X y pc ls (.int (nI j) :: .ref a :: st) h Q := by
  obtain ⟨h1, h2⟩ := zp_nix hj hn
  exact zp_st hf (by simp only [zm_st, ha]; rw [if_neg h1, h2, hq]) k
theorem zp_iast {a n j : Nat} {x : Int32} {f : Nat → Int32} (hf : zm_lk (zm_cd y) pc = some (.inl .iastore, pc')) (ha : zm_iarr h a = some (n, f)) (hj : j < n) (hn : n ≤ 2 ^ 30) (k : zp_wp X y pc' ls st (zm_put h a (.inl (0, n, .inl (upd f j x)))) Q) : zp_wp X y pc ls (.int x :: .int (nI j) :: .ref a :: st) h Q := by
  obtain ⟨h1, h2⟩ := zp_nix hj hn
  exact zp_st hf (by simp only [zm_st, ha]; rw [if_neg h1, h2]) k
theorem zp_last {a n j : Nat} {x : Int64} {f : Nat → Int64} (hf : zm_lk (zm_cd y) pc = some (.inl .lastore, pc')) (ha : zm_larr h a = some (n, f)) (hj : j < n) (hn : n ≤ 2 ^ 30) (k : zp_wp X y pc' ls st (zm_put h a (.inl (1, n, .inr (.inl (vp_updL f j x))))) Q) : zp_wp X y pc ls (.long x :: .int (nI j) :: .ref a :: st) h Q := by
  obtain ⟨h1, h2⟩ := zp_nix hj hn
  exact zp_st hf (by simp only [zm_st, ha]; rw [if_neg h1, h2]) k
theorem zp_qast {a n j v : Nat} {fs : List Value} {f : Nat → Option Nat} (hf : zm_lk (zm_cd y) pc = some (.inl .aastore, pc')) (ha : zm_qarr h a = some (n, f)) (hv : zm_obj h v = some (0, fs)) (hj : j < n) (hn : n ≤ 2 ^ 30) (k : zp_wp X y pc' ls st (zm_put h a (.inl (2, n, .inr (.inr (.inr (.inr (va_up f j (some v)))))))) Q) : zp_wp X y pc ls (.ref v :: .int (nI j) :: .ref a :: st) h Q := by
  obtain ⟨h1, h2⟩ := zp_nix hj hn
  exact zp_st hf (by simp only [zm_st, ha, hv]; rw [if_neg h1, h2]) k
theorem zp_alen {a n : Nat} {f : Nat → Int32} (hf : zm_lk (zm_cd y) pc = some (.inl .arraylength, pc')) (ha : zm_iarr h a = some (n, f)) (k : zp_wp X y pc' ls (.int (nI n) :: st) h Q) : zp_wp X y pc ls (.ref a :: st) h Q := zp_st hf (by simp only [zm_st, ha]; rfl) k
theorem zp_slen {q : Nat} (hf : zm_lk (zm_cd y) pc = some (.inl .arraylength, pc')) (k : zp_wp X y pc' ls (.int (nI X.1) :: st) h Q) : zp_wp X y pc ls (.retAddr q :: st) h Q := zp_st hf rfl k
theorem zp_newi {n : Nat} (hf : zm_lk (zm_cd y) pc = some (.inl (.newarray .int), pc')) (hn : n < 10000) (hx : h.2.2.2 = 0) (k : zp_wp X y pc' ls (.ref h.2.1 :: st) (zm_new h (.inl (0, n, .inl (fun _ => 0))) n) Q) : zp_wp X y pc ls (.int (nI n) :: st) h Q := by
  have h1 : (nI n).toNatClampNeg = n := nI_clamp (by omega)
  exact zp_st hf (by simp only [zm_st]; rw [if_neg (fun q => by rcases q with q | q | q; exact nI_pos (by omega) q; (rw [h1] at q; omega); exact q hx), h1]) k
theorem zp_newl {n : Nat} (hf : zm_lk (zm_cd y) pc = some (.inl (.newarray .long), pc')) (hn : n < 10000) (hx : h.2.2.2 = 0) (k : zp_wp X y pc' ls (.ref h.2.1 :: st) (zm_new h (.inl (1, n, .inr (.inl (fun _ => 0)))) n) Q) : zp_wp X y pc ls (.int (nI n) :: st) h Q := by
  have h1 : (nI n).toNatClampNeg = n := nI_clamp (by omega)
  exact zp_st hf (by simp only [zm_st]; rw [if_neg (fun q => by rcases q with q | q | q; exact nI_pos (by omega) q; (rw [h1] at q; omega); exact q hx), h1]) k
theorem zp_newq {n idx a j : Nat} (hf : zm_lk (zm_cd y) pc = some (.inr (10, idx, a, j), pc')) (hn : n < 10000) (hx : h.2.2.2 = 0) (k : zp_wp X y pc' ls (.ref h.2.1 :: st) (zm_new h (.inl (2, n, .inr (.inr (.inr (.inr (fun _ => none)))))) n) Q) : zp_wp X y pc ls (.int (nI n) :: st) h Q := by
  have h1 : (nI n).toNatClampNeg = n := nI_clamp (by omega)
  exact zp_rs hf (by simp only [zm_rs]; rw [if_neg (fun q => by rcases q with q | q | q; exact nI_pos (by omega) q; (rw [h1] at q; omega); exact q hx), h1]) k
theorem zp_get {idx c j q : Nat} {fs : List Value} {v : Value} (hf : zm_lk (zm_cd y) pc = some (.inr (0, idx, c, j), pc')) (ho : zm_obj h q = some (c, fs)) (hv : fs[j]? = some v) (k : zp_wp X y pc' ls (v :: st) h Q) : zp_wp X y pc ls (.ref q :: st) h Q :=
  zp_rs hf (by simp only [zm_rs, ho, Nat.beq_refl, cond_true, hv]) k
theorem zp_put {idx c j q : Nat} {fs : List Value} {v : Value} (hf : zm_lk (zm_cd y) pc = some (.inr (1, idx, c, j), pc')) (ho : zm_obj h q = some (c, fs)) (hv : (Nat.blt j fs.length && zm_fit (zm_ty c j) v) = true) (k : zp_wp X y pc' ls st (zm_put h q (.inr (c, fs.set j v))) Q) : zp_wp X y pc ls (v :: .ref q :: st) h Q :=
  zp_rs hf (by simp only [zm_rs, ho, Nat.beq_refl, Bool.true_and, hv, cond_true]) k
theorem zp_putF {idx c j q : Nat} {fs : List Value} {v : Value} (hf : zm_lk (zm_cd y) pc = some (.inr (2, idx, c, j), pc')) (ho : zm_obj h q = some (c, fs)) (hv : (Nat.blt j fs.length && zm_fit (zm_ty c j) v) = true) (k : zp_wp X y pc' ls st (zm_put h q (.inr (c, fs.set j v))) Q) : zp_wp X y pc ls (v :: .ref q :: st) h Q :=
  zp_rs hf (by simp only [zm_rs, ho, Nat.beq_refl, Bool.true_and, hv, cond_true]) k
theorem zp_objI {idx a j q : Nat} (hf : zm_lk (zm_cd y) pc = some (.inr (8, idx, a, j), pc')) (hw : Nat.ble (zm_wd st) 8 = true) (k : zp_wp X y pc' ls st h Q) : zp_wp X y pc ls (.ref q :: st) h Q := zp_rs hf (by simp only [zm_rs, hw, cond_true]) k
theorem zp_new {idx a j : Nat} {fs : List Value} {n : Nat} (hf : zm_lk (zm_cd y) pc = some (.inr (9, idx, a, j), pc')) (hx : h.2.2.2 = 0) (hn : zm_N a = n) (hfs : (List.range (zm_N a)).map (fun j => zm_dv (zm_ty a j)) = fs) (k : zp_wp X y pc' ls (.ref h.2.1 :: st) (zm_new h (.inr (a, fs)) n) Q) : zp_wp X y pc ls st h Q :=
  zp_rs hf (by rw [← hn, ← hfs]; simp only [zm_rs, hx]; rfl) k
theorem zp_cpyi {idx a j q0 q1 n0 n1 n sp dp : Nat} {f g : Nat → Int32} (hf : zm_lk (zm_cd y) pc = some (.inr (11, idx, a, j), pc')) (h0 : zm_iarr h q0 = some (n0, f)) (h1 : zm_iarr h q1 = some (n1, g)) (hn : n < 10000 ∧ sp < 10000 ∧ dp < 10000) (hw : zm_wd st ≤ 8) (h2 : sp + n ≤ n0 ∧ dp + n ≤ n1) (k : zp_wp X y pc' ls st (zm_put h q1 (.inl (0, n1, .inl (va_cpy f g sp dp n)))) Q) : zp_wp X y pc ls (.int (nI n) :: .int (nI dp) :: .ref q1 :: .int (nI sp) :: .ref q0 :: st) h Q := by
  have e1 : (nI n).toNatClampNeg = n := nI_clamp (by omega)
  have e2 : (nI sp).toNatClampNeg = sp := nI_clamp (by omega)
  have e3 : (nI dp).toNatClampNeg = dp := nI_clamp (by omega)
  refine zp_rs hf ?_ k
  simp only [zm_rs, h0, h1, e1, e2, e3]
  rw [if_neg (fun q => by rcases q with q | q | q | q; exact nI_pos (by omega) q; exact nI_pos (by omega) q; exact nI_pos (by omega) q; omega), if_pos h2]
theorem zp_cpyl {idx a j q0 q1 n0 n1 n sp dp : Nat} {f g : Nat → Int64} (hf : zm_lk (zm_cd y) pc = some (.inr (11, idx, a, j), pc')) (h0 : zm_larr h q0 = some (n0, f)) (h1 : zm_larr h q1 = some (n1, g)) (h00 : zm_iarr h q0 = none) (hn : n < 10000 ∧ sp < 10000 ∧ dp < 10000) (hw : zm_wd st ≤ 8) (h2 : sp + n ≤ n0 ∧ dp + n ≤ n1) (k : zp_wp X y pc' ls st (zm_put h q1 (.inl (1, n1, .inr (.inl (va_cpy f g sp dp n))))) Q) : zp_wp X y pc ls (.int (nI n) :: .int (nI dp) :: .ref q1 :: .int (nI sp) :: .ref q0 :: st) h Q := by
  have e1 : (nI n).toNatClampNeg = n := nI_clamp (by omega)
  have e2 : (nI sp).toNatClampNeg = sp := nI_clamp (by omega)
  have e3 : (nI dp).toNatClampNeg = dp := nI_clamp (by omega)
  refine zp_rs hf ?_ k
  simp only [zm_rs, h0, h1, h00, e1, e2, e3]
  rw [if_neg (fun q => by rcases q with q | q | q | q; exact nI_pos (by omega) q; exact nI_pos (by omega) q; exact nI_pos (by omega) q; omega), if_pos h2]
theorem zp_max {idx j : Nat} {x x2 : Int32} (hf : zm_lk (zm_cd y) pc = some (.inr (16, idx, 0, j), pc')) (hw : Nat.ble (zm_wd st) 8 = true) (k : zp_wp X y pc' ls (.int (if x < x2 then x2 else x) :: st) h Q) : zp_wp X y pc ls (.int x2 :: .int x :: st) h Q := zp_rs hf (by simp only [zm_rs, hw, cond_true]; rfl) k
theorem zp_min {idx j : Nat} {x x2 : Int32} (hf : zm_lk (zm_cd y) pc = some (.inr (16, idx, 1, j), pc')) (hw : Nat.ble (zm_wd st) 8 = true) (k : zp_wp X y pc' ls (.int (if x2 < x then x2 else x) :: st) h Q) : zp_wp X y pc ls (.int x2 :: .int x :: st) h Q := zp_rs hf (by simp only [zm_rs, hw, cond_true]; rfl) k
theorem zp_ldcw {idx a j : Nat} (hf : zm_lk (zm_cd y) pc = some (.inr (13, idx, a, j), pc')) (k : zp_wp X y pc' ls (.int (nI a) :: st) h Q) : zp_wp X y pc ls st h Q := zp_rs hf rfl k
theorem zp_ldc2 {idx a j : Nat} (hf : zm_lk (zm_cd y) pc = some (.inr (14, idx, a, j), pc')) (k : zp_wp X y pc' ls (.long (lN a) :: st) h Q) : zp_wp X y pc ls st h Q := zp_rs hf rfl k
/-! ends -/
theorem zp_iret {v : Int32} (hf : zm_lk (zm_cd y) pc = some (.inl .ireturn, pc')) (hr : zm_rt y = some .int) (hq : Q (.inl (some (.int v))) h) : zp_wp X y pc ls [.int v] h Q := zp_ret hf (by simp only [zm_ret, hr]) hq
theorem zp_zret {v : Int32} (hf : zm_lk (zm_cd y) pc = some (.inl .ireturn, pc')) (hr : zm_rt y = some .boolean) (hv : v = 0 ∨ v = 1) (hq : Q (.inl (some (.int v))) h) : zp_wp X y pc ls [.int v] h Q := zp_ret hf (by simp only [zm_ret, hr, if_pos hv]) hq
theorem zp_lret {v : Int64} (hf : zm_lk (zm_cd y) pc = some (.inl .lreturn, pc')) (hr : zm_rt y = some .long) (hq : Q (.inl (some (.long v))) h) : zp_wp X y pc ls [.long v] h Q := zp_ret hf (by simp only [zm_ret, hr]) hq
theorem zp_aret {v : Nat} {n : String} (hf : zm_lk (zm_cd y) pc = some (.inl .areturn, pc')) (hr : zm_rt y = some (.object n)) (hq : Q (.inl (some (.ref v))) h) : zp_wp X y pc ls [.ref v] h Q := zp_ret hf (by simp only [zm_ret, hr]) hq
theorem zp_vret (hf : zm_lk (zm_cd y) pc = some (.inl .return_, pc')) (hr : zm_rt y = none) (hq : Q (.inl none) h) : zp_wp X y pc ls [] h Q := zp_ret hf (by simp only [zm_ret, hr]) hq
end ZP
end
section
/-! pure words for loops -/
/-- the first place from c on, of k places, with p -/
def zf_fst (p : Nat → Bool) : Nat → Nat → Option Nat
  | _, 0 => none
  | c, k + 1 => cond (p c) (some c) (zf_fst p (c + 1) k)
def zf_o : Option Nat → Int32
  | none => -1
  | some i => nI i
theorem zf_fst_some {p : Nat → Bool} : ∀ {k c i : Nat}, zf_fst p c k = some i → c ≤ i ∧ i < c + k ∧ p i = true ∧ ∀ j, c ≤ j → j < i → p j = false
  | 0, _, _, h => by cases h
  | k + 1, c, i, h => by
    unfold zf_fst at h
    cases hc : p c with
    | true =>
      rw [hc] at h
      cases h
      exact ⟨Nat.le_refl _, by omega, hc, fun j h1 h2 => by omega⟩
    | false =>
      rw [hc] at h
      obtain ⟨h1, h2, h3, h4⟩ := zf_fst_some (p := p) h
      refine ⟨by omega, by omega, h3, fun j g1 g2 => ?_⟩
      by_cases hj : j = c
      · rw [hj]; exact hc
      · exact h4 j (by omega) g2
theorem zf_fst_none {p : Nat → Bool} : ∀ {k c : Nat}, zf_fst p c k = none → ∀ j, c ≤ j → j < c + k → p j = false
  | 0, _, _ => fun j h1 h2 => by omega
  | k + 1, c, h => by
    unfold zf_fst at h
    cases hc : p c with
    | true => rw [hc] at h; cases h
    | false =>
      rw [hc] at h
      intro j h1 h2
      by_cases hj : j = c
      · rw [hj]; exact hc
      · exact zf_fst_none (p := p) h j (by omega) (by omega)
theorem zf_fst_cong {p q : Nat → Bool} : ∀ {k c : Nat}, (∀ j, c ≤ j → j < c + k → p j = q j) → zf_fst p c k = zf_fst q c k
  | 0, _, _ => rfl
  | k + 1, c, h => by
    unfold zf_fst
    rw [h c (Nat.le_refl _) (by omega), zf_fst_cong (fun j h1 h2 => h j (by omega) (by omega))]
theorem zf_fst_t {p : Nat → Bool} {c k : Nat} (h : p c = true) : zf_fst p c (k + 1) = some c := by simp [zf_fst, h]
theorem zf_fst_f {p : Nat → Bool} {c k : Nat} (h : p c = false) : zf_fst p c (k + 1) = zf_fst p (c + 1) k := by simp [zf_fst, h]
end
section
/-! the heap behind the constructors: what each cell is, for ever (190 cells) -/
def zs_n : Nat := 190
def zs_tab (a : Nat) : Nat × Nat × List (Option Nat) := cond (Nat.blt a 95) (cond (Nat.blt a 47) (cond (Nat.blt a 23) (cond (Nat.blt a 11) (cond (Nat.blt a 5) (cond (Nat.blt a 2) (cond (Nat.blt a 1) ((3, 6, [some 1, some 8, some 15, some 22, some 29, some 61, some 62, some 150, some 155, some 170, none])) ((3, 4, [some 2, some 3, some 4, some 5, some 6, some 7]))) (cond (Nat.blt a 3) ((0, 12, [])) (cond (Nat.blt a 4) ((0, 12, [])) ((0, 12, []))))) (cond (Nat.blt a 8) (cond (Nat.blt a 6) ((0, 40, [])) (cond (Nat.blt a 7) ((0, 40, [])) ((1, 40, [])))) (cond (Nat.blt a 9) ((3, 4, [some 9, some 10, some 11, some 12, some 13, some 14])) (cond (Nat.blt a 10) ((0, 12, [])) ((0, 12, [])))))) (cond (Nat.blt a 17) (cond (Nat.blt a 14) (cond (Nat.blt a 12) ((0, 12, [])) (cond (Nat.blt a 13) ((0, 40, [])) ((0, 40, [])))) (cond (Nat.blt a 15) ((1, 40, [])) (cond (Nat.blt a 16) ((3, 4, [some 16, some 17, some 18, some 19, some 20, some 21])) ((0, 12, []))))) (cond (Nat.blt a 20) (cond (Nat.blt a 18) ((0, 12, [])) (cond (Nat.blt a 19) ((0, 12, [])) ((0, 40, [])))) (cond (Nat.blt a 21) ((0, 40, [])) (cond (Nat.blt a 22) ((1, 40, [])) ((3, 4, [some 23, some 24, some 25, some 26, some 27, some 28]))))))) (cond (Nat.blt a 35) (cond (Nat.blt a 29) (cond (Nat.blt a 26) (cond (Nat.blt a 24) ((0, 12, [])) (cond (Nat.blt a 25) ((0, 12, [])) ((0, 12, [])))) (cond (Nat.blt a 27) ((0, 40, [])) (cond (Nat.blt a 28) ((0, 40, [])) ((1, 40, []))))) (cond (Nat.blt a 32) (cond (Nat.blt a 30) ((3, 1, [some 30, none])) (cond (Nat.blt a 31) ((2, 30, [some 31, some 32, some 33, some 34, some 35, some 36, some 37, some 38, some 39, some 40, some 41, some 42, some 43, some 44, some 45, some 46, some 47, some 48, some 49, some 50, some 51, some 52, some 53, some 54, some 55, some 56, some 57, some 58, some 59, some 60])) ((3, 0, [none, none, none, none, none])))) (cond (Nat.blt a 33) ((3, 0, [none, none, none, none, none])) (cond (Nat.blt a 34) ((3, 0, [none, none, none, none, none])) ((3, 0, [none, none, none, none, none])))))) (cond (Nat.blt a 41) (cond (Nat.blt a 38) (cond (Nat.blt a 36) ((3, 0, [none, none, none, none, none])) (cond (Nat.blt a 37) ((3, 0, [none, none, none, none, none])) ((3, 0, [none, none, none, none, none])))) (cond (Nat.blt a 39) ((3, 0, [none, none, none, none, none])) (cond (Nat.blt a 40) ((3, 0, [none, none, none, none, none])) ((3, 0, [none, none, none, none, none]))))) (cond (Nat.blt a 44) (cond (Nat.blt a 42) ((3, 0, [none, none, none, none, none])) (cond (Nat.blt a 43) ((3, 0, [none, none, none, none, none])) ((3, 0, [none, none, none, none, none])))) (cond (Nat.blt a 45) ((3, 0, [none, none, none, none, none])) (cond (Nat.blt a 46) ((3, 0, [none, none, none, none, none])) ((3, 0, [none, none, none, none, none])))))))) (cond (Nat.blt a 71) (cond (Nat.blt a 59) (cond (Nat.blt a 53) (cond (Nat.blt a 50) (cond (Nat.blt a 48) ((3, 0, [none, none, none, none, none])) (cond (Nat.blt a 49) ((3, 0, [none, none, none, none, none])) ((3, 0, [none, none, none, none, none])))) (cond (Nat.blt a 51) ((3, 0, [none, none, none, none, none])) (cond (Nat.blt a 52) ((3, 0, [none, none, none, none, none])) ((3, 0, [none, none, none, none, none]))))) (cond (Nat.blt a 56) (cond (Nat.blt a 54) ((3, 0, [none, none, none, none, none])) (cond (Nat.blt a 55) ((3, 0, [none, none, none, none, none])) ((3, 0, [none, none, none, none, none])))) (cond (Nat.blt a 57) ((3, 0, [none, none, none, none, none])) (cond (Nat.blt a 58) ((3, 0, [none, none, none, none, none])) ((3, 0, [none, none, none, none, none])))))) (cond (Nat.blt a 65) (cond (Nat.blt a 62) (cond (Nat.blt a 60) ((3, 0, [none, none, none, none, none])) (cond (Nat.blt a 61) ((3, 0, [none, none, none, none, none])) ((3, 0, [none, none, none, none, none])))) (cond (Nat.blt a 63) ((3, 2, [some 63, some 70, some 77, some 84, some 85, some 86, some 118])) (cond (Nat.blt a 64) ((3, 4, [some 64, some 65, some 66, some 67, some 68, some 69])) ((0, 12, []))))) (cond (Nat.blt a 68) (cond (Nat.blt a 66) ((0, 12, [])) (cond (Nat.blt a 67) ((0, 12, [])) ((0, 40, [])))) (cond (Nat.blt a 69) ((0, 40, [])) (cond (Nat.blt a 70) ((1, 40, [])) ((3, 4, [some 71, some 72, some 73, some 74, some 75, some 76]))))))) (cond (Nat.blt a 83) (cond (Nat.blt a 77) (cond (Nat.blt a 74) (cond (Nat.blt a 72) ((0, 12, [])) (cond (Nat.blt a 73) ((0, 12, [])) ((0, 12, [])))) (cond (Nat.blt a 75) ((0, 40, [])) (cond (Nat.blt a 76) ((0, 40, [])) ((1, 40, []))))) (cond (Nat.blt a 80) (cond (Nat.blt a 78) ((3, 4, [some 78, some 79, some 80, some 81, some 82, some 83])) (cond (Nat.blt a 79) ((0, 12, [])) ((0, 12, [])))) (cond (Nat.blt a 81) ((0, 12, [])) (cond (Nat.blt a 82) ((0, 40, [])) ((0, 40, [])))))) (cond (Nat.blt a 89) (cond (Nat.blt a 86) (cond (Nat.blt a 84) ((1, 40, [])) (cond (Nat.blt a 85) ((3, 0, [none, none, none, none, none])) ((3, 0, [none, none, none, none, none])))) (cond (Nat.blt a 87) ((3, 1, [some 87, none])) (cond (Nat.blt a 88) ((2, 30, [some 88, some 89, some 90, some 91, some 92, some 93, some 94, some 95, some 96, some 97, some 98, some 99, some 100, some 101, some 102, some 103, some 104, some 105, some 106, some 107, some 108, some 109, some 110, some 111, some 112, some 113, some 114, some 115, some 116, some 117])) ((3, 0, [none, none, none, none, none]))))) (cond (Nat.blt a 92) (cond (Nat.blt a 90) ((3, 0, [none, none, none, none, none])) (cond (Nat.blt a 91) ((3, 0, [none, none, none, none, none])) ((3, 0, [none, none, none, none, none])))) (cond (Nat.blt a 93) ((3, 0, [none, none, none, none, none])) (cond (Nat.blt a 94) ((3, 0, [none, none, none, none, none])) ((3, 0, [none, none, none, none, none]))))))))) (cond (Nat.blt a 142) (cond (Nat.blt a 118) (cond (Nat.blt a 106) (cond (Nat.blt a 100) (cond (Nat.blt a 97) (cond (Nat.blt a 96) ((3, 0, [none, none, none, none, none])) ((3, 0, [none, none, none, none, none]))) (cond (Nat.blt a 98) ((3, 0, [none, none, none, none, none])) (cond (Nat.blt a 99) ((3, 0, [none, none, none, none, none])) ((3, 0, [none, none, none, none, none]))))) (cond (Nat.blt a 103) (cond (Nat.blt a 101) ((3, 0, [none, none, none, none, none])) (cond (Nat.blt a 102) ((3, 0, [none, none, none, none, none])) ((3, 0, [none, none, none, none, none])))) (cond (Nat.blt a 104) ((3, 0, [none, none, none, none, none])) (cond (Nat.blt a 105) ((3, 0, [none, none, none, none, none])) ((3, 0, [none, none, none, none, none])))))) (cond (Nat.blt a 112) (cond (Nat.blt a 109) (cond (Nat.blt a 107) ((3, 0, [none, none, none, none, none])) (cond (Nat.blt a 108) ((3, 0, [none, none, none, none, none])) ((3, 0, [none, none, none, none, none])))) (cond (Nat.blt a 110) ((3, 0, [none, none, none, none, none])) (cond (Nat.blt a 111) ((3, 0, [none, none, none, none, none])) ((3, 0, [none, none, none, none, none]))))) (cond (Nat.blt a 115) (cond (Nat.blt a 113) ((3, 0, [none, none, none, none, none])) (cond (Nat.blt a 114) ((3, 0, [none, none, none, none, none])) ((3, 0, [none, none, none, none, none])))) (cond (Nat.blt a 116) ((3, 0, [none, none, none, none, none])) (cond (Nat.blt a 117) ((3, 0, [none, none, none, none, none])) ((3, 0, [none, none, none, none, none]))))))) (cond (Nat.blt a 130) (cond (Nat.blt a 124) (cond (Nat.blt a 121) (cond (Nat.blt a 119) ((3, 1, [some 119, none])) (cond (Nat.blt a 120) ((2, 30, [some 120, some 121, some 122, some 123, some 124, some 125, some 126, some 127, some 128, some 129, some 130, some 131, some 132, some 133, some 134, some 135, some 136, some 137, some 138, some 139, some 140, some 141, some 142, some 143, some 144, some 145, some 146, some 147, some 148, some 149])) ((3, 0, [none, none, none, none, none])))) (cond (Nat.blt a 122) ((3, 0, [none, none, none, none, none])) (cond (Nat.blt a 123) ((3, 0, [none, none, none, none, none])) ((3, 0, [none, none, none, none, none]))))) (cond (Nat.blt a 127) (cond (Nat.blt a 125) ((3, 0, [none, none, none, none, none])) (cond (Nat.blt a 126) ((3, 0, [none, none, none, none, none])) ((3, 0, [none, none, none, none, none])))) (cond (Nat.blt a 128) ((3, 0, [none, none, none, none, none])) (cond (Nat.blt a 129) ((3, 0, [none, none, none, none, none])) ((3, 0, [none, none, none, none, none])))))) (cond (Nat.blt a 136) (cond (Nat.blt a 133) (cond (Nat.blt a 131) ((3, 0, [none, none, none, none, none])) (cond (Nat.blt a 132) ((3, 0, [none, none, none, none, none])) ((3, 0, [none, none, none, none, none])))) (cond (Nat.blt a 134) ((3, 0, [none, none, none, none, none])) (cond (Nat.blt a 135) ((3, 0, [none, none, none, none, none])) ((3, 0, [none, none, none, none, none]))))) (cond (Nat.blt a 139) (cond (Nat.blt a 137) ((3, 0, [none, none, none, none, none])) (cond (Nat.blt a 138) ((3, 0, [none, none, none, none, none])) ((3, 0, [none, none, none, none, none])))) (cond (Nat.blt a 140) ((3, 0, [none, none, none, none, none])) (cond (Nat.blt a 141) ((3, 0, [none, none, none, none, none])) ((3, 0, [none, none, none, none, none])))))))) (cond (Nat.blt a 166) (cond (Nat.blt a 154) (cond (Nat.blt a 148) (cond (Nat.blt a 145) (cond (Nat.blt a 143) ((3, 0, [none, none, none, none, none])) (cond (Nat.blt a 144) ((3, 0, [none, none, none, none, none])) ((3, 0, [none, none, none, none, none])))) (cond (Nat.blt a 146) ((3, 0, [none, none, none, none, none])) (cond (Nat.blt a 147) ((3, 0, [none, none, none, none, none])) ((3, 0, [none, none, none, none, none]))))) (cond (Nat.blt a 151) (cond (Nat.blt a 149) ((3, 0, [none, none, none, none, none])) (cond (Nat.blt a 150) ((3, 0, [none, none, none, none, none])) ((3, 3, [some 151, some 152, some 153, some 154])))) (cond (Nat.blt a 152) ((0, 12, [])) (cond (Nat.blt a 153) ((0, 12, [])) ((0, 40, [])))))) (cond (Nat.blt a 160) (cond (Nat.blt a 157) (cond (Nat.blt a 155) ((0, 40, [])) (cond (Nat.blt a 156) ((3, 5, [some 156, some 163, some 168, some 169])) ((3, 4, [some 157, some 158, some 159, some 160, some 161, some 162])))) (cond (Nat.blt a 158) ((0, 12, [])) (cond (Nat.blt a 159) ((0, 12, [])) ((0, 12, []))))) (cond (Nat.blt a 163) (cond (Nat.blt a 161) ((0, 40, [])) (cond (Nat.blt a 162) ((0, 40, [])) ((1, 40, [])))) (cond (Nat.blt a 164) ((3, 3, [some 164, some 165, some 166, some 167])) (cond (Nat.blt a 165) ((0, 12, [])) ((0, 12, []))))))) (cond (Nat.blt a 178) (cond (Nat.blt a 172) (cond (Nat.blt a 169) (cond (Nat.blt a 167) ((0, 40, [])) (cond (Nat.blt a 168) ((0, 40, [])) ((3, 0, [none, none, none, none, none])))) (cond (Nat.blt a 170) ((0, 30, [])) (cond (Nat.blt a 171) ((0, 30, [])) ((3, 7, [some 172, some 173, some 174, some 175, some 176, some 177, some 178, some 179, none, none, none, some 180, some 181, some 182, some 183, some 184, some 185, some 186, some 187, some 188, none, none, none, none, none]))))) (cond (Nat.blt a 175) (cond (Nat.blt a 173) ((0, 1704, [])) (cond (Nat.blt a 174) ((0, 1704, [])) ((0, 1704, [])))) (cond (Nat.blt a 176) ((0, 1704, [])) (cond (Nat.blt a 177) ((0, 1704, [])) ((0, 1704, [])))))) (cond (Nat.blt a 184) (cond (Nat.blt a 181) (cond (Nat.blt a 179) ((0, 150, [])) (cond (Nat.blt a 180) ((0, 150, [])) ((0, 5, [])))) (cond (Nat.blt a 182) ((0, 5, [])) (cond (Nat.blt a 183) ((0, 150, [])) ((0, 12, []))))) (cond (Nat.blt a 187) (cond (Nat.blt a 185) ((0, 40, [])) (cond (Nat.blt a 186) ((0, 1704, [])) ((0, 1704, [])))) (cond (Nat.blt a 188) ((0, 30, [])) (cond (Nat.blt a 189) ((0, 30, [])) ((1, 1, [])))))))))
abbrev a_base : Nat := 1
abbrev a_zero : Nat := 8
abbrev a_one : Nat := 15
abbrev a_trial : Nat := 22
abbrev a_changes : Nat := 29
abbrev a_wanted : Nat := 61
abbrev a_comm : Nat := 62
abbrev a_match : Nat := 150
abbrev a_repl : Nat := 155
abbrev a_outs : Nat := 170
abbrev a_M : Nat := 171
abbrev a_m_first : Nat := 172
abbrev a_m_second : Nat := 173
abbrev a_m_base : Nat := 174
abbrev a_m_at : Nat := 175
abbrev a_m_here : Nat := 176
abbrev a_m_there : Nat := 177
abbrev a_m_log : Nat := 178
abbrev a_m_taken : Nat := 179
abbrev a_m_back : Nat := 180
abbrev a_m_forth : Nat := 181
abbrev a_m_tried : Nat := 182
abbrev a_m_classMatch : Nat := 183
abbrev a_m_memberMatch : Nat := 184
abbrev a_m_moving : Nat := 185
abbrev a_m_target : Nat := 186
abbrev a_m_outcomes : Nat := 187
abbrev a_m_latest : Nat := 188
abbrev a_out : Nat := 189
def zs_ok (e : zm_E) (k : Nat × Nat × List (Option Nat)) : Prop := match k with
  | (0, n, _) => ∃ f, e = .inl (0, n, .inl f)
  | (1, n, _) => ∃ f, e = .inl (1, n, .inr (.inl f))
  | (2, n, rs) => ∃ f, e = .inl (2, n, .inr (.inr (.inr (.inr f)))) ∧ ∀ j q : Nat, rs[j]? = some (some q) → f j = some q
  | (_, c, rs) => ∃ fs : List Value, e = .inr (c, fs) ∧ fs.length = rs.length ∧ (∀ j q : Nat, rs[j]? = some (some q) → fs[j]? = some (Value.ref q)) ∧ (∀ j : Nat, rs[j]? = some none → ∃ x, fs[j]? = some (Value.int x))
def zs_H (h : zm_H) : Prop := h.2.1 = zs_n ∧ ∀ a, a < zs_n → zs_ok (h.1 a) (zs_tab a)
/-- an int array of n places, a long one, an array of references, an object -/
def zs_I (a n : Nat) : Prop := a < zs_n ∧ zs_tab a = (0, n, [])
def zs_J (a n : Nat) : Prop := a < zs_n ∧ zs_tab a = (1, n, [])
def zs_Q (a n : Nat) (rs : List (Option Nat)) : Prop := a < zs_n ∧ zs_tab a = (2, n, rs)
def zs_O (a c : Nat) (rs : List (Option Nat)) : Prop := a < zs_n ∧ zs_tab a = (3, c, rs)
def ci (h : zm_H) (a : Nat) : Nat → Int32 := match h.1 a with
  | .inl (_, _, .inl f) => f
  | _ => fun _ => 0
def cj (h : zm_H) (a : Nat) : Nat → Int64 := match h.1 a with
  | .inl (_, _, .inr (.inl f)) => f
  | _ => fun _ => 0
def cs (h : zm_H) (a : Nat) : List Value := match h.1 a with
  | .inr (_, fs) => fs
  | _ => []
def cf (h : zm_H) (a j : Nat) : Int32 := match (cs h a)[j]? with
  | some (.int x) => x
  | _ => 0
def zi_put (h : zm_H) (a : Nat) (f : Nat → Int32) : zm_H := zm_put h a (.inl (0, (zs_tab a).2.1, .inl f))
def zj_put (h : zm_H) (a : Nat) (f : Nat → Int64) : zm_H := zm_put h a (.inl (1, (zs_tab a).2.1, .inr (.inl f)))
def zf_put (h : zm_H) (a j : Nat) (x : Int32) : zm_H := zm_put h a (.inr ((zs_tab a).2.1, (cs h a).set j (.int x)))
theorem zs_iarr {h : zm_H} {a n : Nat} (hS : zs_H h) (ha : zs_I a n) : zm_iarr h a = some (n, ci h a) := by
  obtain ⟨h1, h2⟩ := ha
  have h3 := hS.2 a h1
  rw [h2] at h3
  obtain ⟨f, h4⟩ := h3
  unfold zm_iarr ci
  rw [h4, hS.1, Nat.blt_eq.mpr h1]
  rfl
theorem zs_larr {h : zm_H} {a n : Nat} (hS : zs_H h) (ha : zs_J a n) : zm_larr h a = some (n, cj h a) := by
  obtain ⟨h1, h2⟩ := ha
  have h3 := hS.2 a h1
  rw [h2] at h3
  obtain ⟨f, h4⟩ := h3
  unfold zm_larr cj
  rw [h4, hS.1, Nat.blt_eq.mpr h1]
  rfl
theorem zs_inone {h : zm_H} {a n : Nat} (hS : zs_H h) (ha : zs_J a n) : zm_iarr h a = none := by
  obtain ⟨h1, h2⟩ := ha
  have h3 := hS.2 a h1
  rw [h2] at h3
  obtain ⟨f, h4⟩ := h3
  unfold zm_iarr
  rw [h4]
  rfl
theorem zs_qarr {h : zm_H} {a n : Nat} {rs : List (Option Nat)} (hS : zs_H h) (ha : zs_Q a n rs) : ∃ f, zm_qarr h a = some (n, f) ∧ ∀ j q : Nat, rs[j]? = some (some q) → f j = some q := by
  obtain ⟨h1, h2⟩ := ha
  have h3 := hS.2 a h1
  rw [h2] at h3
  obtain ⟨f, h4, h5⟩ := h3
  refine ⟨f, ?_, h5⟩
  unfold zm_qarr
  rw [h4, hS.1, Nat.blt_eq.mpr h1]
  rfl
theorem zs_obj {h : zm_H} {a c : Nat} {rs : List (Option Nat)} (hS : zs_H h) (ha : zs_O a c rs) : zm_obj h a = some (c, cs h a) ∧ (cs h a).length = rs.length ∧ (∀ j q : Nat, rs[j]? = some (some q) → (cs h a)[j]? = some (Value.ref q)) ∧ (∀ j : Nat, rs[j]? = some none → (cs h a)[j]? = some (Value.int (cf h a j))) := by
  obtain ⟨h1, h2⟩ := ha
  have h3 := hS.2 a h1
  rw [h2] at h3
  obtain ⟨fs, h4, h5, h6, h7⟩ := h3
  have e : cs h a = fs := by unfold cs; rw [h4]
  refine ⟨?_, by rw [e]; exact h5, fun j q hj => by rw [e]; exact h6 j q hj, fun j hj => ?_⟩
  · unfold zm_obj
    rw [h4, hS.1, Nat.blt_eq.mpr h1, e]
    rfl
  · obtain ⟨x, hx⟩ := h7 j hj
    unfold cf
    rw [e, hx]
theorem zs_puti {h : zm_H} {a n : Nat} {f : Nat → Int32} (hS : zs_H h) (ha : zs_I a n) : zs_H (zi_put h a f) := by
  refine ⟨hS.1, fun b hb => ?_⟩
  by_cases hba : b = a
  · subst hba
    rw [ha.2]
    exact ⟨f, by simp [zi_put, zm_put, va_up, ha.2]⟩
  · have : (zi_put h a f).1 b = h.1 b := by simp [zi_put, zm_put, va_up, hba]
    rw [this]
    exact hS.2 b hb
theorem zs_putj {h : zm_H} {a n : Nat} {f : Nat → Int64} (hS : zs_H h) (ha : zs_J a n) : zs_H (zj_put h a f) := by
  refine ⟨hS.1, fun b hb => ?_⟩
  by_cases hba : b = a
  · subst hba
    rw [ha.2]
    exact ⟨f, by simp [zj_put, zm_put, va_up, ha.2]⟩
  · have : (zj_put h a f).1 b = h.1 b := by simp [zj_put, zm_put, va_up, hba]
    rw [this]
    exact hS.2 b hb
theorem zs_putf {h : zm_H} {a c j : Nat} {rs : List (Option Nat)} {x : Int32} (hS : zs_H h) (ha : zs_O a c rs) (hj : rs[j]? = some none) : zs_H (zf_put h a j x) := by
  obtain ⟨-, g2, g3, g4⟩ := zs_obj hS ha
  refine ⟨hS.1, fun b hb => ?_⟩
  by_cases hba : b = a
  · subst hba
    rw [ha.2]
    refine ⟨(cs h b).set j (.int x), by simp [zf_put, zm_put, va_up, ha.2], by rw [List.length_set]; exact g2, fun i q hi => ?_, fun i hi => ?_⟩
    · have hij : j ≠ i := fun q => by rw [q, hi] at hj; cases hj
      rw [List.getElem?_set_ne hij]
      exact g3 i q hi
    · by_cases hij : j = i
      · subst hij
        exact ⟨x, List.getElem?_set_self (by rw [g2]; exact (List.getElem?_eq_some_iff.mp hj).1)⟩
      · rw [List.getElem?_set_ne hij]
        exact ⟨_, g4 i hi⟩
  · have : (zf_put h a j x).1 b = h.1 b := by simp [zf_put, zm_put, va_up, hba]
    rw [this]
    exact hS.2 b hb
/-! reading behind writing -/
theorem zi_at {h : zm_H} {a : Nat} {f : Nat → Int32} : ci (zi_put h a f) a = f := by simp [ci, zi_put, zm_put, va_up]
theorem zi_ne {h : zm_H} {a b : Nat} {f : Nat → Int32} (hb : b ≠ a) : ci (zi_put h a f) b = ci h b := by simp [ci, zi_put, zm_put, va_up, hb]
theorem zi_cj {h : zm_H} {a b : Nat} {f : Nat → Int32} (hb : b ≠ a) : cj (zi_put h a f) b = cj h b := by simp [cj, zi_put, zm_put, va_up, hb]
theorem zi_cs {h : zm_H} {a b : Nat} {f : Nat → Int32} (hb : b ≠ a) : cs (zi_put h a f) b = cs h b := by simp [cs, zi_put, zm_put, va_up, hb]
theorem zi_cf {h : zm_H} {a b j : Nat} {f : Nat → Int32} (hb : b ≠ a) : cf (zi_put h a f) b j = cf h b j := by unfold cf; rw [zi_cs hb]
theorem zj_at {h : zm_H} {a : Nat} {f : Nat → Int64} : cj (zj_put h a f) a = f := by simp [cj, zj_put, zm_put, va_up]
theorem zj_ne {h : zm_H} {a b : Nat} {f : Nat → Int64} (hb : b ≠ a) : cj (zj_put h a f) b = cj h b := by simp [cj, zj_put, zm_put, va_up, hb]
theorem zj_ci {h : zm_H} {a b : Nat} {f : Nat → Int64} (hb : b ≠ a) : ci (zj_put h a f) b = ci h b := by simp [ci, zj_put, zm_put, va_up, hb]
theorem zj_cs {h : zm_H} {a b : Nat} {f : Nat → Int64} (hb : b ≠ a) : cs (zj_put h a f) b = cs h b := by simp [cs, zj_put, zm_put, va_up, hb]
theorem zj_cf {h : zm_H} {a b j : Nat} {f : Nat → Int64} (hb : b ≠ a) : cf (zj_put h a f) b j = cf h b j := by unfold cf; rw [zj_cs hb]
theorem zf_ci {h : zm_H} {a b j : Nat} {x : Int32} (hb : b ≠ a) : ci (zf_put h a j x) b = ci h b := by simp [ci, zf_put, zm_put, va_up, hb]
theorem zf_cj {h : zm_H} {a b j : Nat} {x : Int32} (hb : b ≠ a) : cj (zf_put h a j x) b = cj h b := by simp [cj, zf_put, zm_put, va_up, hb]
theorem zf_cs {h : zm_H} {a b j : Nat} {x : Int32} (hb : b ≠ a) : cs (zf_put h a j x) b = cs h b := by simp [cs, zf_put, zm_put, va_up, hb]
theorem zf_ne {h : zm_H} {a b j i : Nat} {x : Int32} (hb : b ≠ a) : cf (zf_put h a j x) b i = cf h b i := by unfold cf; rw [zf_cs hb]
theorem zf_cs_at {h : zm_H} {a j : Nat} {x : Int32} : cs (zf_put h a j x) a = (cs h a).set j (.int x) := by simp [cs, zf_put, zm_put, va_up]
theorem zf_at {h : zm_H} {a c j : Nat} {rs : List (Option Nat)} {x : Int32} (hS : zs_H h) (ha : zs_O a c rs) (hj : rs[j]? = some none) : cf (zf_put h a j x) a j = x := by
  unfold cf
  rw [zf_cs_at, List.getElem?_set_self (by rw [(zs_obj hS ha).2.1]; exact (List.getElem?_eq_some_iff.mp hj).1)]
theorem zf_nj {h : zm_H} {a j i : Nat} {x : Int32} (hij : i ≠ j) : cf (zf_put h a j x) a i = cf h a i := by
  unfold cf
  rw [zf_cs_at, List.getElem?_set_ne (Ne.symm hij)]
theorem zi_zi {h : zm_H} {a : Nat} {f g : Nat → Int32} : zi_put (zi_put h a f) a g = zi_put h a g := by
  unfold zi_put zm_put
  congr 1
  funext j
  simp only [va_up]
  split <;> rfl
theorem zi_2 {h : zm_H} {a : Nat} {f : Nat → Int32} : (zi_put h a f).2 = h.2 := rfl
theorem zj_2 {h : zm_H} {a : Nat} {f : Nat → Int64} : (zj_put h a f).2 = h.2 := rfl
theorem zf_2 {h : zm_H} {a j : Nat} {x : Int32} : (zf_put h a j x).2 = h.2 := rfl
/-! what stays -/
/-- the same but for cells in S -/
def zh_eq (S : Nat → Prop) (h h' : zm_H) : Prop := h'.2 = h.2 ∧ ∀ a, ¬ S a → h'.1 a = h.1 a
theorem zh_eq.rf {S : Nat → Prop} {h : zm_H} : zh_eq S h h := ⟨rfl, fun _ _ => rfl⟩
theorem zh_eq.trans {S : Nat → Prop} {h h1 h2 : zm_H} (a : zh_eq S h h1) (b : zh_eq S h1 h2) : zh_eq S h h2 := ⟨b.1.trans a.1, fun x hx => (b.2 x hx).trans (a.2 x hx)⟩
theorem zh_eq.mono {S S' : Nat → Prop} {h h1 : zm_H} (a : zh_eq S h h1) (hs : ∀ x, S x → S' x) : zh_eq S' h h1 := ⟨a.1, fun x hx => a.2 x (fun q => hx (hs x q))⟩
theorem zh_eq.zi {S : Nat → Prop} {h h1 : zm_H} {a : Nat} {f : Nat → Int32} (q : zh_eq S h h1) (ha : S a) : zh_eq S h (zi_put h1 a f) := ⟨q.1, fun x hx => by have : x ≠ a := fun e => hx (by rw [e]; exact ha); simp [zi_put, zm_put, va_up, this, q.2 x hx]⟩
theorem zh_eq.zj {S : Nat → Prop} {h h1 : zm_H} {a : Nat} {f : Nat → Int64} (q : zh_eq S h h1) (ha : S a) : zh_eq S h (zj_put h1 a f) := ⟨q.1, fun x hx => by have : x ≠ a := fun e => hx (by rw [e]; exact ha); simp [zj_put, zm_put, va_up, this, q.2 x hx]⟩
theorem zh_eq.zf {S : Nat → Prop} {h h1 : zm_H} {a j : Nat} {x : Int32} (q : zh_eq S h h1) (ha : S a) : zh_eq S h (zf_put h1 a j x) := ⟨q.1, fun y hx => by have : y ≠ a := fun e => hx (by rw [e]; exact ha); simp [zf_put, zm_put, va_up, this, q.2 y hx]⟩
theorem zh_eq.gi {S : Nat → Prop} {h h1 : zm_H} (q : zh_eq S h h1) {a : Nat} (ha : ¬ S a) : ci h1 a = ci h a := by simp only [ci, q.2 a ha]
theorem zh_eq.gj {S : Nat → Prop} {h h1 : zm_H} (q : zh_eq S h h1) {a : Nat} (ha : ¬ S a) : cj h1 a = cj h a := by simp only [cj, q.2 a ha]
theorem zh_eq.gs {S : Nat → Prop} {h h1 : zm_H} (q : zh_eq S h h1) {a : Nat} (ha : ¬ S a) : cs h1 a = cs h a := by simp only [cs, q.2 a ha]
theorem zh_eq.gf {S : Nat → Prop} {h h1 : zm_H} (q : zh_eq S h h1) {a j : Nat} (ha : ¬ S a) : cf h1 a j = cf h a j := by simp only [cf, q.gs ha]
/-! the rules over the shape -/
section ZQ
variable {X : zm_X} {y pc pc' : Nat} {ls st : List Value} {h : zm_H} {Q : zm_O → zm_H → Prop}
theorem zq_iald {a n j : Nat} (hS : zs_H h) (hf : zm_lk (zm_cd y) pc = some (.inl .iaload, pc')) (ha : zs_I a n) (hj : j < n) (hn : n ≤ 2 ^ 30) (k : zp_wp X y pc' ls (.int (ci h a j) :: st) h Q) : zp_wp X y pc ls (.int (nI j) :: .ref a :: st) h Q := zp_iald hf (zs_iarr hS ha) hj hn k
theorem zq_lald {a n j : Nat} (hS : zs_H h) (hf : zm_lk (zm_cd y) pc = some (.inl .laload, pc')) (ha : zs_J a n) (hj : j < n) (hn : n ≤ 2 ^ 30) (k : zp_wp X y pc' ls (.long (cj h a j) :: st) h Q) : zp_wp X y pc ls (.int (nI j) :: .ref a :: st) h Q := zp_lald hf (zs_larr hS ha) hj hn k
theorem zq_qald {a n j q : Nat} {rs : List (Option Nat)} (hS : zs_H h) (hf : zm_lk (zm_cd y) pc = some (.inl .aaload, pc')) (ha : zs_Q a n rs) (hj : j < n) (hn : n ≤ 2 ^ 30) (hq : rs[j]? = some (some q)) (k : zp_wp X y pc' ls (.ref q :: st) h Q) : zp_wp X y pc ls (.int (nI j) :: .ref a :: st) h Q := by
  obtain ⟨f, h1, h2⟩ := zs_qarr hS ha
  exact zp_qald hf h1 hj hn (h2 j q hq) k
theorem zq_iast {a n j : Nat} {x : Int32} (hS : zs_H h) (hf : zm_lk (zm_cd y) pc = some (.inl .iastore, pc')) (ha : zs_I a n) (hj : j < n) (hn : n ≤ 2 ^ 30) (k : zs_H (zi_put h a (upd (ci h a) j x)) → zp_wp X y pc' ls st (zi_put h a (upd (ci h a) j x)) Q) : zp_wp X y pc ls (.int x :: .int (nI j) :: .ref a :: st) h Q := by
  have k := k (zs_puti hS ha)
  unfold zi_put at k
  rw [ha.2] at k
  exact zp_iast hf (zs_iarr hS ha) hj hn k
theorem zq_last {a n j : Nat} {x : Int64} (hS : zs_H h) (hf : zm_lk (zm_cd y) pc = some (.inl .lastore, pc')) (ha : zs_J a n) (hj : j < n) (hn : n ≤ 2 ^ 30) (k : zs_H (zj_put h a (vp_updL (cj h a) j x)) → zp_wp X y pc' ls st (zj_put h a (vp_updL (cj h a) j x)) Q) : zp_wp X y pc ls (.long x :: .int (nI j) :: .ref a :: st) h Q := by
  have k := k (zs_putj hS ha)
  unfold zj_put at k
  rw [ha.2] at k
  exact zp_last hf (zs_larr hS ha) hj hn k
theorem zq_alen {a n : Nat} (hS : zs_H h) (hf : zm_lk (zm_cd y) pc = some (.inl .arraylength, pc')) (ha : zs_I a n) (k : zp_wp X y pc' ls (.int (nI n) :: st) h Q) : zp_wp X y pc ls (.ref a :: st) h Q := zp_alen hf (zs_iarr hS ha) k
theorem zq_getr {idx c j q k9 : Nat} {rs : List (Option Nat)} (hS : zs_H h) (hf : zm_lk (zm_cd y) pc = some (.inr (0, idx, c, j), pc')) (ho : zs_O q c rs) (hr : rs[j]? = some (some k9)) (k : zp_wp X y pc' ls (.ref k9 :: st) h Q) : zp_wp X y pc ls (.ref q :: st) h Q := zp_get hf (zs_obj hS ho).1 ((zs_obj hS ho).2.2.1 j k9 hr) k
theorem zq_geti {idx c j q : Nat} {rs : List (Option Nat)} (hS : zs_H h) (hf : zm_lk (zm_cd y) pc = some (.inr (0, idx, c, j), pc')) (ho : zs_O q c rs) (hr : rs[j]? = some none) (k : zp_wp X y pc' ls (.int (cf h q j) :: st) h Q) : zp_wp X y pc ls (.ref q :: st) h Q := zp_get hf (zs_obj hS ho).1 ((zs_obj hS ho).2.2.2 j hr) k
theorem zq_put {idx c j q : Nat} {rs : List (Option Nat)} {x : Int32} (hS : zs_H h) (hf : zm_lk (zm_cd y) pc = some (.inr (1, idx, c, j), pc')) (ho : zs_O q c rs) (hr : rs[j]? = some none) (hft : zm_fit (zm_ty c j) (.int x) = true) (k : zs_H (zf_put h q j x) → zp_wp X y pc' ls st (zf_put h q j x) Q) : zp_wp X y pc ls (.int x :: .ref q :: st) h Q := by
  have k := k (zs_putf hS ho hr)
  unfold zf_put at k
  rw [ho.2] at k
  obtain ⟨g1, g2, -⟩ := zs_obj hS ho
  exact zp_put hf g1 (by rw [hft, Nat.blt_eq.mpr (by rw [g2]; exact (List.getElem?_eq_some_iff.mp hr).1)]; rfl) k
theorem zq_virt {idx a j r : Nat} {as rest : List Value} {rs : List (Option Nat)} (hS : zs_H h) (hf : zm_lk (zm_cd y) pc = some (.inr (5, idx, a, j), pc')) (hp : zm_pop (zm_ar a) [] st = some (as, .ref r :: rest)) (ho : zs_O r (zm_own a) rs) (hc : (Nat.blt (zm_lv a) (zm_lv y) && Nat.blt a zm_nM && (Nat.ble (zm_wd rest) 8 && Nat.ble (zm_exp (.ref r :: as)).length (zm_mx a))) = true) (k : zp_wm X a (.ref r :: as) h (zp_k X y pc pc' ls rest Q)) : zp_wp X y pc ls st h Q := zp_virt hf hp (zs_obj hS ho).1 hc k
theorem zq_cpyi {idx a j q0 q1 n0 n1 n sp dp : Nat} (hS : zs_H h) (hf : zm_lk (zm_cd y) pc = some (.inr (11, idx, a, j), pc')) (h0 : zs_I q0 n0) (h1 : zs_I q1 n1) (hn : n < 10000 ∧ sp < 10000 ∧ dp < 10000) (hw : zm_wd st ≤ 8) (h2 : sp + n ≤ n0 ∧ dp + n ≤ n1) (k : zs_H (zi_put h q1 (va_cpy (ci h q0) (ci h q1) sp dp n)) → zp_wp X y pc' ls st (zi_put h q1 (va_cpy (ci h q0) (ci h q1) sp dp n)) Q) : zp_wp X y pc ls (.int (nI n) :: .int (nI dp) :: .ref q1 :: .int (nI sp) :: .ref q0 :: st) h Q := by
  have k := k (zs_puti hS h1)
  unfold zi_put at k
  rw [h1.2] at k
  exact zp_cpyi hf (zs_iarr hS h0) (zs_iarr hS h1) hn hw h2 k
theorem zq_cpyl {idx a j q0 q1 n0 n1 n sp dp : Nat} (hS : zs_H h) (hf : zm_lk (zm_cd y) pc = some (.inr (11, idx, a, j), pc')) (h0 : zs_J q0 n0) (h1 : zs_J q1 n1) (hn : n < 10000 ∧ sp < 10000 ∧ dp < 10000) (hw : zm_wd st ≤ 8) (h2 : sp + n ≤ n0 ∧ dp + n ≤ n1) (k : zs_H (zj_put h q1 (va_cpy (cj h q0) (cj h q1) sp dp n)) → zp_wp X y pc' ls st (zj_put h q1 (va_cpy (cj h q0) (cj h q1) sp dp n)) Q) : zp_wp X y pc ls (.int (nI n) :: .int (nI dp) :: .ref q1 :: .int (nI sp) :: .ref q0 :: st) h Q := by
  have k := k (zs_putj hS h1)
  unfold zj_put at k
  rw [h1.2] at k
  exact zp_cpyl hf (zs_larr hS h0) (zs_larr hS h1) (zs_inone hS h0) hn hw h2 k
end ZQ
end
section
/-! the reference: looking -/
def zr_cls (A : Nat → Int32) (name : Int32) : Option Nat := if 0 < name then zf_fst (fun c => decide (A c = name)) 0 12 else none
def zr_mem (A : Nat → Int32) (c : Option Nat) (name : Int32) : Option Nat := match c with
  | none => none
  | some c => zf_fst (fun m => decide (A (24 + m) = name ∧ A (64 + m) = nI c)) 0 40
section ZR1
variable {X : zm_X} {h : zm_H} {Q : zm_O → zm_H → Prop}
theorem s_Mod_in {x lo hi : Int32} (hq : Q (.inl (some (.int (if lo ≤ x ∧ x ≤ hi then 1 else 0)))) h) : zp_wm X y_Mod_in [.int x, .int lo, .int hi] h Q := by
  show zp_wp X y_Mod_in 0 [.int x, .int lo, .int hi] [] h Q
  refine zp_iload_n rfl rfl ?_
  refine zp_iload_n rfl rfl ?_
  refine zp_icmp_lt (tgt := 14) rfl rfl (fun hc => ?_) (fun hc => ?_)
  · refine zp_iconst (v := (nI 0)) rfl (by decide +kernel) ?_
    refine zp_zret rfl rfl (by decide) ?_
    rw [if_neg (fun q => Int32.not_le.mpr hc q.1)] at hq
    exact hq
  refine zp_iload_n rfl rfl ?_
  refine zp_iload_n rfl rfl ?_
  refine zp_icmp_gt (tgt := 14) rfl rfl (fun hd => ?_) (fun hd => ?_)
  · refine zp_iconst (v := (nI 0)) rfl (by decide +kernel) ?_
    refine zp_zret rfl rfl (by decide) ?_
    rw [if_neg (fun q => Int32.not_le.mpr hd q.2)] at hq
    exact hq
  refine zp_iconst (v := (nI 1)) rfl (by decide +kernel) ?_
  refine zp_goto (tgt := 15) rfl rfl ?_
  refine zp_zret rfl rfl (by decide) ?_
  rw [if_pos ⟨Int32.not_lt.mp hc, Int32.not_lt.mp hd⟩] at hq
  exact hq
theorem s_Mod_classAt {r : Nat} {name : Int32} (hS : zs_H h) (hr : zs_I r 1704) (hq : Q (.inl (some (.int (zf_o (zr_cls (ci h r) name))))) h) : zp_wm X y_Mod_classAt [.ref r, .int name] h Q := by
  show zp_wp X y_Mod_classAt 0 [.ref r, .int name, zm_mk] [] h Q
  have loop : ∀ k c : Nat, c + k = 12 → (0 < name → zr_cls (ci h r) name = zf_fst (fun c => decide (ci h r c = name)) c k) → zp_wp X y_Mod_classAt 2 [.ref r, .int name, .int (nI c)] [] h Q := by
    intro k
    induction k with
    | zero =>
      intro c hc hz
      refine zp_iload_n rfl rfl ?_
      refine zp_bipush (v := (nI 12)) rfl (by decide +kernel) ?_
      refine zp_icmpN_ge (tgt := 27) rfl rfl (by omega) (by omega) (fun h1 => ?_) (fun h1 => ?_)
      · refine zp_iconst (v := (-1)) rfl (by decide +kernel) ?_
        refine zp_iret rfl rfl ?_
        have : zr_cls (ci h r) name = none := by
          by_cases h0 : 0 < name
          · exact hz h0
          · simp [zr_cls, h0]
        rw [this] at hq
        exact hq
      · omega
    | succ k ih =>
      intro c hc hz
      refine zp_iload_n rfl rfl ?_
      refine zp_bipush (v := (nI 12)) rfl (by decide +kernel) ?_
      refine zp_icmpN_ge (tgt := 27) rfl rfl (by omega) (by omega) (fun h1 => ?_) (fun h1 => ?_)
      · omega
      refine zp_iload_n rfl rfl ?_
      refine zp_if_le (tgt := 27) rfl rfl (fun h2 => ?_) (fun h2 => ?_)
      · refine zp_iconst (v := (-1)) rfl (by decide +kernel) ?_
        refine zp_iret rfl rfl ?_
        have : zr_cls (ci h r) name = none := by simp [zr_cls, Int32.not_lt.mpr h2]
        rw [this] at hq
        exact hq
      have h2 := Int32.not_le.mp h2
      refine zp_aload_n rfl rfl ?_
      refine zp_iload_n rfl rfl ?_
      refine zq_iald hS rfl (by first | assumption | exact ⟨by decide, rfl⟩) (by omega) (by decide) ?_
      refine zp_iload_n rfl rfl ?_
      refine zp_icmp_ne (tgt := 21) rfl rfl (fun h3 => ?_) (fun h3 => ?_)
      · first | refine zp_iincN_2 rfl rfl ?_ | refine zp_iinc_2 rfl rfl rfl ?_
        refine zp_goto (tgt := 2) rfl rfl ?_
        exact ih (c + 1) (by omega) (fun h0 => by rw [hz h0, zf_fst_f (by simp [h3])])
      · refine zp_iload_n rfl rfl ?_
        refine zp_iret rfl rfl ?_
        have h3 := Decidable.not_not.mp h3
        rw [hz h2, zf_fst_t (by simp [h3])] at hq
        exact hq
  refine zp_iconst (v := (nI 0)) rfl (by decide +kernel) ?_
  refine zp_istore_n_2 rfl rfl ?_
  exact loop 12 0 rfl (fun h0 => by simp [zr_cls, h0])
theorem s_Mod_memberAt {r : Nat} {c : Option Nat} {name : Int32} (hS : zs_H h) (hr : zs_I r 1704) (hcl : ∀ i, c = some i → i < 2 ^ 31) (hq : Q (.inl (some (.int (zf_o (zr_mem (ci h r) c name))))) h) : zp_wm X y_Mod_memberAt [.ref r, .int (zf_o c), .int name] h Q := by
  show zp_wp X y_Mod_memberAt 0 [.ref r, .int (zf_o c), .int name, zm_mk] [] h Q
  have loop : ∀ k m : Nat, m + k = 40 → (∀ i, c = some i → zr_mem (ci h r) c name = zf_fst (fun m => decide (ci h r (24 + m) = name ∧ ci h r (64 + m) = nI i)) m k) → zp_wp X y_Mod_memberAt 2 [.ref r, .int (zf_o c), .int name, .int (nI m)] [] h Q := by
    intro k
    induction k with
    | zero =>
      intro m hm hz
      refine zp_iload_n rfl rfl ?_
      refine zp_bipush (v := (nI 40)) rfl (by decide +kernel) ?_
      refine zp_icmpN_ge (tgt := 40) rfl rfl (by omega) (by omega) (fun h1 => ?_) (fun h1 => ?_)
      · refine zp_iconst (v := (-1)) rfl (by decide +kernel) ?_
        refine zp_iret rfl rfl ?_
        have : zr_mem (ci h r) c name = none := by
          cases c with
          | none => rfl
          | some i => exact hz i rfl
        rw [this] at hq
        exact hq
      · omega
    | succ k ih =>
      intro m hm hz
      refine zp_iload_n rfl rfl ?_
      refine zp_bipush (v := (nI 40)) rfl (by decide +kernel) ?_
      refine zp_icmpN_ge (tgt := 40) rfl rfl (by omega) (by omega) (fun h1 => ?_) (fun h1 => ?_)
      · omega
      refine zp_iload_n rfl rfl ?_
      cases c with
      | none =>
        refine zp_if_lt (tgt := 40) rfl rfl (fun h2 => ?_) (fun h2 => ?_)
        · refine zp_iconst (v := (-1)) rfl (by decide +kernel) ?_
          refine zp_iret rfl rfl ?_
          exact hq
        · exact absurd (by decide) h2
      | some i =>
        have hi := hcl i rfl
        refine zp_if_lt (tgt := 40) rfl rfl (fun h2 => ?_) (fun h2 => ?_)
        · exact absurd h2 (nI_pos hi)
        refine zp_aload_n rfl rfl ?_
        refine zp_bipush (v := (nI 24)) rfl (by decide +kernel) ?_
        refine zp_iload_n rfl rfl ?_
        first | refine zp_iaddN rfl ?_ | refine zp_iadd rfl rfl ?_
        refine zq_iald hS rfl (by first | assumption | exact ⟨by decide, rfl⟩) (by omega) (by decide) ?_
        refine zp_iload_n rfl rfl ?_
        refine zp_icmp_ne (tgt := 34) rfl rfl (fun h3 => ?_) (fun h3 => ?_)
        · first | refine zp_iincN_3 rfl rfl ?_ | refine zp_iinc_3 rfl rfl rfl ?_
          refine zp_goto (tgt := 2) rfl rfl ?_
          exact ih (m + 1) (by omega) (fun j hj => by cases hj; rw [hz i rfl, zf_fst_f (by simp [h3])])
        have h3 := Decidable.not_not.mp h3
        refine zp_aload_n rfl rfl ?_
        refine zp_bipush (v := (nI 64)) rfl (by decide +kernel) ?_
        refine zp_iload_n rfl rfl ?_
        first | refine zp_iaddN rfl ?_ | refine zp_iadd rfl rfl ?_
        refine zq_iald hS rfl (by first | assumption | exact ⟨by decide, rfl⟩) (by omega) (by decide) ?_
        refine zp_iload_n rfl rfl ?_
        refine zp_icmp_ne (tgt := 34) rfl rfl (fun h4 => ?_) (fun h4 => ?_)
        · first | refine zp_iincN_3 rfl rfl ?_ | refine zp_iinc_3 rfl rfl rfl ?_
          refine zp_goto (tgt := 2) rfl rfl ?_
          refine ih (m + 1) (by omega) (fun j hj => ?_)
          cases hj
          rw [hz i rfl, zf_fst_f]
          have h4 : ¬ ci h r (64 + m) = nI i := h4
          simp [h4]
        · refine zp_iload_n rfl rfl ?_
          refine zp_iret rfl rfl ?_
          have h4 : ci h r (64 + m) = nI i := Decidable.not_not.mp h4
          rw [hz i rfl, zf_fst_t (by simp [h3, h4])] at hq
          exact hq
  refine zp_iconst (v := (nI 0)) rfl (by decide +kernel) ?_
  refine zp_istore_n_3 rfl rfl ?_
  refine loop 40 0 rfl (fun i hi => ?_)
  subst hi
  rfl
end ZR1
end
section
/-! the mathematical state of one version: class names, supers (0: none, else the place + 1), member names, homes, uses; by places -/
abbrev zv : Type := (Nat → Nat) × (Nat → Nat) × (Nat → Nat) × (Nat → Nat) × (Nat → Nat → Bool)
def v_cn (V : zv) : Nat → Nat := V.1
def v_sp (V : zv) : Nat → Nat := V.2.1
def v_mn (V : zv) : Nat → Nat := V.2.2.1
def v_ow (V : zv) : Nat → Nat := V.2.2.2.1
def v_us (V : zv) : Nat → Nat → Bool := V.2.2.2.2
def zf_b (b : Bool) : Int32 := cond b 1 0
def zf_any (p : Nat → Bool) : Nat → Nat → Bool
  | _, 0 => false
  | c, k + 1 => p c || zf_any p (c + 1) k
def zf_ct (p : Nat → Bool) : Nat → Nat → Nat
  | _, 0 => 0
  | c, k + 1 => cond (p c) 1 0 + zf_ct p (c + 1) k
theorem zf_ct_le (p : Nat → Bool) : ∀ k c, zf_ct p c k ≤ k
  | 0, _ => Nat.le_refl _
  | k + 1, c => by
    have := zf_ct_le p k (c + 1)
    unfold zf_ct
    cases p c <;> simp <;> omega
theorem zf_any_iff {p : Nat → Bool} : ∀ {k c : Nat}, zf_any p c k = true ↔ ∃ j, c ≤ j ∧ j < c + k ∧ p j = true
  | 0, c => by
    constructor
    · intro h; cases h
    · rintro ⟨j, h1, h2, -⟩; omega
  | k + 1, c => by
    unfold zf_any
    rw [Bool.or_eq_true, zf_any_iff]
    constructor
    · rintro (h | ⟨j, h1, h2, h3⟩)
      · exact ⟨c, Nat.le_refl _, by omega, h⟩
      · exact ⟨j, by omega, by omega, h3⟩
    · rintro ⟨j, h1, h2, h3⟩
      by_cases hj : j = c
      · exact Or.inl (by rw [← hj]; exact h3)
      · exact Or.inr ⟨j, by omega, by omega, h3⟩
def v_cls (V : zv) (a : Nat) : Option Nat := if a = 0 then none else zf_fst (fun c => v_cn V c == a) 0 12
def v_mem (V : zv) (c : Option Nat) (m : Nat) : Option Nat := match c with
  | none => none
  | some c => zf_fst (fun k => v_mn V k == m && v_ow V k == c) 0 40
def v_pr (s : Nat) : Option Nat := match s with
  | 0 => none
  | s + 1 => some s
def v_up (V : zv) : Option Nat → Nat → Nat → Bool
  | k, u, 0 => k == some u
  | none, _, _ + 1 => false
  | some k, u, n + 1 => if k = u then true else v_up V (v_pr (v_sp V k)) u n
def v_und (V : zv) (c u : Nat) : Bool := v_up V (some c) u 12
def v_kin (V : zv) (c k : Nat) : Bool := v_und V c k || v_und V k c
def v_tak (V : zv) (c name : Nat) (but : Option Nat) : Bool := zf_any (fun m => v_mn V m == name && !(some m == but) && v_kin V c (v_ow V m)) 0 40
def v_nc (V : zv) : Nat := zf_ct (fun c => !(v_cn V c == 0)) 0 12
def v_nm (V : zv) : Nat := zf_ct (fun m => !(v_mn V m == 0)) 0 40
def v_nu (V : zv) : Nat := zf_ct (fun i => v_us V (i / 40) (i % 40)) 0 1600
def v_set1 (V : zv) (c x : Nat) : zv := (va_up V.1 c x, V.2)
def v_set2 (V : zv) (c x : Nat) : zv := (V.1, va_up V.2.1 c x, V.2.2)
def v_set3 (V : zv) (m x : Nat) : zv := (V.1, V.2.1, va_up V.2.2.1 m x, V.2.2.2)
def v_set4 (V : zv) (m x : Nat) : zv := (V.1, V.2.1, V.2.2.1, va_up V.2.2.2.1 m x, V.2.2.2.2)
def v_set5 (V : zv) (m k : Nat) (x : Bool) : zv := (V.1, V.2.1, V.2.2.1, V.2.2.2.1, va_up V.2.2.2.2 m (va_up (V.2.2.2.2 m) k x))
/-- the uses of m are gone -/
def v_clr (V : zv) (m : Nat) : zv := (V.1, V.2.1, V.2.2.1, V.2.2.2.1, va_up V.2.2.2.2 m (fun _ => false))
abbrev zvr : Type := Nat × zv × Option Nat
def v_addC (V : zv) (c : Option Nat) (a : Nat) : zvr :=
  if c.isSome then (1, V, none) else if v_nc V = 12 then (9, V, none) else match zf_fst (fun i => v_cn V i == 0) 0 12 with
    | some i => (0, v_set2 (v_set1 V i a) i 0, some i)
    | none => (9, V, none)
def v_remC (V : zv) (c : Option Nat) : zvr := match c with
  | none => (2, V, none)
  | some c => if zf_any (fun k => !(v_mn V k == 0) && v_ow V k == c) 0 40 then (3, V, none) else if zf_any (fun k => !(v_cn V k == 0) && v_sp V k == c + 1) 0 12 then (3, V, none) else (0, v_set1 V c 0, none)
def v_renC (V : zv) (c : Option Nat) (b : Nat) : zvr := match c with
  | none => (2, V, none)
  | some c => if (v_cls V b).isSome then (1, V, none) else (0, v_set1 V c b, none)
def v_supC (V : zv) (c : Option Nat) (b : Nat) : zvr := match c with
  | none => (2, V, none)
  | some c => match v_cls V b with
    | none => if b = 0 then (0, v_set2 V c 0, none) else (2, V, none)
    | some s => if v_und V s c then (4, V, none) else if zf_any (fun k => !(v_mn V k == 0) && v_und V (v_ow V k) c && zf_any (fun o => v_mn V o == v_mn V k && v_und V s (v_ow V o)) 0 40) 0 40 then (5, V, none) else (0, v_set2 V c (s + 1), none)
def v_addM (V : zv) (c : Option Nat) (m : Nat) : zvr := match c with
  | none => (2, V, none)
  | some c => if (v_mem V (some c) m).isSome then (1, V, none) else if v_tak V c m none then (5, V, none) else if v_nm V = 40 then (9, V, none) else match zf_fst (fun i => v_mn V i == 0) 0 40 with
    | some i => (0, v_set4 (v_set3 V i m) i c, some i)
    | none => (9, V, none)
def v_remM (V : zv) (k : Option Nat) : zvr := match k with
  | none => (2, V, none)
  | some k => if zf_any (fun j => !(j == k) && v_us V j k) 0 40 then (3, V, none) else (0, v_set3 (v_clr V k) k 0, none)
def v_renM (V : zv) (c k : Option Nat) (n : Nat) : zvr := match k with
  | none => (2, V, none)
  | some k => if v_tak V (c.getD 0) n none then (5, V, none) else (0, v_set3 V k n, none)
def v_movM (V : zv) (c k to : Option Nat) : zvr := match k, to with
  | some k, some to => if c = some to then (1, V, none) else if v_tak V to (v_mn V k) (some k) then (5, V, none) else (0, v_set4 V k to, none)
  | _, _ => (2, V, none)
def v_addU (V : zv) (m n : Option Nat) : zvr := match m, n with
  | some m, some n => if v_us V m n then (1, V, none) else if v_nu V = 60 then (9, V, none) else (0, v_set5 V m n true, none)
  | _, _ => (2, V, none)
def v_remU (V : zv) (m n : Option Nat) : zvr := match m, n with
  | some m, some n => if v_us V m n then (0, v_set5 V m n false, none) else (2, V, none)
  | _, _ => (2, V, none)
def v_make (V : zv) (kind a m b n : Nat) : zvr :=
  let c := v_cls V a
  match kind with
  | 0 => v_addC V c a
  | 1 => v_remC V c
  | 2 => v_renC V c b
  | 3 => v_supC V c b
  | 4 => v_addM V c m
  | 5 => v_remM V (v_mem V c m)
  | 6 => v_renM V c (v_mem V c m) n
  | 7 => v_movM V c (v_mem V c m) (v_cls V b)
  | 8 => v_addU V (v_mem V c m) (v_mem V (v_cls V b) n)
  | _ => v_remU V (v_mem V c m) (v_mem V (v_cls V b) n)
/-- numbers in their ranges -/
def zv_B (V : zv) : Prop := (∀ c, c < 12 → v_cn V c < 128) ∧ (∀ c, c < 12 → v_sp V c ≤ 12) ∧ (∀ m, m < 40 → v_mn V m < 128) ∧ (∀ m, m < 40 → v_ow V m < 12)
/-- a row of the reference holds V -/
def zv_R (V : zv) (A : Nat → Int32) : Prop := (∀ c, c < 12 → A c = nI (v_cn V c)) ∧ (∀ c, c < 12 → A (12 + c) = nI (v_sp V c)) ∧ (∀ m, m < 40 → A (24 + m) = nI (v_mn V m)) ∧ (∀ m, m < 40 → A (64 + m) = nI (v_ow V m)) ∧ (∀ m k, m < 40 → k < 40 → A (104 + 40 * m + k) = nI (cond (v_us V m k) 1 0))
theorem v_pr_sub (s : Nat) : nI s - nI 1 = zf_o (v_pr s) := by
  cases s with
  | zero => decide +kernel
  | succ t => exact nI_pred t
theorem v_cls_lt {V : zv} {a i : Nat} (h : v_cls V a = some i) : i < 12 ∧ v_cn V i = a ∧ a ≠ 0 := by
  unfold v_cls at h
  split at h
  · cases h
  · rename_i h0
    obtain ⟨-, h2, h3, -⟩ := zf_fst_some h
    exact ⟨by omega, by simpa using h3, h0⟩
theorem v_mem_lt {V : zv} {c : Option Nat} {m i : Nat} (h : v_mem V c m = some i) : i < 40 ∧ v_mn V i = m ∧ c = some (v_ow V i) := by
  unfold v_mem at h
  split at h
  · cases h
  · obtain ⟨-, h2, h3, -⟩ := zf_fst_some h
    simp only [Bool.and_eq_true, beq_iff_eq] at h3
    exact ⟨by omega, h3.1, by rw [h3.2]⟩
theorem zv_cls {V : zv} {A : Nat → Int32} {a : Nat} (hV : zv_R V A) (hB : zv_B V) (ha : a < 2 ^ 31) : zr_cls A (nI a) = v_cls V a := by
  unfold zr_cls v_cls
  by_cases h0 : a = 0
  · subst h0
    rw [if_neg (by decide +kernel), if_pos rfl]
  · rw [if_pos (by have := nI_lt (a := 0) (b := a) (by omega) ha; rwa [nI_0] at this), if_neg h0]
    apply zf_fst_cong
    intro j _ hj
    rw [hV.1 j (by omega)]
    have := hB.1 j (by omega)
    have e := nI_eq (a := v_cn V j) (b := a) (by omega) ha
    by_cases hc : v_cn V j = a
    · simp [hc]
    · have h1 : ¬ nI (v_cn V j) = nI a := fun q => hc (e.mp q)
      simp [hc, h1]
theorem zv_mem {V : zv} {A : Nat → Int32} {c : Option Nat} {m : Nat} (hV : zv_R V A) (hB : zv_B V) (hc : ∀ i, c = some i → i < 2 ^ 31) (hm : m < 2 ^ 31) : zr_mem A c (nI m) = v_mem V c m := by
  cases c with
  | none => rfl
  | some c =>
    have hc := hc c rfl
    unfold zr_mem v_mem
    apply zf_fst_cong
    intro j _ hj
    rw [hV.2.2.1 j (by omega), hV.2.2.2.1 j (by omega)]
    have b1 := hB.2.2.1 j (by omega)
    have b2 := hB.2.2.2 j (by omega)
    have e1 := nI_eq (a := v_mn V j) (b := m) (by omega) hm
    have e2 := nI_eq (a := v_ow V j) (b := c) (by omega) hc
    simp only [e1, e2]
    by_cases h1 : v_mn V j = m <;> by_cases h2 : v_ow V j = c <;> simp [h1, h2]
end
section
/-! the reference: what its helpers answer of V -/
section ZR2
variable {X : zm_X} {h : zm_H} {Q : zm_O → zm_H → Prop} {V : zv} {r : Nat}
theorem t_Mod_classAt {a : Nat} (hS : zs_H h) (hr : zs_I r 1704) (hV : zv_R V (ci h r)) (hB : zv_B V) (ha : a < 2 ^ 31) (hq : Q (.inl (some (.int (zf_o (v_cls V a))))) h) : zp_wm X y_Mod_classAt [.ref r, .int (nI a)] h Q := by
  refine s_Mod_classAt hS hr ?_
  rw [zv_cls hV hB ha]
  exact hq
theorem t_Mod_memberAt {c : Option Nat} {m : Nat} (hS : zs_H h) (hr : zs_I r 1704) (hV : zv_R V (ci h r)) (hB : zv_B V) (hc : ∀ i, c = some i → i < 12) (hm : m < 2 ^ 31) (hq : Q (.inl (some (.int (zf_o (v_mem V c m))))) h) : zp_wm X y_Mod_memberAt [.ref r, .int (zf_o c), .int (nI m)] h Q := by
  have hc' : ∀ i, c = some i → i < 2 ^ 31 := fun i hi => Nat.lt_trans (hc i hi) (by decide)
  refine s_Mod_memberAt hS hr hc' ?_
  rw [zv_mem hV hB hc' hm]
  exact hq
theorem t_Mod_memberOf {a m : Nat} (hS : zs_H h) (hr : zs_I r 1704) (hV : zv_R V (ci h r)) (hB : zv_B V) (ha : a < 2 ^ 31) (hm : m < 2 ^ 31) (hq : Q (.inl (some (.int (zf_o (v_mem V (v_cls V a) m))))) h) : zp_wm X y_Mod_memberOf [.ref r, .int (nI a), .int (nI m)] h Q := by
  show zp_wp X y_Mod_memberOf 0 [.ref r, .int (nI a), .int (nI m)] [] h Q
  refine zp_aload_n rfl rfl ?_
  refine zp_aload_n rfl rfl ?_
  refine zp_iload_n rfl rfl ?_
  refine zp_call rfl rfl (t_Mod_classAt hS hr hV hB ha ?_)
  refine zp_iload_n rfl rfl ?_
  refine zp_call rfl rfl (t_Mod_memberAt hS hr hV hB (fun i hi => (v_cls_lt hi).1) hm ?_)
  refine zp_iret rfl rfl ?_
  exact hq
theorem s_Mod_countOf {fr many : Nat} {p : Nat → Bool} (hS : zs_H h) (hr : zs_I r 1704) (hf : fr + many ≤ 1704) (hp : ∀ i, i < many → (ci h r (fr + i) = 0 ↔ p i = false)) (hq : Q (.inl (some (.int (nI (zf_ct p 0 many))))) h) : zp_wm X y_Mod_countOf [.ref r, .int (nI fr), .int (nI many)] h Q := by
  show zp_wp X y_Mod_countOf 0 [.ref r, .int (nI fr), .int (nI many), zm_mk, zm_mk] [] h Q
  have loop : ∀ k i n : Nat, i + k = many → n ≤ i → n + zf_ct p i k = zf_ct p 0 many → zp_wp X y_Mod_countOf 5 [.ref r, .int (nI fr), .int (nI many), .int (nI n), .int (nI i)] [] h Q := by
    intro k
    induction k with
    | zero =>
      intro i n hi hn he
      refine zp_iload rfl rfl ?_
      refine zp_iload_n rfl rfl ?_
      refine zp_icmpN_ge (tgt := 34) rfl rfl (by omega) (by omega) (fun h1 => ?_) (fun h1 => ?_)
      · refine zp_iload_n rfl rfl ?_
        refine zp_iret rfl rfl ?_
        rw [← he] at hq
        exact hq
      · omega
    | succ k ih =>
      intro i n hi hn he
      refine zp_iload rfl rfl ?_
      refine zp_iload_n rfl rfl ?_
      refine zp_icmpN_ge (tgt := 34) rfl rfl (by omega) (by omega) (fun h1 => ?_) (fun h1 => ?_)
      · omega
      refine zp_iload_n rfl rfl ?_
      refine zp_aload_n rfl rfl ?_
      refine zp_iload_n rfl rfl ?_
      refine zp_iload rfl rfl ?_
      first | refine zp_iaddN rfl ?_ | refine zp_iadd rfl rfl ?_
      refine zq_iald hS rfl (by first | assumption | exact ⟨by decide, rfl⟩) (by omega) (by decide) ?_
      have hz := hp i (by omega)
      have next : ∀ d : Nat, d = cond (p i) 1 0 → zp_wp X y_Mod_countOf 26 [.ref r, .int (nI fr), .int (nI many), .int (nI n), .int (nI i)] [.int (nI d), .int (nI n)] h Q := by
        intro d hd
        first | refine zp_iaddN rfl ?_ | refine zp_iadd rfl rfl ?_
        refine zp_istore_n_3 rfl rfl ?_
        first | refine zp_iincN_4 rfl rfl ?_ | refine zp_iinc_4 rfl rfl rfl ?_
        refine zp_goto (tgt := 5) rfl rfl ?_
        refine ih (i + 1) (n + d) (by omega) (by rw [hd]; cases p i <;> simp <;> omega) ?_
        rw [← he]
        show n + d + zf_ct p (i + 1) k = n + (cond (p i) 1 0 + zf_ct p (i + 1) k)
        rw [← hd]
        omega
      refine zp_if_eq (tgt := 25) rfl rfl (fun h2 => ?_) (fun h2 => ?_)
      · refine zp_iconst (v := (nI 0)) rfl (by decide +kernel) ?_
        exact next 0 (by rw [hz.mp h2]; rfl)
      · refine zp_iconst (v := (nI 1)) rfl (by decide +kernel) ?_
        refine zp_goto (tgt := 26) rfl rfl ?_
        refine next 1 ?_
        cases hpi : p i with
        | true => rfl
        | false => exact absurd (hz.mpr hpi) h2
  refine zp_iconst (v := (nI 0)) rfl (by decide +kernel) ?_
  refine zp_istore_n_3 rfl rfl ?_
  refine zp_iconst (v := (nI 0)) rfl (by decide +kernel) ?_
  refine zp_istore_4 rfl rfl ?_
  exact loop many 0 0 (by omega) (Nat.le_refl _) (by omega)
theorem s_Mod_isUnder {c u : Nat} (hS : zs_H h) (hr : zs_I r 1704) (hV : zv_R V (ci h r)) (hB : zv_B V) (hc : c < 12) (hu : u < 12) (hq : Q (.inl (some (.int (zf_b (v_und V c u))))) h) : zp_wm X y_Mod_isUnder [.ref r, .int (nI c), .int (nI u)] h Q := by
  show zp_wp X y_Mod_isUnder 0 [.ref r, .int (nI c), .int (nI u), zm_mk, zm_mk] [] h Q
  have hend : ∀ (ko : Option Nat) (i : Nat), (∀ k, ko = some k → k < 12) → (ko == some u) = v_und V c u → zp_wp X y_Mod_isUnder 36 [.ref r, .int (nI c), .int (nI u), .int (zf_o ko), .int (nI i)] [] h Q := by
    intro ko i hk he
    rw [← he] at hq
    refine zp_iload_n rfl rfl ?_
    refine zp_iload_n rfl rfl ?_
    cases ko with
    | none =>
      refine zp_icmp_ne (tgt := 45) rfl rfl (fun h1 => ?_) (fun h1 => ?_)
      · refine zp_iconst (v := (nI 0)) rfl (by decide +kernel) ?_
        refine zp_zret rfl rfl (by decide) ?_
        exact hq
      · have h1 : (-1 : Int32) = nI u := Decidable.not_not.mp h1
        exact absurd (show (-1 : Int32) < 0 by decide) (by rw [h1]; exact nI_pos (by omega))
    | some k =>
      have hk := hk k rfl
      refine zp_icmpN_ne (a := k) (b := u) (tgt := 45) rfl rfl (by omega) (by omega) (fun h1 => ?_) (fun h1 => ?_)
      · refine zp_iconst (v := (nI 0)) rfl (by decide +kernel) ?_
        refine zp_zret rfl rfl (by decide) ?_
        have : (some k == some u) = false := by simp [h1]
        rw [this] at hq
        exact hq
      · refine zp_iconst (v := (nI 1)) rfl (by decide +kernel) ?_
        refine zp_goto (tgt := 46) rfl rfl ?_
        refine zp_zret rfl rfl (by decide) ?_
        have : (some k == some u) = true := by simp [h1]
        rw [this] at hq
        exact hq
  have loop : ∀ (n i : Nat) (ko : Option Nat), i + n = 12 → (∀ k, ko = some k → k < 12) → v_up V ko u n = v_und V c u → zp_wp X y_Mod_isUnder 5 [.ref r, .int (nI c), .int (nI u), .int (zf_o ko), .int (nI i)] [] h Q := by
    intro n
    induction n with
    | zero =>
      intro i ko hi hk he
      refine zp_iload rfl rfl ?_
      refine zp_bipush (v := (nI 12)) rfl (by decide +kernel) ?_
      refine zp_icmpN_ge (tgt := 36) rfl rfl (by omega) (by omega) (fun h1 => ?_) (fun h1 => ?_)
      · exact hend ko i hk (by rw [← he]; cases ko <;> rfl)
      · omega
    | succ n ih =>
      intro i ko hi hk he
      refine zp_iload rfl rfl ?_
      refine zp_bipush (v := (nI 12)) rfl (by decide +kernel) ?_
      refine zp_icmpN_ge (tgt := 36) rfl rfl (by omega) (by omega) (fun h1 => ?_) (fun h1 => ?_)
      · omega
      refine zp_iload_n rfl rfl ?_
      cases ko with
      | none =>
        refine zp_if_lt (tgt := 36) rfl rfl (fun h2 => ?_) (fun h2 => ?_)
        · exact hend none i hk (by rw [← he]; rfl)
        · exact absurd (by decide) h2
      | some k =>
        have hk := hk k rfl
        refine zp_if_lt (tgt := 36) rfl rfl (fun h2 => ?_) (fun h2 => ?_)
        · exact absurd h2 (nI_pos (by omega))
        refine zp_iload_n rfl rfl ?_
        refine zp_iload_n rfl rfl ?_
        refine zp_icmpN_eq (a := k) (b := u) (tgt := 36) rfl rfl (by omega) (by omega) (fun h3 => ?_) (fun h3 => ?_)
        · exact hend (some k) i (fun k' hk' => by cases hk'; exact hk) (by rw [← he]; simp [v_up, h3])
        refine zp_aload_n rfl rfl ?_
        refine zp_bipush (v := (nI 12)) rfl (by decide +kernel) ?_
        refine zp_iload_n (x := nI k) rfl rfl ?_
        first | refine zp_iaddN rfl ?_ | refine zp_iadd rfl rfl ?_
        refine zq_iald hS rfl (by first | assumption | exact ⟨by decide, rfl⟩) (by omega) (by decide) ?_
        refine zp_iconst (v := (nI 1)) rfl (by decide +kernel) ?_
        rw [hV.2.1 k hk]
        refine zp_isub (v := zf_o (v_pr (v_sp V k))) rfl (v_pr_sub _) ?_
        refine zp_istore_n_3 rfl rfl ?_
        first | refine zp_iincN_4 rfl rfl ?_ | refine zp_iinc_4 rfl rfl rfl ?_
        refine zp_goto (tgt := 5) rfl rfl ?_
        refine ih (i + 1) (v_pr (v_sp V k)) (by omega) (fun k' hk' => ?_) (by rw [← he]; simp [v_up, h3])
        have := hB.2.1 k hk
        cases hs : v_sp V k with
        | zero => rw [hs] at hk'; cases hk'
        | succ t => rw [hs] at hk'; cases hk'; omega
  refine zp_iload_n rfl rfl ?_
  refine zp_istore_n_3 rfl rfl ?_
  refine zp_iconst (v := (nI 0)) rfl (by decide +kernel) ?_
  refine zp_istore_4 rfl rfl ?_
  exact loop 12 0 (some c) rfl (fun k hk => by cases hk; exact hc) rfl
theorem s_Mod_areKin {c k : Nat} (hS : zs_H h) (hr : zs_I r 1704) (hV : zv_R V (ci h r)) (hB : zv_B V) (hc : c < 12) (hk : k < 12) (hq : Q (.inl (some (.int (zf_b (v_kin V c k))))) h) : zp_wm X y_Mod_areKin [.ref r, .int (nI c), .int (nI k)] h Q := by
  show zp_wp X y_Mod_areKin 0 [.ref r, .int (nI c), .int (nI k)] [] h Q
  unfold v_kin at hq
  refine zp_aload_n rfl rfl ?_
  refine zp_iload_n rfl rfl ?_
  refine zp_iload_n rfl rfl ?_
  refine zp_call rfl rfl (s_Mod_isUnder hS hr hV hB hc hk ?_)
  cases h1 : v_und V c k with
  | true =>
    rw [h1] at hq
    refine zp_if_ne (tgt := 18) rfl rfl (fun h2 => ?_) (fun h2 => ?_)
    · refine zp_iconst (v := (nI 1)) rfl (by decide +kernel) ?_
      refine zp_goto (tgt := 23) rfl rfl ?_
      refine zp_zret rfl rfl (by decide) ?_
      exact hq
    · exact absurd (Decidable.not_not.mp h2) (by decide)
  | false =>
    rw [h1] at hq
    refine zp_if_ne (tgt := 18) rfl rfl (fun h2 => ?_) (fun h2 => ?_)
    · exact absurd rfl h2
    refine zp_aload_n rfl rfl ?_
    refine zp_iload_n rfl rfl ?_
    refine zp_iload_n rfl rfl ?_
    refine zp_call rfl rfl (s_Mod_isUnder hS hr hV hB hk hc ?_)
    cases h3 : v_und V k c with
    | true =>
      rw [h3] at hq
      refine zp_if_eq (tgt := 22) rfl rfl (fun h4 => ?_) (fun h4 => ?_)
      · exact absurd h4 (by decide)
      refine zp_iconst (v := (nI 1)) rfl (by decide +kernel) ?_
      refine zp_goto (tgt := 23) rfl rfl ?_
      refine zp_zret rfl rfl (by decide) ?_
      exact hq
    | false =>
      rw [h3] at hq
      refine zp_if_eq (tgt := 22) rfl rfl (fun h4 => ?_) (fun h4 => ?_)
      · refine zp_iconst (v := (nI 0)) rfl (by decide +kernel) ?_
        refine zp_zret rfl rfl (by decide) ?_
        exact hq
      · exact absurd rfl h4
theorem zf_o_eq {c : Option Nat} {u : Nat} (hc : ∀ i, c = some i → i < 2 ^ 31) (hu : u < 2 ^ 31) : nI u = zf_o c ↔ c = some u := by
  cases c with
  | none =>
    refine ⟨fun q => ?_, fun q => by cases q⟩
    exact absurd (show (-1 : Int32) < 0 by decide) (by rw [show (-1 : Int32) = nI u from q.symm]; exact nI_pos hu)
  | some i =>
    have := nI_eq (a := u) (b := i) hu (hc i rfl)
    refine ⟨fun q => by rw [this.mp q], fun q => by cases q; rfl⟩
theorem s_Mod_isTaken {c name : Nat} {but : Option Nat} (hS : zs_H h) (hr : zs_I r 1704) (hV : zv_R V (ci h r)) (hB : zv_B V) (hc : c < 12) (hn : name < 2 ^ 31) (hb : ∀ i, but = some i → i < 2 ^ 31) (hq : Q (.inl (some (.int (zf_b (v_tak V c name but))))) h) : zp_wm X y_Mod_isTaken [.ref r, .int (nI c), .int (nI name), .int (zf_o but)] h Q := by
  show zp_wp X y_Mod_isTaken 0 [.ref r, .int (nI c), .int (nI name), .int (zf_o but), zm_mk, zm_mk] [] h Q
  unfold v_tak at hq
  generalize hpp : (fun m => v_mn V m == name && !(some m == but) && v_kin V c (v_ow V m)) = p at hq
  have loop : ∀ (k i : Nat) (is : Bool), i + k = 40 → (is || zf_any p i k) = zf_any p 0 40 → zp_wp X y_Mod_isTaken 6 [.ref r, .int (nI c), .int (nI name), .int (zf_o but), .int (zf_b is), .int (nI i)] [] h Q := by
    intro k
    induction k with
    | zero =>
      intro i is hi he
      refine zp_iload rfl rfl ?_
      refine zp_bipush (v := (nI 40)) rfl (by decide +kernel) ?_
      refine zp_icmpN_ge (tgt := 63) rfl rfl (by omega) (by omega) (fun h1 => ?_) (fun h1 => ?_)
      · refine zp_iload rfl rfl ?_
        refine zp_zret rfl rfl (by cases is <;> decide) ?_
        rw [← he] at hq
        simpa [zf_any] using hq
      · omega
    | succ k ih =>
      intro i is hi he
      have next : ∀ (d : Bool), d = (is || p i) → zp_wp X y_Mod_isTaken 55 [.ref r, .int (nI c), .int (nI name), .int (zf_o but), .int (zf_b is), .int (nI i)] [.int (zf_b d)] h Q := by
        intro d hd
        refine zp_istore_4 rfl rfl ?_
        first | refine zp_iincN_5 rfl rfl ?_ | refine zp_iinc_5 rfl rfl rfl ?_
        refine zp_goto (tgt := 6) rfl rfl ?_
        refine ih (i + 1) d (by omega) ?_
        rw [← he, hd]
        show (is || p i || zf_any p (i + 1) k) = (is || (p i || zf_any p (i + 1) k))
        rw [Bool.or_assoc]
      refine zp_iload rfl rfl ?_
      refine zp_bipush (v := (nI 40)) rfl (by decide +kernel) ?_
      refine zp_icmpN_ge (tgt := 63) rfl rfl (by omega) (by omega) (fun h1 => ?_) (fun h1 => ?_)
      · omega
      refine zp_iload rfl rfl ?_
      cases is with
      | true =>
        refine zp_if_ne (tgt := 50) rfl rfl (fun h2 => ?_) (fun h2 => ?_)
        · refine zp_iconst (v := (nI 1)) rfl (by decide +kernel) ?_
          refine zp_goto (tgt := 55) rfl rfl ?_
          exact next true rfl
        · exact absurd (Decidable.not_not.mp h2) (by decide)
      | false =>
        refine zp_if_ne (tgt := 50) rfl rfl (fun h2 => ?_) (fun h2 => ?_)
        · exact absurd rfl h2
        have hpi : p i = (v_mn V i == name && !(some i == but) && v_kin V c (v_ow V i)) := by rw [← hpp]
        refine zp_aload_n rfl rfl ?_
        refine zp_bipush (v := (nI 24)) rfl (by decide +kernel) ?_
        refine zp_iload rfl rfl ?_
        first | refine zp_iaddN rfl ?_ | refine zp_iadd rfl rfl ?_
        refine zq_iald hS rfl (by first | assumption | exact ⟨by decide, rfl⟩) (by omega) (by decide) ?_
        refine zp_iload_n rfl rfl ?_
        rw [hV.2.2.1 i (by omega)]
        have b1 := hB.2.2.1 i (by omega)
        have b2 := hB.2.2.2 i (by omega)
        refine zp_icmpN_ne (a := v_mn V i) (b := name) (tgt := 54) rfl rfl (by omega) hn (fun h3 => ?_) (fun h3 => ?_)
        · refine zp_iconst (v := (nI 0)) rfl (by decide +kernel) ?_
          exact next false (by rw [hpi]; simp [h3])
        refine zp_iload rfl rfl ?_
        refine zp_iload_n rfl rfl ?_
        refine zp_icmp_eq (tgt := 54) rfl rfl (fun h4 => ?_) (fun h4 => ?_)
        · refine zp_iconst (v := (nI 0)) rfl (by decide +kernel) ?_
          have h4 := (zf_o_eq hb (by omega)).mp h4
          exact next false (by rw [hpi, h4]; simp)
        have h4 : ¬ but = some i := fun q => h4 ((zf_o_eq hb (by omega)).mpr q)
        refine zp_aload_n rfl rfl ?_
        refine zp_iload_n rfl rfl ?_
        refine zp_aload_n rfl rfl ?_
        refine zp_bipush (v := (nI 64)) rfl (by decide +kernel) ?_
        refine zp_iload rfl rfl ?_
        first | refine zp_iaddN rfl ?_ | refine zp_iadd rfl rfl ?_
        refine zq_iald hS rfl (by first | assumption | exact ⟨by decide, rfl⟩) (by omega) (by decide) ?_
        rw [hV.2.2.2.1 i (by omega)]
        refine zp_call rfl rfl (s_Mod_areKin hS hr hV hB hc b2 ?_)
        have h5 : p i = v_kin V c (v_ow V i) := by
          rw [hpi]
          have : (some i == but) = false := by simp [Ne.symm h4]
          simp [h3, this]
        cases h6 : v_kin V c (v_ow V i) with
        | true =>
          refine zp_if_eq (tgt := 54) rfl rfl (fun h7 => ?_) (fun h7 => ?_)
          · exact absurd h7 (by decide)
          refine zp_iconst (v := (nI 1)) rfl (by decide +kernel) ?_
          refine zp_goto (tgt := 55) rfl rfl ?_
          exact next true (by rw [h5, h6]; rfl)
        | false =>
          refine zp_if_eq (tgt := 54) rfl rfl (fun h7 => ?_) (fun h7 => ?_)
          · refine zp_iconst (v := (nI 0)) rfl (by decide +kernel) ?_
            exact next false (by rw [h5, h6]; rfl)
          · exact absurd rfl h7
  refine zp_iconst (v := (nI 0)) rfl (by decide +kernel) ?_
  refine zp_istore_4 rfl rfl ?_
  refine zp_iconst (v := (nI 0)) rfl (by decide +kernel) ?_
  refine zp_istore_5 rfl rfl ?_
  exact loop 40 0 false rfl (Bool.false_or _)
theorem s_Mod_freeAt {fr n i : Nat} {p : Nat → Bool} (hS : zs_H h) (hr : zs_I r 1704) (hf : fr + n ≤ 1704) (hp : ∀ i, i < n → (ci h r (fr + i) = 0 ↔ p i = true)) (hi : zf_fst p 0 n = some i) (hq : Q (.inl (some (.int (nI i)))) h) : zp_wm X y_Mod_freeAt [.ref r, .int (nI fr)] h Q := by
  show zp_wp X y_Mod_freeAt 0 [.ref r, .int (nI fr), zm_mk] [] h Q
  have loop : ∀ k j : Nat, j + k = n → zf_fst p j k = some i → zp_wp X y_Mod_freeAt 2 [.ref r, .int (nI fr), .int (nI j)] [] h Q := by
    intro k
    induction k with
    | zero => intro j _ he; cases he
    | succ k ih =>
      intro j hj he
      refine zp_aload_n rfl rfl ?_
      refine zp_iload_n rfl rfl ?_
      refine zp_iload_n rfl rfl ?_
      first | refine zp_iaddN rfl ?_ | refine zp_iadd rfl rfl ?_
      refine zq_iald hS rfl (by first | assumption | exact ⟨by decide, rfl⟩) (by omega) (by decide) ?_
      have hz := hp j (by omega)
      refine zp_if_eq (tgt := 16) rfl rfl (fun h1 => ?_) (fun h1 => ?_)
      · refine zp_iload_n rfl rfl ?_
        refine zp_iret rfl rfl ?_
        rw [zf_fst_t (hz.mp h1)] at he
        cases he
        exact hq
      · first | refine zp_iincN_2 rfl rfl ?_ | refine zp_iinc_2 rfl rfl rfl ?_
        refine zp_goto (tgt := 2) rfl rfl ?_
        refine ih (j + 1) (by omega) ?_
        cases hpj : p j with
        | true => exact absurd (hz.mpr hpj) h1
        | false => rw [zf_fst_f hpj] at he; exact he
  refine zp_iconst (v := (nI 0)) rfl (by decide +kernel) ?_
  refine zp_istore_n_2 rfl rfl ?_
  exact loop n 0 (by omega) hi
end ZR2
end
section
/-! the reference: changes of a row -/
theorem zs_I_ne {r n q c : Nat} {rs : List (Option Nat)} (h1 : zs_I r n) (h2 : zs_O q c rs) : r ≠ q := by
  intro e
  subst e
  have h3 := h1.2.symm.trans h2.2
  cases h3
abbrev a_Mo : List (Option Nat) := [some 172, some 173, some 174, some 175, some 176, some 177, some 178, some 179, none, none, none, some 180, some 181, some 182, some 183, some 184, some 185, some 186, some 187, some 188, none, none, none, none, none]
theorem zs_M : zs_O 171 7 a_Mo := ⟨by decide, rfl⟩
/-- behind a change that was tried on the row r: what the row holds, what was added -/
def zr_post (V : zv) (ad : Option Nat) (r : Nat) (h h' : zm_H) : Prop := zs_H h' ∧ zh_eq (fun x => x = r ∨ x = 171) h h' ∧ zv_R V (ci h' r) ∧ cf h' 171 10 = zf_o ad ∧ ∀ j, j ≠ 10 → cf h' 171 j = cf h 171 j
theorem zv_R1 {V : zv} {A : Nat → Int32} {c x : Nat} (hV : zv_R V A) (hc : c < 12) : zv_R (v_set1 V c x) (upd A c (nI x)) := by
  obtain ⟨h1, h2, h3, h4, h5⟩ := hV
  refine ⟨fun i hi => ?_, fun i hi => ?_, fun i hi => ?_, fun i hi => ?_, fun i k hi hk => ?_⟩
  · by_cases e : i = c
    · subst e; rw [pk_us]; simp [v_set1, v_cn, va_up]
    · rw [pk_un e, h1 i hi]; simp [v_set1, v_cn, va_up, e]
  · rw [pk_un (by omega)]; exact h2 i hi
  · rw [pk_un (by omega)]; exact h3 i hi
  · rw [pk_un (by omega)]; exact h4 i hi
  · rw [pk_un (by omega)]; exact h5 i k hi hk
theorem zv_R2 {V : zv} {A : Nat → Int32} {c x : Nat} (hV : zv_R V A) (hc : c < 12) : zv_R (v_set2 V c x) (upd A (12 + c) (nI x)) := by
  obtain ⟨h1, h2, h3, h4, h5⟩ := hV
  refine ⟨fun i hi => ?_, fun i hi => ?_, fun i hi => ?_, fun i hi => ?_, fun i k hi hk => ?_⟩
  · rw [pk_un (by omega)]; exact h1 i hi
  · by_cases e : i = c
    · subst e; rw [pk_us]; simp [v_set2, v_sp, va_up]
    · rw [pk_un (by omega), h2 i hi]; simp [v_set2, v_sp, va_up, e]
  · rw [pk_un (by omega)]; exact h3 i hi
  · rw [pk_un (by omega)]; exact h4 i hi
  · rw [pk_un (by omega)]; exact h5 i k hi hk
theorem zv_R3 {V : zv} {A : Nat → Int32} {c x : Nat} (hV : zv_R V A) (hc : c < 40) : zv_R (v_set3 V c x) (upd A (24 + c) (nI x)) := by
  obtain ⟨h1, h2, h3, h4, h5⟩ := hV
  refine ⟨fun i hi => ?_, fun i hi => ?_, fun i hi => ?_, fun i hi => ?_, fun i k hi hk => ?_⟩
  · rw [pk_un (by omega)]; exact h1 i hi
  · rw [pk_un (by omega)]; exact h2 i hi
  · by_cases e : i = c
    · subst e; rw [pk_us]; simp [v_set3, v_mn, va_up]
    · rw [pk_un (by omega), h3 i hi]; simp [v_set3, v_mn, va_up, e]
  · rw [pk_un (by omega)]; exact h4 i hi
  · rw [pk_un (by omega)]; exact h5 i k hi hk
theorem zv_R4 {V : zv} {A : Nat → Int32} {c x : Nat} (hV : zv_R V A) (hc : c < 40) : zv_R (v_set4 V c x) (upd A (64 + c) (nI x)) := by
  obtain ⟨h1, h2, h3, h4, h5⟩ := hV
  refine ⟨fun i hi => ?_, fun i hi => ?_, fun i hi => ?_, fun i hi => ?_, fun i k hi hk => ?_⟩
  · rw [pk_un (by omega)]; exact h1 i hi
  · rw [pk_un (by omega)]; exact h2 i hi
  · rw [pk_un (by omega)]; exact h3 i hi
  · by_cases e : i = c
    · subst e; rw [pk_us]; simp [v_set4, v_ow, va_up]
    · rw [pk_un (by omega), h4 i hi]; simp [v_set4, v_ow, va_up, e]
  · rw [pk_un (by omega)]; exact h5 i k hi hk
theorem zv_R5 {V : zv} {A : Nat → Int32} {m n : Nat} {b : Bool} (hV : zv_R V A) (hm : m < 40) (hn : n < 40) : zv_R (v_set5 V m n b) (upd A (104 + 40 * m + n) (nI (cond b 1 0))) := by
  obtain ⟨h1, h2, h3, h4, h5⟩ := hV
  refine ⟨fun i hi => ?_, fun i hi => ?_, fun i hi => ?_, fun i hi => ?_, fun i k hi hk => ?_⟩
  · rw [pk_un (by omega)]; exact h1 i hi
  · rw [pk_un (by omega)]; exact h2 i hi
  · rw [pk_un (by omega)]; exact h3 i hi
  · rw [pk_un (by omega)]; exact h4 i hi
  · by_cases e : i = m
    · subst e
      by_cases e2 : k = n
      · subst e2; rw [pk_us]; simp [v_set5, v_us, va_up]
      · rw [pk_un (by omega), h5 i k hi hk]; simp [v_set5, v_us, va_up, e2]
    · rw [pk_un (by omega), h5 i k hi hk]; simp [v_set5, v_us, va_up, e]
theorem zv_R_eq {V : zv} {A B : Nat → Int32} (hV : zv_R V A) (he : B = A) : zv_R V B := by rw [he]; exact hV
section ZR3
variable {X : zm_X} {h : zm_H} {Q : zm_O → zm_H → Prop} {V : zv} {r : Nat}
theorem zr_same {V : zv} (hS : zs_H h) (hV : zv_R V (ci h r)) (had : cf h 171 10 = -1) : zr_post V none r h h := ⟨hS, zh_eq.rf, hV, had, fun _ _ => rfl⟩
theorem zv_cz {A : Nat → Int32} (hV : zv_R V A) (hB : zv_B V) : (∀ i, i < 12 → (A (0 + i) = 0 ↔ v_cn V i = 0)) ∧ (∀ i, i < 40 → (A (24 + i) = 0 ↔ v_mn V i = 0)) := by
  constructor
  · intro i hi
    rw [Nat.zero_add, hV.1 i hi, ← nI_0]
    exact nI_eq (by have := hB.1 i hi; omega) (by decide)
  · intro i hi
    rw [hV.2.2.1 i hi, ← nI_0]
    exact nI_eq (by have := hB.2.2.1 i hi; omega) (by decide)
theorem s_Mod_addsClass {c : Option Nat} {a : Nat} (hS : zs_H h) (hr : zs_I r 1704) (hV : zv_R V (ci h r)) (hB : zv_B V) (hc : ∀ i, c = some i → i < 12) (had : cf h 171 10 = -1) (hq : ∀ h', zr_post (v_addC V c a).2.1 (v_addC V c a).2.2 r h h' → Q (.inl (some (.int (nI (v_addC V c a).1)))) h') : zp_wm X y_Mod_addsClass [.ref 171, .ref r, .int (zf_o c), .int (nI a)] h Q := by
  show zp_wp X y_Mod_addsClass 0 [.ref 171, .ref r, .int (zf_o c), .int (nI a)] [] h Q
  have hne := zs_I_ne hr zs_M
  refine zp_iload_n rfl rfl ?_
  cases c with
  | some i =>
    have hi := hc i rfl
    refine zp_if_lt (tgt := 6) rfl rfl (fun h1 => ?_) (fun h1 => ?_)
    · exact absurd h1 (nI_pos (by omega))
    refine zp_iconst (v := (nI 1)) rfl (by decide +kernel) ?_
    refine zp_iret rfl rfl ?_
    exact hq h (zr_same hS hV had)
  | none =>
    refine zp_if_lt (tgt := 6) rfl rfl (fun h1 => ?_) (fun h1 => ?_)
    · refine zp_aload_n rfl rfl ?_
      refine zp_iconst (v := (nI 0)) rfl (by decide +kernel) ?_
      refine zp_bipush (v := (nI 12)) rfl (by decide +kernel) ?_
      refine zp_call rfl rfl (s_Mod_countOf (p := fun i => !(v_cn V i == 0)) hS hr (by decide) (fun i hi => by rw [(zv_cz hV hB).1 i hi]; simp) ?_)
      refine zp_bipush (v := (nI 12)) rfl (by decide +kernel) ?_
      have hle := zf_ct_le (fun i => !(v_cn V i == 0)) 12 0
      refine zp_icmpN_ne (a := v_nc V) (b := 12) (tgt := 21) rfl rfl (by unfold v_nc; omega) (by decide) (fun h2 => ?_) (fun h2 => ?_)
      · refine zp_aload_n rfl rfl ?_
        refine zp_aload_n rfl rfl ?_
        refine zp_iconst (v := (nI 0)) rfl (by decide +kernel) ?_
        have hex : ∃ i, zf_fst (fun i => v_cn V i == 0) 0 12 = some i := by
          cases hz : zf_fst (fun i => v_cn V i == 0) 0 12 with
          | some i => exact ⟨i, rfl⟩
          | none =>
            have hn := zf_fst_none hz
            refine absurd ?_ h2
            have e1 : ∀ k c, c + k = 12 → zf_ct (fun i => !(v_cn V i == 0)) c k = k := by
              intro k
              induction k with
              | zero => intro c _; rfl
              | succ k ih =>
                intro c hc
                have := hn c (by omega) (by omega)
                unfold zf_ct
                rw [ih (c + 1) (by omega), this]
                simp; omega
            exact e1 12 0 rfl
        obtain ⟨i, hi⟩ := hex
        have hi12 : i < 12 := by have := (zf_fst_some hi).2.1; omega
        refine zp_call rfl rfl (s_Mod_freeAt (n := 12) hS hr (by decide) (fun j hj => by rw [(zv_cz hV hB).1 j hj]; simp) hi ?_)
        refine zq_put hS rfl zs_M rfl rfl (fun hS1 => ?_)
        have hg := zf_at (x := nI i) hS zs_M (j := 10) rfl
        have hci : ci (zf_put h 171 10 (nI i)) r = ci h r := zf_ci hne
        generalize hh1 : zf_put h 171 10 (nI i) = h1' at hS1 hg hci ⊢
        have e1 : zh_eq (fun x => x = r ∨ x = 171) h h1' := by rw [← hh1]; exact zh_eq.rf.zf (Or.inr rfl)
        have f1 : ∀ j, j ≠ 10 → cf h1' 171 j = cf h 171 j := fun j hj => by rw [← hh1]; exact zf_nj hj
        refine zp_aload_n rfl rfl ?_
        refine zp_aload_n rfl rfl ?_
        refine zq_geti hS1 rfl zs_M rfl ?_
        rw [hg]
        refine zp_iload_n rfl rfl ?_
        refine zq_iast hS1 rfl hr (by omega) (by decide) (fun hS2 => ?_)
        have hg2 : cf (zi_put h1' r (upd (ci h1' r) i (nI a))) 171 10 = nI i := by rw [zi_cf (Ne.symm hne)]; exact hg
        have hci2 : ci (zi_put h1' r (upd (ci h1' r) i (nI a))) r = upd (ci h r) i (nI a) := by rw [zi_at, hci]
        have e2 := e1.zi (f := upd (ci h1' r) i (nI a)) (Or.inl (rfl : r = r))
        have f2 : ∀ j, j ≠ 10 → cf (zi_put h1' r (upd (ci h1' r) i (nI a))) 171 j = cf h 171 j := fun j hj => by rw [zi_cf (Ne.symm hne)]; exact f1 j hj
        generalize zi_put h1' r (upd (ci h1' r) i (nI a)) = h2' at hS2 hg2 hci2 e2 f2 ⊢
        refine zp_aload_n rfl rfl ?_
        refine zp_bipush (v := (nI 12)) rfl (by decide +kernel) ?_
        refine zp_aload_n rfl rfl ?_
        refine zq_geti hS2 rfl zs_M rfl ?_
        rw [hg2]
        refine zp_iaddN rfl ?_
        refine zp_iconst (v := (nI 0)) rfl (by decide +kernel) ?_
        refine zq_iast hS2 rfl hr (by omega) (by decide) (fun hS3 => ?_)
        refine zp_iconst (v := (nI 0)) rfl (by decide +kernel) ?_
        refine zp_iret rfl rfl ?_
        have hv : v_addC V none a = (0, v_set2 (v_set1 V i a) i 0, some i) := by
          unfold v_addC
          rw [if_neg (by simp), if_neg h2, hi]
        rw [hv] at hq
        refine hq _ ⟨hS3, e2.zi (Or.inl rfl), ?_, by rw [zi_cf (Ne.symm hne)]; exact hg2, fun j hj => by rw [zi_cf (Ne.symm hne)]; exact f2 j hj⟩
        rw [zi_at, hci2]
        exact zv_R2 (zv_R1 hV hi12) hi12
      · refine zp_bipush (v := (nI 9)) rfl (by decide +kernel) ?_
        refine zp_iret rfl rfl ?_
        have hv : v_addC V none a = (9, V, none) := by
          unfold v_addC
          rw [if_neg (by simp), if_pos h2]
        rw [hv] at hq
        exact hq h (zr_same hS hV had)
    · exact absurd (by decide) h1
theorem s_Mod_renamesClass {c : Option Nat} {b : Nat} (hS : zs_H h) (hr : zs_I r 1704) (hV : zv_R V (ci h r)) (hB : zv_B V) (hc : ∀ i, c = some i → i < 12) (hb : b < 2 ^ 31) (had : cf h 171 10 = -1) (hq : ∀ h', zr_post (v_renC V c b).2.1 (v_renC V c b).2.2 r h h' → Q (.inl (some (.int (nI (v_renC V c b).1)))) h') : zp_wm X y_Mod_renamesClass [.ref 171, .ref r, .int (zf_o c), .int (nI b)] h Q := by
  show zp_wp X y_Mod_renamesClass 0 [.ref 171, .ref r, .int (zf_o c), .int (nI b)] [] h Q
  have hne := zs_I_ne hr zs_M
  refine zp_iload_n rfl rfl ?_
  cases c with
  | none =>
    refine zp_if_ge (tgt := 6) rfl rfl (fun h1 => ?_) (fun h1 => ?_)
    · exact absurd h1 (by decide)
    refine zp_iconst (v := (nI 2)) rfl (by decide +kernel) ?_
    refine zp_iret rfl rfl ?_
    exact hq h (zr_same hS hV had)
  | some c =>
    have hc := hc c rfl
    refine zp_if_ge (tgt := 6) rfl rfl (fun h1 => ?_) (fun h1 => ?_)
    · refine zp_aload_n rfl rfl ?_
      refine zp_iload_n rfl rfl ?_
      refine zp_call rfl rfl (t_Mod_classAt hS hr hV hB hb ?_)
      cases hz : v_cls V b with
      | some i =>
        have hi := (v_cls_lt hz).1
        refine zp_if_lt (tgt := 16) rfl rfl (fun h2 => ?_) (fun h2 => ?_)
        · exact absurd h2 (nI_pos (by omega))
        refine zp_iconst (v := (nI 1)) rfl (by decide +kernel) ?_
        refine zp_iret rfl rfl ?_
        have hv : v_renC V (some c) b = (1, V, none) := by simp [v_renC, hz]
        rw [hv] at hq
        exact hq h (zr_same hS hV had)
      | none =>
        refine zp_if_lt (tgt := 16) rfl rfl (fun h2 => ?_) (fun h2 => ?_)
        · refine zp_aload_n rfl rfl ?_
          refine zp_iload_n (x := nI c) rfl rfl ?_
          refine zp_iload_n rfl rfl ?_
          refine zq_iast hS rfl hr (by omega) (by decide) (fun hS1 => ?_)
          refine zp_iconst (v := (nI 0)) rfl (by decide +kernel) ?_
          refine zp_iret rfl rfl ?_
          have hv : v_renC V (some c) b = (0, v_set1 V c b, none) := by simp [v_renC, hz]
          rw [hv] at hq
          refine hq _ ⟨hS1, zh_eq.rf.zi (Or.inl rfl), ?_, by rw [zi_cf (Ne.symm hne)]; exact had, fun j hj => by rw [zi_cf (Ne.symm hne)]⟩
          rw [zi_at]
          exact zv_R1 hV hc
        · exact absurd (by decide) h2
    · exact absurd (nI_pos' (by omega)) h1
theorem s_Mod_removesClass {c : Option Nat} (hS : zs_H h) (hr : zs_I r 1704) (hV : zv_R V (ci h r)) (hB : zv_B V) (hc : ∀ i, c = some i → i < 12) (had : cf h 171 10 = -1) (hq : ∀ h', zr_post (v_remC V c).2.1 (v_remC V c).2.2 r h h' → Q (.inl (some (.int (nI (v_remC V c).1)))) h') : zp_wm X y_Mod_removesClass [.ref 171, .ref r, .int (zf_o c)] h Q := by
  show zp_wp X y_Mod_removesClass 0 [.ref 171, .ref r, .int (zf_o c), zm_mk] [] h Q
  have hne := zs_I_ne hr zs_M
  refine zp_iload_n rfl rfl ?_
  cases c with
  | none =>
    refine zp_if_ge (tgt := 6) rfl rfl (fun h1 => ?_) (fun h1 => ?_)
    · exact absurd h1 (by decide)
    refine zp_iconst (v := (nI 2)) rfl (by decide +kernel) ?_
    refine zp_iret rfl rfl ?_
    exact hq h (zr_same hS hV had)
  | some c =>
    have hc := hc c rfl
    refine zp_if_ge (tgt := 6) rfl rfl (fun h1 => ?_) (fun h1 => ?_)
    · have loop2 : ∀ k i : Nat, i + k = 12 → zf_any (fun k => !(v_mn V k == 0) && v_ow V k == c) 0 40 = false → zf_any (fun k => !(v_cn V k == 0) && v_sp V k == c + 1) 0 12 = zf_any (fun k => !(v_cn V k == 0) && v_sp V k == c + 1) i k → zp_wp X y_Mod_removesClass 43 [.ref 171, .ref r, .int (nI c), .int (nI i)] [] h Q := by
        intro k
        induction k with
        | zero =>
          intro i hi h0 he
          refine zp_iload_n rfl rfl ?_
          refine zp_bipush (v := (nI 12)) rfl (by decide +kernel) ?_
          refine zp_icmpN_ge (tgt := 75) rfl rfl (by omega) (by omega) (fun h2 => ?_) (fun h2 => ?_)
          · refine zp_aload_n rfl rfl ?_
            refine zp_iload_n rfl rfl ?_
            refine zp_iconst (v := (nI 0)) rfl (by decide +kernel) ?_
            refine zq_iast hS rfl hr (by omega) (by decide) (fun hS1 => ?_)
            refine zp_iconst (v := (nI 0)) rfl (by decide +kernel) ?_
            refine zp_iret rfl rfl ?_
            have hv : v_remC V (some c) = (0, v_set1 V c 0, none) := by
              simp only [v_remC]
              rw [h0, he]
              rfl
            rw [hv] at hq
            refine hq _ ⟨hS1, zh_eq.rf.zi (Or.inl rfl), ?_, by rw [zi_cf (Ne.symm hne)]; exact had, fun j hj => by rw [zi_cf (Ne.symm hne)]⟩
            rw [zi_at]
            exact zv_R1 hV hc
          · omega
        | succ k ih =>
          intro i hi h0 he
          have b1 := hB.1 i (by omega)
          have b2 := hB.2.1 i (by omega)
          refine zp_iload_n rfl rfl ?_
          refine zp_bipush (v := (nI 12)) rfl (by decide +kernel) ?_
          refine zp_icmpN_ge (tgt := 75) rfl rfl (by omega) (by omega) (fun h2 => ?_) (fun h2 => ?_)
          · omega
          refine zp_aload_n rfl rfl ?_
          refine zp_iload_n rfl rfl ?_
          refine zq_iald hS rfl (by first | assumption | exact ⟨by decide, rfl⟩) (by omega) (by decide) ?_
          rw [hV.1 i (by omega)]
          refine zp_if_eq (tgt := 69) rfl rfl (fun h3 => ?_) (fun h3 => ?_)
          · first | refine zp_iincN_3 rfl rfl ?_ | refine zp_iinc_3 rfl rfl rfl ?_
            refine zp_goto (tgt := 43) rfl rfl ?_
            have h3 : v_cn V i = 0 := by rw [← nI_0] at h3; exact (nI_eq (by omega) (by decide)).mp h3
            exact ih (i + 1) (by omega) h0 (by rw [he]; simp [zf_any, h3])
          have h3 : ¬ v_cn V i = 0 := fun q => h3 (by rw [q]; exact nI_0)
          refine zp_aload_n rfl rfl ?_
          refine zp_bipush (v := (nI 12)) rfl (by decide +kernel) ?_
          refine zp_iload_n rfl rfl ?_
          first | refine zp_iaddN rfl ?_ | refine zp_iadd rfl rfl ?_
          refine zq_iald hS rfl (by first | assumption | exact ⟨by decide, rfl⟩) (by omega) (by decide) ?_
          rw [hV.2.1 i (by omega)]
          refine zp_iload_n (x := nI c) rfl rfl ?_
          refine zp_iconst (v := (nI 1)) rfl (by decide +kernel) ?_
          first | refine zp_iaddN rfl ?_ | refine zp_iadd rfl rfl ?_
          refine zp_icmpN_ne (a := v_sp V i) (b := c + 1) (tgt := 69) rfl rfl (by omega) (by omega) (fun h4 => ?_) (fun h4 => ?_)
          · first | refine zp_iincN_3 rfl rfl ?_ | refine zp_iinc_3 rfl rfl rfl ?_
            refine zp_goto (tgt := 43) rfl rfl ?_
            exact ih (i + 1) (by omega) h0 (by rw [he]; simp [zf_any, h4])
          · refine zp_iconst (v := (nI 3)) rfl (by decide +kernel) ?_
            refine zp_iret rfl rfl ?_
            have hv : v_remC V (some c) = (3, V, none) := by
              simp only [v_remC]
              rw [h0, he]
              simp [zf_any, h3, h4]
            rw [hv] at hq
            exact hq h (zr_same hS hV had)
      have loop1 : ∀ k i : Nat, i + k = 40 → zf_any (fun k => !(v_mn V k == 0) && v_ow V k == c) 0 40 = zf_any (fun k => !(v_mn V k == 0) && v_ow V k == c) i k → zp_wp X y_Mod_removesClass 8 [.ref 171, .ref r, .int (nI c), .int (nI i)] [] h Q := by
        intro k
        induction k with
        | zero =>
          intro i hi he
          refine zp_iload_n rfl rfl ?_
          refine zp_bipush (v := (nI 40)) rfl (by decide +kernel) ?_
          refine zp_icmpN_ge (tgt := 41) rfl rfl (by omega) (by omega) (fun h2 => ?_) (fun h2 => ?_)
          · refine zp_iconst (v := (nI 0)) rfl (by decide +kernel) ?_
            refine zp_istore_n_3 rfl rfl ?_
            exact loop2 12 0 rfl he rfl
          · omega
        | succ k ih =>
          intro i hi he
          have b1 := hB.2.2.1 i (by omega)
          have b2 := hB.2.2.2 i (by omega)
          refine zp_iload_n rfl rfl ?_
          refine zp_bipush (v := (nI 40)) rfl (by decide +kernel) ?_
          refine zp_icmpN_ge (tgt := 41) rfl rfl (by omega) (by omega) (fun h2 => ?_) (fun h2 => ?_)
          · omega
          refine zp_aload_n rfl rfl ?_
          refine zp_bipush (v := (nI 24)) rfl (by decide +kernel) ?_
          refine zp_iload_n rfl rfl ?_
          first | refine zp_iaddN rfl ?_ | refine zp_iadd rfl rfl ?_
          refine zq_iald hS rfl (by first | assumption | exact ⟨by decide, rfl⟩) (by omega) (by decide) ?_
          rw [hV.2.2.1 i (by omega)]
          refine zp_if_eq (tgt := 35) rfl rfl (fun h3 => ?_) (fun h3 => ?_)
          · first | refine zp_iincN_3 rfl rfl ?_ | refine zp_iinc_3 rfl rfl rfl ?_
            refine zp_goto (tgt := 8) rfl rfl ?_
            have h3 : v_mn V i = 0 := by rw [← nI_0] at h3; exact (nI_eq (by omega) (by decide)).mp h3
            exact ih (i + 1) (by omega) (by rw [he]; simp [zf_any, h3])
          have h3 : ¬ v_mn V i = 0 := fun q => h3 (by rw [q]; exact nI_0)
          refine zp_aload_n rfl rfl ?_
          refine zp_bipush (v := (nI 64)) rfl (by decide +kernel) ?_
          refine zp_iload_n rfl rfl ?_
          first | refine zp_iaddN rfl ?_ | refine zp_iadd rfl rfl ?_
          refine zq_iald hS rfl (by first | assumption | exact ⟨by decide, rfl⟩) (by omega) (by decide) ?_
          rw [hV.2.2.2.1 i (by omega)]
          refine zp_iload_n (x := nI c) rfl rfl ?_
          refine zp_icmpN_ne (a := v_ow V i) (b := c) (tgt := 35) rfl rfl (by omega) (by omega) (fun h4 => ?_) (fun h4 => ?_)
          · first | refine zp_iincN_3 rfl rfl ?_ | refine zp_iinc_3 rfl rfl rfl ?_
            refine zp_goto (tgt := 8) rfl rfl ?_
            exact ih (i + 1) (by omega) (by rw [he]; simp [zf_any, h4])
          · refine zp_iconst (v := (nI 3)) rfl (by decide +kernel) ?_
            refine zp_iret rfl rfl ?_
            have hv : v_remC V (some c) = (3, V, none) := by
              simp only [v_remC]
              rw [he]
              simp [zf_any, h3, h4]
            rw [hv] at hq
            exact hq h (zr_same hS hV had)
      refine zp_iconst (v := (nI 0)) rfl (by decide +kernel) ?_
      refine zp_istore_n_3 rfl rfl ?_
      exact loop1 40 0 rfl rfl
    · exact absurd (nI_pos' (by omega)) h1
end ZR3
end
section
/-! the reference: changes of a row, on -/
theorem zf_any_t {p : Nat → Bool} {c k : Nat} (h : p c = true) : zf_any p c (k + 1) = true := by show (p c || zf_any p (c + 1) k) = _; rw [h]; rfl
theorem zf_any_f {p : Nat → Bool} {c k : Nat} (h : p c = false) : zf_any p c (k + 1) = zf_any p (c + 1) k := by show (p c || zf_any p (c + 1) k) = _; rw [h]; rfl
section ZR4
variable {X : zm_X} {h : zm_H} {Q : zm_O → zm_H → Prop} {V : zv} {r : Nat}
/-- one more store into the row -/
theorem zr_put {V' : zv} {f : Nat → Int32} (hr : zs_I r 1704) (hS1 : zs_H (zi_put h r f)) (had : cf h 171 10 = -1) (hV : zv_R V' f) : zr_post V' none r h (zi_put h r f) := by
  have hne := zs_I_ne hr zs_M
  exact ⟨hS1, zh_eq.rf.zi (Or.inl rfl), by rw [zi_at]; exact hV, by rw [zi_cf (Ne.symm hne)]; exact had, fun j _ => by rw [zi_cf (Ne.symm hne)]⟩
theorem s_Mod_setsSuper {c : Option Nat} {b : Nat} (hS : zs_H h) (hr : zs_I r 1704) (hV : zv_R V (ci h r)) (hB : zv_B V) (hc : ∀ i, c = some i → i < 12) (hb : b < 2 ^ 31) (had : cf h 171 10 = -1) (hq : ∀ h', zr_post (v_supC V c b).2.1 (v_supC V c b).2.2 r h h' → Q (.inl (some (.int (nI (v_supC V c b).1)))) h') : zp_wm X y_Mod_setsSuper [.ref 171, .ref r, .int (zf_o c), .int (nI b)] h Q := by
  show zp_wp X y_Mod_setsSuper 0 [.ref 171, .ref r, .int (zf_o c), .int (nI b), zm_mk, zm_mk, zm_mk] [] h Q
  have hne := zs_I_ne hr zs_M
  refine zp_aload_n rfl rfl ?_
  refine zp_iload_n rfl rfl ?_
  refine zp_call rfl rfl (t_Mod_classAt hS hr hV hB hb ?_)
  refine zp_istore_4 rfl rfl ?_
  refine zp_iload_n rfl rfl ?_
  cases c with
  | none =>
    refine zp_if_lt (tgt := 20) rfl rfl (fun h1 => ?_) (fun h1 => ?_)
    · refine zp_iconst (v := (nI 2)) rfl (by decide +kernel) ?_
      refine zp_iret rfl rfl ?_
      exact hq h (zr_same hS hV had)
    · exact absurd (by decide) h1
  | some c =>
    have hc := hc c rfl
    refine zp_if_lt (tgt := 20) rfl rfl (fun h1 => ?_) (fun h1 => ?_)
    · exact absurd h1 (nI_pos (by omega))
    have fin : ∀ (s9 : Option Nat) (x : Nat) (j : Value), zm_pv [.ref 171, .ref r, .int (nI c), .int (nI b), .int (zf_o s9), j] 5 = true → zf_o s9 + nI 1 = nI x → v_supC V (some c) b = (0, v_set2 V c x, none) → ∀ o : Value, zp_wp X y_Mod_setsSuper 136 [.ref 171, .ref r, .int (nI c), .int (nI b), .int (zf_o s9), j, o] [] h Q := by
      intro s9 x j _ hx hv o
      refine zp_aload_n rfl rfl ?_
      refine zp_bipush (v := (nI 12)) rfl (by decide +kernel) ?_
      refine zp_iload_n (x := nI c) rfl rfl ?_
      refine zp_iaddN rfl ?_
      refine zp_iload rfl rfl ?_
      refine zp_iconst (v := (nI 1)) rfl (by decide +kernel) ?_
      refine zp_iadd (v := nI x) rfl hx ?_
      refine zq_iast hS rfl hr (by omega) (by decide) (fun hS1 => ?_)
      refine zp_iconst (v := (nI 0)) rfl (by decide +kernel) ?_
      refine zp_iret rfl rfl ?_
      rw [hv] at hq
      exact hq _ (zr_put hr hS1 had (zv_R2 hV hc))
    refine zp_iload_n rfl rfl ?_
    cases hz : v_cls V b with
    | none =>
      refine zp_if_eq (tgt := 22) rfl rfl (fun h2 => ?_) (fun h2 => ?_)
      · have hb0 : b = 0 := by rw [← nI_0] at h2; exact (nI_eq hb (by decide)).mp h2
        refine zp_iload rfl rfl ?_
        refine zp_if_lt (tgt := 39) rfl rfl (fun h3 => ?_) (fun h3 => ?_)
        · refine zp_iconst (v := (nI 0)) rfl (by decide +kernel) ?_
          refine zp_istore_5 rfl rfl ?_
          refine zp_iload rfl rfl ?_
          refine zp_bipush (v := (nI 40)) rfl (by decide +kernel) ?_
          refine zp_icmpN_ge (tgt := 136) rfl rfl (by omega) (by omega) (fun h4 => ?_) (fun h4 => ?_)
          · omega
          refine zp_iload rfl rfl ?_
          refine zp_if_lt (tgt := 136) rfl rfl (fun h5 => ?_) (fun h5 => ?_)
          · exact fin none 0 _ rfl (by decide +kernel) (by simp only [v_supC, hz]; rw [if_pos hb0]) _
          · exact absurd (by decide) h5
        · exact absurd (by decide) h3
      · have hb0 : ¬ b = 0 := fun q => h2 (by rw [q]; exact nI_0)
        refine zp_iload rfl rfl ?_
        refine zp_if_ge (tgt := 22) rfl rfl (fun h3 => ?_) (fun h3 => ?_)
        · exact absurd h3 (by decide)
        refine zp_iconst (v := (nI 2)) rfl (by decide +kernel) ?_
        refine zp_iret rfl rfl ?_
        have hv : v_supC V (some c) b = (2, V, none) := by simp [v_supC, hz, hb0]
        rw [hv] at hq
        exact hq h (zr_same hS hV had)
    | some s =>
      have hs := (v_cls_lt hz).1
      have hbn := (v_cls_lt hz).2.2
      refine zp_if_eq (tgt := 22) rfl rfl (fun h2 => ?_) (fun h2 => ?_)
      · exact absurd (by rw [← nI_0] at h2; exact (nI_eq hb (by decide)).mp h2) hbn
      refine zp_iload rfl rfl ?_
      refine zp_if_ge (tgt := 22) rfl rfl (fun h3 => ?_) (fun h3 => ?_)
      · refine zp_iload rfl rfl ?_
        refine zp_if_lt (tgt := 39) rfl rfl (fun h4 => ?_) (fun h4 => ?_)
        · exact absurd h4 (nI_pos (by omega))
        refine zp_aload_n rfl rfl ?_
        refine zp_iload rfl rfl ?_
        refine zp_iload_n rfl rfl ?_
        refine zp_call rfl rfl (s_Mod_isUnder hS hr hV hB hs hc ?_)
        cases hu : v_und V s c with
        | true =>
          refine zp_if_eq (tgt := 39) rfl rfl (fun h5 => ?_) (fun h5 => ?_)
          · exact absurd h5 (by decide)
          refine zp_iconst (v := (nI 4)) rfl (by decide +kernel) ?_
          refine zp_iret rfl rfl ?_
          have hv : v_supC V (some c) b = (4, V, none) := by simp [v_supC, hz, hu]
          rw [hv] at hq
          exact hq h (zr_same hS hV had)
        | false =>
          refine zp_if_eq (tgt := 39) rfl rfl (fun h5 => ?_) (fun h5 => ?_)
          · have outer : ∀ k i : Nat, i + k = 40 → zf_any (fun k => !(v_mn V k == 0) && v_und V (v_ow V k) c && zf_any (fun o => v_mn V o == v_mn V k && v_und V s (v_ow V o)) 0 40) 0 40 = zf_any (fun k => !(v_mn V k == 0) && v_und V (v_ow V k) c && zf_any (fun o => v_mn V o == v_mn V k && v_und V s (v_ow V o)) 0 40) i k → ∀ oo : Value, zp_wp X y_Mod_setsSuper 42 [.ref 171, .ref r, .int (nI c), .int (nI b), .int (nI s), .int (nI i), oo] [] h Q := by
              intro k
              induction k with
              | zero =>
                intro i hi he oo
                refine zp_iload rfl rfl ?_
                refine zp_bipush (v := (nI 40)) rfl (by decide +kernel) ?_
                refine zp_icmpN_ge (tgt := 136) rfl rfl (by omega) (by omega) (fun h6 => ?_) (fun h6 => ?_)
                · exact fin (some s) (s + 1) _ rfl (nI_add s 1) (by simp only [v_supC, hz, hu]; rw [he]; rfl) _
                · omega
              | succ k ih =>
                intro i hi he oo
                have b1 := hB.2.2.1 i (by omega)
                have b2 := hB.2.2.2 i (by omega)
                refine zp_iload rfl rfl ?_
                refine zp_bipush (v := (nI 40)) rfl (by decide +kernel) ?_
                refine zp_icmpN_ge (tgt := 136) rfl rfl (by omega) (by omega) (fun h6 => ?_) (fun h6 => ?_)
                · omega
                refine zp_iload rfl rfl ?_
                refine zp_if_lt (tgt := 136) rfl rfl (fun h7 => ?_) (fun h7 => ?_)
                · exact absurd h7 (nI_pos (by omega))
                have inner : ∀ k2 o : Nat, o + k2 = 40 → (!(v_mn V i == 0) && v_und V (v_ow V i) c && zf_any (fun o => v_mn V o == v_mn V i && v_und V s (v_ow V o)) 0 40) = (!(v_mn V i == 0) && v_und V (v_ow V i) c && zf_any (fun o => v_mn V o == v_mn V i && v_und V s (v_ow V o)) o k2) → zp_wp X y_Mod_setsSuper 57 [.ref 171, .ref r, .int (nI c), .int (nI b), .int (nI s), .int (nI i), .int (nI o)] [] h Q := by
                  have skip : ∀ o : Nat, (!(v_mn V i == 0) && v_und V (v_ow V i) c && zf_any (fun o => v_mn V o == v_mn V i && v_und V s (v_ow V o)) 0 40) = false → zp_wp X y_Mod_setsSuper 130 [.ref 171, .ref r, .int (nI c), .int (nI b), .int (nI s), .int (nI i), .int (nI o)] [] h Q := by
                    intro o ho
                    first | refine zp_iincN_5 rfl rfl ?_ | refine zp_iinc_5 rfl rfl rfl ?_
                    refine zp_goto (tgt := 42) rfl rfl ?_
                    refine ih (i + 1) (by omega) ?_ _
                    rw [he, zf_any_f (by exact ho)]
                  intro k2
                  induction k2 with
                  | zero =>
                    intro o ho hx
                    refine zp_iload rfl rfl ?_
                    refine zp_bipush (v := (nI 40)) rfl (by decide +kernel) ?_
                    refine zp_icmpN_ge (tgt := 130) rfl rfl (by omega) (by omega) (fun h8 => ?_) (fun h8 => ?_)
                    · exact skip o (by rw [hx]; simp [zf_any])
                    · omega
                  | succ k2 ih2 =>
                    intro o ho hx
                    have b3 := hB.2.2.1 o (by omega)
                    have b4 := hB.2.2.2 o (by omega)
                    refine zp_iload rfl rfl ?_
                    refine zp_bipush (v := (nI 40)) rfl (by decide +kernel) ?_
                    refine zp_icmpN_ge (tgt := 130) rfl rfl (by omega) (by omega) (fun h8 => ?_) (fun h8 => ?_)
                    · omega
                    refine zp_aload_n rfl rfl ?_
                    refine zp_bipush (v := (nI 24)) rfl (by decide +kernel) ?_
                    refine zp_iload rfl rfl ?_
                    first | refine zp_iaddN rfl ?_ | refine zp_iadd rfl rfl ?_
                    refine zq_iald hS rfl (by first | assumption | exact ⟨by decide, rfl⟩) (by omega) (by decide) ?_
                    rw [hV.2.2.1 i (by omega)]
                    refine zp_if_eq (tgt := 130) rfl rfl (fun h9 => ?_) (fun h9 => ?_)
                    · have h9 : v_mn V i = 0 := by rw [← nI_0] at h9; exact (nI_eq (by omega) (by decide)).mp h9
                      exact skip o (by simp [h9])
                    have h9 : ¬ v_mn V i = 0 := fun q => h9 (by rw [q]; exact nI_0)
                    refine zp_aload_n rfl rfl ?_
                    refine zp_aload_n rfl rfl ?_
                    refine zp_bipush (v := (nI 64)) rfl (by decide +kernel) ?_
                    refine zp_iload rfl rfl ?_
                    first | refine zp_iaddN rfl ?_ | refine zp_iadd rfl rfl ?_
                    refine zq_iald hS rfl (by first | assumption | exact ⟨by decide, rfl⟩) (by omega) (by decide) ?_
                    rw [hV.2.2.2.1 i (by omega)]
                    refine zp_iload_n (x := nI c) rfl rfl ?_
                    refine zp_call rfl rfl (s_Mod_isUnder hS hr hV hB b2 hc ?_)
                    cases hu2 : v_und V (v_ow V i) c with
                    | false =>
                      refine zp_if_eq (tgt := 130) rfl rfl (fun h10 => ?_) (fun h10 => ?_)
                      · exact skip o (by simp [hu2])
                      · exact absurd rfl h10
                    | true =>
                      refine zp_if_eq (tgt := 130) rfl rfl (fun h10 => ?_) (fun h10 => ?_)
                      · exact absurd h10 (by decide)
                      refine zp_aload_n rfl rfl ?_
                      refine zp_bipush (v := (nI 24)) rfl (by decide +kernel) ?_
                      refine zp_iload rfl rfl ?_
                      first | refine zp_iaddN rfl ?_ | refine zp_iadd rfl rfl ?_
                      refine zq_iald hS rfl (by first | assumption | exact ⟨by decide, rfl⟩) (by omega) (by decide) ?_
                      rw [hV.2.2.1 o (by omega)]
                      refine zp_aload_n rfl rfl ?_
                      refine zp_bipush (v := (nI 24)) rfl (by decide +kernel) ?_
                      refine zp_iload rfl rfl ?_
                      first | refine zp_iaddN rfl ?_ | refine zp_iadd rfl rfl ?_
                      refine zq_iald hS rfl (by first | assumption | exact ⟨by decide, rfl⟩) (by omega) (by decide) ?_
                      rw [hV.2.2.1 i (by omega)]
                      refine zp_icmpN_ne (a := v_mn V o) (b := v_mn V i) (tgt := 124) rfl rfl (by omega) (by omega) (fun h11 => ?_) (fun h11 => ?_)
                      · first | refine zp_iincN_6 rfl rfl ?_ | refine zp_iinc_6 rfl rfl rfl ?_
                        refine zp_goto (tgt := 57) rfl rfl ?_
                        exact ih2 (o + 1) (by omega) (by rw [hx, zf_any_f (by simp [h11])])
                      refine zp_aload_n rfl rfl ?_
                      refine zp_iload rfl rfl ?_
                      refine zp_aload_n rfl rfl ?_
                      refine zp_bipush (v := (nI 64)) rfl (by decide +kernel) ?_
                      refine zp_iload rfl rfl ?_
                      first | refine zp_iaddN rfl ?_ | refine zp_iadd rfl rfl ?_
                      refine zq_iald hS rfl (by first | assumption | exact ⟨by decide, rfl⟩) (by omega) (by decide) ?_
                      rw [hV.2.2.2.1 o (by omega)]
                      refine zp_call rfl rfl (s_Mod_isUnder hS hr hV hB hs b4 ?_)
                      cases hu3 : v_und V s (v_ow V o) with
                      | false =>
                        refine zp_if_eq (tgt := 124) rfl rfl (fun h12 => ?_) (fun h12 => ?_)
                        · first | refine zp_iincN_6 rfl rfl ?_ | refine zp_iinc_6 rfl rfl rfl ?_
                          refine zp_goto (tgt := 57) rfl rfl ?_
                          exact ih2 (o + 1) (by omega) (by rw [hx, zf_any_f (by simp [hu3])])
                        · exact absurd rfl h12
                      | true =>
                        refine zp_if_eq (tgt := 124) rfl rfl (fun h12 => ?_) (fun h12 => ?_)
                        · exact absurd h12 (by decide)
                        refine zp_iconst (v := (nI 5)) rfl (by decide +kernel) ?_
                        refine zp_iret rfl rfl ?_
                        have hany : zf_any (fun k => !(v_mn V k == 0) && v_und V (v_ow V k) c && zf_any (fun o => v_mn V o == v_mn V k && v_und V s (v_ow V o)) 0 40) 0 40 = true := by
                          rw [he]
                          refine zf_any_t ?_
                          show (!(v_mn V i == 0) && v_und V (v_ow V i) c && zf_any (fun o => v_mn V o == v_mn V i && v_und V s (v_ow V o)) 0 40) = true
                          rw [hx, zf_any_t (by simp [h11, hu3])]
                          simp [h9, hu2]
                        have hv : v_supC V (some c) b = (5, V, none) := by simp only [v_supC, hz, hu]; rw [hany]; rfl
                        rw [hv] at hq
                        exact hq h (zr_same hS hV had)
                refine zp_iconst (v := (nI 0)) rfl (by decide +kernel) ?_
                refine zp_istore_6 rfl rfl ?_
                exact inner 40 0 rfl rfl
            refine zp_iconst (v := (nI 0)) rfl (by decide +kernel) ?_
            refine zp_istore_5 rfl rfl ?_
            exact outer 40 0 rfl rfl _
          · exact absurd rfl h5
      · exact absurd (nI_pos' (by omega)) h3
theorem s_Mod_addsMember {c : Option Nat} {m : Nat} (hS : zs_H h) (hr : zs_I r 1704) (hV : zv_R V (ci h r)) (hB : zv_B V) (hc : ∀ i, c = some i → i < 12) (hm : m < 2 ^ 31) (had : cf h 171 10 = -1) (hq : ∀ h', zr_post (v_addM V c m).2.1 (v_addM V c m).2.2 r h h' → Q (.inl (some (.int (nI (v_addM V c m).1)))) h') : zp_wm X y_Mod_addsMember [.ref 171, .ref r, .int (zf_o c), .int (nI m)] h Q := by
  show zp_wp X y_Mod_addsMember 0 [.ref 171, .ref r, .int (zf_o c), .int (nI m)] [] h Q
  have hne := zs_I_ne hr zs_M
  refine zp_iload_n rfl rfl ?_
  cases c with
  | none =>
    refine zp_if_ge (tgt := 6) rfl rfl (fun h1 => ?_) (fun h1 => ?_)
    · exact absurd h1 (by decide)
    refine zp_iconst (v := (nI 2)) rfl (by decide +kernel) ?_
    refine zp_iret rfl rfl ?_
    exact hq h (zr_same hS hV had)
  | some c =>
    have hcl := hc
    have hc := hc c rfl
    refine zp_if_ge (tgt := 6) rfl rfl (fun h1 => ?_) (fun h1 => ?_)
    · refine zp_aload_n rfl rfl ?_
      refine zp_iload_n rfl rfl ?_
      refine zp_iload_n rfl rfl ?_
      refine zp_call rfl rfl (t_Mod_memberAt (c := some c) hS hr hV hB hcl hm ?_)
      cases hz : v_mem V (some c) m with
      | some i =>
        have hi := (v_mem_lt hz).1
        refine zp_if_lt (tgt := 17) rfl rfl (fun h2 => ?_) (fun h2 => ?_)
        · exact absurd h2 (nI_pos (by omega))
        refine zp_iconst (v := (nI 1)) rfl (by decide +kernel) ?_
        refine zp_iret rfl rfl ?_
        have hv : v_addM V (some c) m = (1, V, none) := by simp [v_addM, hz]
        rw [hv] at hq
        exact hq h (zr_same hS hV had)
      | none =>
        refine zp_if_lt (tgt := 17) rfl rfl (fun h2 => ?_) (fun h2 => ?_)
        · refine zp_aload_n rfl rfl ?_
          refine zp_iload_n (x := nI c) rfl rfl ?_
          refine zp_iload_n rfl rfl ?_
          refine zp_iconst (v := (-1)) rfl (by decide +kernel) ?_
          refine zp_call rfl rfl (s_Mod_isTaken (but := none) hS hr hV hB hc hm (fun i hi => by cases hi) ?_)
          cases ht : v_tak V c m none with
          | true =>
            refine zp_if_eq (tgt := 29) rfl rfl (fun h3 => ?_) (fun h3 => ?_)
            · exact absurd h3 (by decide)
            refine zp_iconst (v := (nI 5)) rfl (by decide +kernel) ?_
            refine zp_iret rfl rfl ?_
            have hv : v_addM V (some c) m = (5, V, none) := by simp [v_addM, hz, ht]
            rw [hv] at hq
            exact hq h (zr_same hS hV had)
          | false =>
            refine zp_if_eq (tgt := 29) rfl rfl (fun h3 => ?_) (fun h3 => ?_)
            · refine zp_aload_n rfl rfl ?_
              refine zp_bipush (v := (nI 24)) rfl (by decide +kernel) ?_
              refine zp_bipush (v := (nI 40)) rfl (by decide +kernel) ?_
              refine zp_call rfl rfl (s_Mod_countOf (p := fun i => !(v_mn V i == 0)) hS hr (by decide) (fun i hi => by rw [(zv_cz hV hB).2 i hi]; simp) ?_)
              refine zp_bipush (v := (nI 40)) rfl (by decide +kernel) ?_
              have hle := zf_ct_le (fun i => !(v_mn V i == 0)) 40 0
              refine zp_icmpN_ne (a := v_nm V) (b := 40) (tgt := 45) rfl rfl (by unfold v_nm; omega) (by decide) (fun h4 => ?_) (fun h4 => ?_)
              · refine zp_aload_n rfl rfl ?_
                refine zp_aload_n rfl rfl ?_
                refine zp_bipush (v := (nI 24)) rfl (by decide +kernel) ?_
                have hex : ∃ i, zf_fst (fun i => v_mn V i == 0) 0 40 = some i := by
                  cases hz9 : zf_fst (fun i => v_mn V i == 0) 0 40 with
                  | some i => exact ⟨i, rfl⟩
                  | none =>
                    have hn := zf_fst_none hz9
                    refine absurd ?_ h4
                    have e1 : ∀ k c, c + k = 40 → zf_ct (fun i => !(v_mn V i == 0)) c k = k := by
                      intro k
                      induction k with
                      | zero => intro c _; rfl
                      | succ k ih =>
                        intro c hc
                        have := hn c (by omega) (by omega)
                        unfold zf_ct
                        rw [ih (c + 1) (by omega), this]
                        simp; omega
                    exact e1 40 0 rfl
                obtain ⟨i, hi⟩ := hex
                have hi40 : i < 40 := by have := (zf_fst_some hi).2.1; omega
                refine zp_call rfl rfl (s_Mod_freeAt (n := 40) hS hr (by decide) (fun j hj => by rw [(zv_cz hV hB).2 j hj]; simp) hi ?_)
                refine zq_put hS rfl zs_M rfl rfl (fun hS1 => ?_)
                have hg := zf_at (x := nI i) hS zs_M (j := 10) rfl
                have hci : ci (zf_put h 171 10 (nI i)) r = ci h r := zf_ci hne
                generalize hh1 : zf_put h 171 10 (nI i) = h1' at hS1 hg hci ⊢
                have e1 : zh_eq (fun x => x = r ∨ x = 171) h h1' := by rw [← hh1]; exact zh_eq.rf.zf (Or.inr rfl)
                have f1 : ∀ j, j ≠ 10 → cf h1' 171 j = cf h 171 j := fun j hj => by rw [← hh1]; exact zf_nj hj
                refine zp_aload_n rfl rfl ?_
                refine zp_bipush (v := (nI 24)) rfl (by decide +kernel) ?_
                refine zp_aload_n rfl rfl ?_
                refine zq_geti hS1 rfl zs_M rfl ?_
                rw [hg]
                refine zp_iaddN rfl ?_
                refine zp_iload_n rfl rfl ?_
                refine zq_iast hS1 rfl hr (by omega) (by decide) (fun hS2 => ?_)
                have hg2 : cf (zi_put h1' r (upd (ci h1' r) (24 + i) (nI m))) 171 10 = nI i := by rw [zi_cf (Ne.symm hne)]; exact hg
                have hci2 : ci (zi_put h1' r (upd (ci h1' r) (24 + i) (nI m))) r = upd (ci h r) (24 + i) (nI m) := by rw [zi_at, hci]
                have e2 := e1.zi (f := upd (ci h1' r) (24 + i) (nI m)) (Or.inl (rfl : r = r))
                have f2 : ∀ j, j ≠ 10 → cf (zi_put h1' r (upd (ci h1' r) (24 + i) (nI m))) 171 j = cf h 171 j := fun j hj => by rw [zi_cf (Ne.symm hne)]; exact f1 j hj
                generalize zi_put h1' r (upd (ci h1' r) (24 + i) (nI m)) = h2' at hS2 hg2 hci2 e2 f2 ⊢
                refine zp_aload_n rfl rfl ?_
                refine zp_bipush (v := (nI 64)) rfl (by decide +kernel) ?_
                refine zp_aload_n rfl rfl ?_
                refine zq_geti hS2 rfl zs_M rfl ?_
                rw [hg2]
                refine zp_iaddN rfl ?_
                refine zp_iload_n (x := nI c) rfl rfl ?_
                refine zq_iast hS2 rfl hr (by omega) (by decide) (fun hS3 => ?_)
                refine zp_iconst (v := (nI 0)) rfl (by decide +kernel) ?_
                refine zp_iret rfl rfl ?_
                have hv : v_addM V (some c) m = (0, v_set4 (v_set3 V i m) i c, some i) := by
                  simp only [v_addM]
                  rw [hz, ht, if_neg h4, hi]
                  rfl
                rw [hv] at hq
                refine hq _ ⟨hS3, e2.zi (Or.inl rfl), ?_, by rw [zi_cf (Ne.symm hne)]; exact hg2, fun j hj => by rw [zi_cf (Ne.symm hne)]; exact f2 j hj⟩
                rw [zi_at, hci2]
                exact zv_R4 (zv_R3 hV hi40) hi40
              · refine zp_bipush (v := (nI 9)) rfl (by decide +kernel) ?_
                refine zp_iret rfl rfl ?_
                have hv : v_addM V (some c) m = (9, V, none) := by
                  simp only [v_addM]
                  rw [hz, ht, if_pos h4]
                  rfl
                rw [hv] at hq
                exact hq h (zr_same hS hV had)
            · exact absurd rfl h3
        · exact absurd (by decide) h2
    · exact absurd (nI_pos' (by omega)) h1
theorem s_Mod_renamesMember {c k : Option Nat} {n : Nat} (hS : zs_H h) (hr : zs_I r 1704) (hV : zv_R V (ci h r)) (hB : zv_B V) (hc : ∀ i, c = some i → i < 12) (hk : ∀ i, k = some i → i < 40) (hkc : k.isSome → c.isSome) (hn : n < 2 ^ 31) (had : cf h 171 10 = -1) (hq : ∀ h', zr_post (v_renM V c k n).2.1 (v_renM V c k n).2.2 r h h' → Q (.inl (some (.int (nI (v_renM V c k n).1)))) h') : zp_wm X y_Mod_renamesMember [.ref 171, .ref r, .int (zf_o c), .int (zf_o k), .int (nI n)] h Q := by
  show zp_wp X y_Mod_renamesMember 0 [.ref 171, .ref r, .int (zf_o c), .int (zf_o k), .int (nI n)] [] h Q
  refine zp_iload_n rfl rfl ?_
  cases k with
  | none =>
    refine zp_if_ge (tgt := 6) rfl rfl (fun h1 => ?_) (fun h1 => ?_)
    · exact absurd h1 (by decide)
    refine zp_iconst (v := (nI 2)) rfl (by decide +kernel) ?_
    refine zp_iret rfl rfl ?_
    exact hq h (zr_same hS hV had)
  | some k =>
    have hk := hk k rfl
    cases c with
    | none => exact absurd (hkc rfl) (by decide)
    | some c =>
      have hc := hc c rfl
      refine zp_if_ge (tgt := 6) rfl rfl (fun h1 => ?_) (fun h1 => ?_)
      · refine zp_aload_n rfl rfl ?_
        refine zp_iload_n (x := nI c) rfl rfl ?_
        refine zp_iload rfl rfl ?_
        refine zp_iconst (v := (-1)) rfl (by decide +kernel) ?_
        refine zp_call rfl rfl (s_Mod_isTaken (but := none) hS hr hV hB hc hn (fun i hi => by cases hi) ?_)
        cases ht : v_tak V c n none with
        | true =>
          refine zp_if_eq (tgt := 19) rfl rfl (fun h3 => ?_) (fun h3 => ?_)
          · exact absurd h3 (by decide)
          refine zp_iconst (v := (nI 5)) rfl (by decide +kernel) ?_
          refine zp_iret rfl rfl ?_
          have hv : v_renM V (some c) (some k) n = (5, V, none) := by simp [v_renM, ht]
          rw [hv] at hq
          exact hq h (zr_same hS hV had)
        | false =>
          refine zp_if_eq (tgt := 19) rfl rfl (fun h3 => ?_) (fun h3 => ?_)
          · refine zp_aload_n rfl rfl ?_
            refine zp_bipush (v := (nI 24)) rfl (by decide +kernel) ?_
            refine zp_iload_n (x := nI k) rfl rfl ?_
            first | refine zp_iaddN rfl ?_ | refine zp_iadd rfl rfl ?_
            refine zp_iload rfl rfl ?_
            refine zq_iast hS rfl hr (by omega) (by decide) (fun hS1 => ?_)
            refine zp_iconst (v := (nI 0)) rfl (by decide +kernel) ?_
            refine zp_iret rfl rfl ?_
            have hv : v_renM V (some c) (some k) n = (0, v_set3 V k n, none) := by simp [v_renM, ht]
            rw [hv] at hq
            exact hq _ (zr_put hr hS1 had (zv_R3 hV hk))
          · exact absurd rfl h3
      · exact absurd (nI_pos' (by omega)) h1
theorem s_Mod_movesMember {c k to : Option Nat} (hS : zs_H h) (hr : zs_I r 1704) (hV : zv_R V (ci h r)) (hB : zv_B V) (hc : ∀ i, c = some i → i < 12) (hk : ∀ i, k = some i → i < 40) (hto : ∀ i, to = some i → i < 12) (had : cf h 171 10 = -1) (hq : ∀ h', zr_post (v_movM V c k to).2.1 (v_movM V c k to).2.2 r h h' → Q (.inl (some (.int (nI (v_movM V c k to).1)))) h') : zp_wm X y_Mod_movesMember [.ref 171, .ref r, .int (zf_o c), .int (zf_o k), .int (zf_o to)] h Q := by
  show zp_wp X y_Mod_movesMember 0 [.ref 171, .ref r, .int (zf_o c), .int (zf_o k), .int (zf_o to)] [] h Q
  refine zp_iload_n rfl rfl ?_
  cases k with
  | none =>
    refine zp_if_lt (tgt := 9) rfl rfl (fun h1 => ?_) (fun h1 => ?_)
    · refine zp_iconst (v := (nI 2)) rfl (by decide +kernel) ?_
      refine zp_iret rfl rfl ?_
      exact hq h (zr_same hS hV had)
    · exact absurd (by decide) h1
  | some k =>
    have hk := hk k rfl
    refine zp_if_lt (tgt := 9) rfl rfl (fun h1 => ?_) (fun h1 => ?_)
    · exact absurd h1 (nI_pos (by omega))
    refine zp_iload rfl rfl ?_
    cases to with
    | none =>
      refine zp_if_ge (tgt := 11) rfl rfl (fun h2 => ?_) (fun h2 => ?_)
      · exact absurd h2 (by decide)
      refine zp_iconst (v := (nI 2)) rfl (by decide +kernel) ?_
      refine zp_iret rfl rfl ?_
      exact hq h (zr_same hS hV had)
    | some to =>
      have hto := hto to rfl
      refine zp_if_ge (tgt := 11) rfl rfl (fun h2 => ?_) (fun h2 => ?_)
      · refine zp_iload_n rfl rfl ?_
        refine zp_iload rfl rfl ?_
        refine zp_icmp_ne (tgt := 19) rfl rfl (fun h3 => ?_) (fun h3 => ?_)
        · have h3 : ¬ c = some to := fun q => h3 (by rw [q])
          refine zp_aload_n rfl rfl ?_
          refine zp_iload (x := nI to) rfl rfl ?_
          refine zp_aload_n rfl rfl ?_
          refine zp_bipush (v := (nI 24)) rfl (by decide +kernel) ?_
          refine zp_iload_n (x := nI k) rfl rfl ?_
          first | refine zp_iaddN rfl ?_ | refine zp_iadd rfl rfl ?_
          refine zq_iald hS rfl (by first | assumption | exact ⟨by decide, rfl⟩) (by omega) (by decide) ?_
          rw [hV.2.2.1 k hk]
          have b1 := hB.2.2.1 k hk
          refine zp_iload_n rfl rfl ?_
          refine zp_call rfl rfl (s_Mod_isTaken (but := some k) hS hr hV hB hto (by omega) (fun i hi => by cases hi; omega) ?_)
          cases ht : v_tak V to (v_mn V k) (some k) with
          | true =>
            refine zp_if_eq (tgt := 37) rfl rfl (fun h4 => ?_) (fun h4 => ?_)
            · exact absurd h4 (by decide)
            refine zp_iconst (v := (nI 5)) rfl (by decide +kernel) ?_
            refine zp_iret rfl rfl ?_
            have hv : v_movM V c (some k) (some to) = (5, V, none) := by simp [v_movM, ht, h3]
            rw [hv] at hq
            exact hq h (zr_same hS hV had)
          | false =>
            refine zp_if_eq (tgt := 37) rfl rfl (fun h4 => ?_) (fun h4 => ?_)
            · refine zp_aload_n rfl rfl ?_
              refine zp_bipush (v := (nI 64)) rfl (by decide +kernel) ?_
              refine zp_iload_n (x := nI k) rfl rfl ?_
              refine zp_iaddN rfl ?_
              refine zp_iload (x := nI to) rfl rfl ?_
              refine zq_iast hS rfl hr (by omega) (by decide) (fun hS1 => ?_)
              refine zp_iconst (v := (nI 0)) rfl (by decide +kernel) ?_
              refine zp_iret rfl rfl ?_
              have hv : v_movM V c (some k) (some to) = (0, v_set4 V k to, none) := by simp [v_movM, ht, h3]
              rw [hv] at hq
              exact hq _ (zr_put hr hS1 had (zv_R4 hV hk))
            · exact absurd rfl h4
        · have h3 : zf_o c = zf_o (some to) := Decidable.not_not.mp h3
          have h3 : c = some to := (zf_o_eq (fun i hi => by have := hc i hi; omega) (by omega)).mp h3.symm
          refine zp_iconst (v := (nI 1)) rfl (by decide +kernel) ?_
          refine zp_iret rfl rfl ?_
          have hv : v_movM V c (some k) (some to) = (1, V, none) := by simp [v_movM, h3]
          rw [hv] at hq
          exact hq h (zr_same hS hV had)
      · exact absurd (nI_pos' (by omega)) h2
end ZR4
end
section
/-! rules of the automatic walk; the reference: changes of a row, the end -/
section ZPA
variable {X : zm_X} {y pc pc' : Nat} {ls st : List Value} {h : zm_H} {Q : zm_O → zm_H → Prop}
theorem zp_ifT {c : ClassFile.Cond} {x : Int32} {off : Int} {tgt : Nat} (hf : zm_lk (zm_cd y) pc = some (.inl (.ifCond c off), pc')) (ht : (pc : Int) + off = (tgt : Int)) (hc : zm_c0 c x = true) (k : zp_wp X y tgt ls st h Q) : zp_wp X y pc ls (.int x :: st) h Q := zp_st hf (by show zm_br (zm_c0 c x) pc pc' off ls st h = _; rw [zp_brs ht, hc]; rfl) k
theorem zp_ifF {c : ClassFile.Cond} {x : Int32} {off : Int} {tgt : Nat} (hf : zm_lk (zm_cd y) pc = some (.inl (.ifCond c off), pc')) (ht : (pc : Int) + off = (tgt : Int)) (hc : zm_c0 c x = false) (k : zp_wp X y pc' ls st h Q) : zp_wp X y pc ls (.int x :: st) h Q := zp_st hf (by show zm_br (zm_c0 c x) pc pc' off ls st h = _; rw [zp_brs ht, hc]; rfl) k
theorem zp_icT {c : ClassFile.Cond} {x x2 : Int32} {off : Int} {tgt : Nat} (hf : zm_lk (zm_cd y) pc = some (.inl (.if_icmp c off), pc')) (ht : (pc : Int) + off = (tgt : Int)) (hc : zm_c2 c x x2 = true) (k : zp_wp X y tgt ls st h Q) : zp_wp X y pc ls (.int x2 :: .int x :: st) h Q := zp_st hf (by show zm_br (zm_c2 c x x2) pc pc' off ls st h = _; rw [zp_brs ht, hc]; rfl) k
theorem zp_icF {c : ClassFile.Cond} {x x2 : Int32} {off : Int} {tgt : Nat} (hf : zm_lk (zm_cd y) pc = some (.inl (.if_icmp c off), pc')) (ht : (pc : Int) + off = (tgt : Int)) (hc : zm_c2 c x x2 = false) (k : zp_wp X y pc' ls st h Q) : zp_wp X y pc ls (.int x2 :: .int x :: st) h Q := zp_st hf (by show zm_br (zm_c2 c x x2) pc pc' off ls st h = _; rw [zp_brs ht, hc]; rfl) k
theorem zc_lt {t : Nat} (ht : t < 2 ^ 31) : zm_c0 .lt (nI t) = false := decide_eq_false (nI_pos ht)
theorem zc_ge {t : Nat} (ht : t < 2 ^ 31) : zm_c0 .ge (nI t) = true := decide_eq_true (nI_pos' ht)
theorem zc_eq0 {t : Nat} (ht : t < 2 ^ 31) : nI t = 0 ↔ t = 0 := by
  rw [← nI_0]
  exact nI_eq ht (by decide)
theorem zp_ifN_eq {a : Nat} {off : Int} {tgt : Nat} (hf : zm_lk (zm_cd y) pc = some (.inl (.ifCond .eq off), pc')) (ht : (pc : Int) + off = (tgt : Int)) (ha : a < 2 ^ 31) (kt : a = 0 → zp_wp X y tgt ls st h Q) (kf : ¬ a = 0 → zp_wp X y pc' ls st h Q) : zp_wp X y pc ls (.int (nI a) :: st) h Q :=
  zp_if_eq hf ht (fun q => kt ((zc_eq0 ha).mp q)) (fun q => kf (fun e => q ((zc_eq0 ha).mpr e)))
theorem zp_ifN_ne {a : Nat} {off : Int} {tgt : Nat} (hf : zm_lk (zm_cd y) pc = some (.inl (.ifCond .ne off), pc')) (ht : (pc : Int) + off = (tgt : Int)) (ha : a < 2 ^ 31) (kt : ¬ a = 0 → zp_wp X y tgt ls st h Q) (kf : a = 0 → zp_wp X y pc' ls st h Q) : zp_wp X y pc ls (.int (nI a) :: st) h Q :=
  zp_if_ne hf ht (fun q => kt (fun e => q ((zc_eq0 ha).mpr e))) (fun q => kf ((zc_eq0 ha).mp (Decidable.not_not.mp q)))
theorem zp_ifN_gt {a : Nat} {off : Int} {tgt : Nat} (hf : zm_lk (zm_cd y) pc = some (.inl (.ifCond .gt off), pc')) (ht : (pc : Int) + off = (tgt : Int)) (ha : a < 2 ^ 31) (kt : 0 < a → zp_wp X y tgt ls st h Q) (kf : a = 0 → zp_wp X y pc' ls st h Q) : zp_wp X y pc ls (.int (nI a) :: st) h Q := by
  have e := nI_ltI (a := 0) (b := a) (by decide) ha
  rw [nI_0] at e
  exact zp_if_gt hf ht (fun q => kt (e.mp q)) (fun q => kf (by have := mt e.mpr q; omega))
theorem zp_ifN_le {a : Nat} {off : Int} {tgt : Nat} (hf : zm_lk (zm_cd y) pc = some (.inl (.ifCond .le off), pc')) (ht : (pc : Int) + off = (tgt : Int)) (ha : a < 2 ^ 31) (kt : a = 0 → zp_wp X y tgt ls st h Q) (kf : 0 < a → zp_wp X y pc' ls st h Q) : zp_wp X y pc ls (.int (nI a) :: st) h Q := by
  have e := nI_leI (a := a) (b := 0) ha (by decide)
  rw [nI_0] at e
  exact zp_if_le hf ht (fun q => kt (by have := e.mp q; omega)) (fun q => kf (by have := mt e.mpr q; omega))
end ZPA
section ZR5
variable {X : zm_X} {h : zm_H} {Q : zm_O → zm_H → Prop} {V : zv} {r : Nat}
def v_clu (V : zv) (m i : Nat) : zv := (V.1, V.2.1, V.2.2.1, V.2.2.2.1, va_up V.2.2.2.2 m (fun b => if b < i then false else V.2.2.2.2 m b))
theorem v_clu_0 (V : zv) (m : Nat) : v_clu V m 0 = V := by
  unfold v_clu
  refine congrArg (fun z => (V.1, V.2.1, V.2.2.1, V.2.2.2.1, z)) ?_
  funext a
  by_cases e : a = m
  · subst e; simp [va_up]
  · simp [va_up, e]
theorem v_clu_s (V : zv) (m i : Nat) : v_set5 (v_clu V m i) m i false = v_clu V m (i + 1) := by
  unfold v_clu v_set5
  refine congrArg (fun z => (V.1, V.2.1, V.2.2.1, V.2.2.2.1, z)) ?_
  funext a
  by_cases e : a = m
  · subst e
    funext b
    by_cases e2 : b = i
    · subst e2; simp [va_up]
    · have h1 : (b < i + 1) = (b < i) := by simp; omega
      simp [va_up, e2, h1]
  · simp [va_up, e]
theorem v_clu_40 {V : zv} {m : Nat} {A : Nat → Int32} (h : zv_R (v_clu V m 40) A) : zv_R (v_clr V m) A := by
  obtain ⟨w1, w2, w3, w4, w5⟩ := h
  refine ⟨w1, w2, w3, w4, fun a b ha hb => ?_⟩
  rw [w5 a b ha hb]
  by_cases e : a = m
  · subst e; simp [v_us, v_clu, v_clr, va_up, hb]
  · simp [v_us, v_clu, v_clr, va_up, e]
theorem zv_cu {A : Nat → Int32} (hV : zv_R V A) : ∀ i, i < 1600 → (A (104 + i) = 0 ↔ v_us V (i / 40) (i % 40) = false) := by
  intro i hi
  have h1 := hV.2.2.2.2 (i / 40) (i % 40) (by omega) (by omega)
  rw [show 104 + 40 * (i / 40) + i % 40 = 104 + i by omega] at h1
  rw [h1]
  cases v_us V (i / 40) (i % 40) <;> decide +kernel
theorem s_Mod_removesMember {m : Option Nat} (hS : zs_H h) (hr : zs_I r 1704) (hV : zv_R V (ci h r)) (hB : zv_B V) (hm : ∀ i, m = some i → i < 40) (had : cf h 171 10 = -1) (hq : ∀ h', zr_post (v_remM V m).2.1 (v_remM V m).2.2 r h h' → Q (.inl (some (.int (nI (v_remM V m).1)))) h') : zp_wm X y_Mod_removesMember [.ref 171, .ref r, .int (zf_o m)] h Q := by
  show zp_wp X y_Mod_removesMember 0 [.ref 171, .ref r, .int (zf_o m), zm_mk] [] h Q
  have hne := zs_I_ne hr zs_M
  cases m with
  | none =>
    show zp_wp X y_Mod_removesMember 0 [.ref 171, .ref r, .int (-1), zm_mk] [] h Q
    refine zp_iload_n (x := (-1)) rfl rfl ?_
    refine zp_ifF (tgt := 6) rfl rfl (by decide +kernel) ?_
    refine zp_iconst (v := (nI 2)) rfl (by decide +kernel) ?_
    refine zp_iret rfl rfl ?_
    exact hq h (zr_same hS hV had)
  | some m =>
    have hm := hm m rfl
    show zp_wp X y_Mod_removesMember 0 [.ref 171, .ref r, .int (nI m), zm_mk] [] h Q
    have cl : ∀ k i h', i + k = 40 → zf_any (fun j => !(j == m) && v_us V j m) 0 40 = false → zs_H h' → zh_eq (fun x => x = r ∨ x = 171) h h' → (∀ j, cf h' 171 j = cf h 171 j) → zv_R (v_clu V m i) (ci h' r) → zp_wp X y_Mod_removesMember 44 [.ref 171, .ref r, .int (nI m), .int (nI i)] [] h' Q := by
      intro k
      induction k with
      | zero =>
        intro i h' hi ha hS heq hcf hV'
        refine zp_iload_n (x := (nI i)) rfl rfl ?_
        refine zp_bipush (v := (nI 40)) rfl (by decide +kernel) ?_
        refine zp_icmpN_ge (tgt := 68) rfl rfl (by omega) (by omega) (fun b47 => ?_) (fun b47 => ?_)
        · refine zp_aload_n (x := r) rfl rfl ?_
          refine zp_bipush (v := (nI 24)) rfl (by decide +kernel) ?_
          refine zp_iload_n (x := (nI m)) rfl rfl ?_
          refine zp_iaddN rfl ?_
          refine zp_iconst (v := (nI 0)) rfl (by decide +kernel) ?_
          refine zq_iast hS rfl (by first | assumption | exact ⟨by decide, rfl⟩) (by omega) (by decide) (fun hS => ?_)
          refine zp_iconst (v := (nI 0)) rfl (by decide +kernel) ?_
          refine zp_iret rfl rfl ?_
          have hv : v_remM V (some m) = (0, v_set3 (v_clr V m) m 0, none) := by simp [v_remM, ha]
          rw [hv] at hq
          refine hq _ ⟨hS, heq.zi (Or.inl rfl), ?_, by rw [zi_cf (Ne.symm hne), hcf]; exact had, fun j _ => by rw [zi_cf (Ne.symm hne), hcf]⟩
          rw [zi_at]
          have hi : i = 40 := by omega
          subst hi
          exact zv_R3 (V := v_clr V m) (v_clu_40 hV') hm
        · omega
      | succ k ih =>
        intro i h' hi ha hS heq hcf hV'
        refine zp_iload_n (x := (nI i)) rfl rfl ?_
        refine zp_bipush (v := (nI 40)) rfl (by decide +kernel) ?_
        refine zp_icmpN_ge (tgt := 68) rfl rfl (by omega) (by omega) (fun b47 => ?_) (fun b47 => ?_)
        · omega
        · refine zp_aload_n (x := r) rfl rfl ?_
          refine zp_bipush (v := (nI 104)) rfl (by decide +kernel) ?_
          refine zp_bipush (v := (nI 40)) rfl (by decide +kernel) ?_
          refine zp_iload_n (x := (nI m)) rfl rfl ?_
          refine zp_imulN rfl ?_
          refine zp_iaddN rfl ?_
          refine zp_iload_n (x := (nI i)) rfl rfl ?_
          refine zp_iaddN rfl ?_
          refine zp_iconst (v := (nI 0)) rfl (by decide +kernel) ?_
          refine zq_iast hS rfl (by first | assumption | exact ⟨by decide, rfl⟩) (by omega) (by decide) (fun hS => ?_)
          refine zp_iincN_3 rfl rfl ?_
          refine zp_goto (tgt := 44) rfl rfl ?_
          refine ih (i + 1) _ (by omega) ha hS (heq.zi (Or.inl rfl)) (fun j => by rw [zi_cf (Ne.symm hne), hcf]) ?_
          rw [zi_at, ← v_clu_s]
          exact zv_R5 (b := false) hV' hm (by omega)
    have lp : ∀ k i, i + k = 40 → zf_any (fun j => !(j == m) && v_us V j m) 0 40 = zf_any (fun j => !(j == m) && v_us V j m) i k → zp_wp X y_Mod_removesMember 8 [.ref 171, .ref r, .int (nI m), .int (nI i)] [] h Q := by
      intro k
      induction k with
      | zero =>
        intro i hi he
        refine zp_iload_n (x := (nI i)) rfl rfl ?_
        refine zp_bipush (v := (nI 40)) rfl (by decide +kernel) ?_
        refine zp_icmpN_ge (tgt := 42) rfl rfl (by omega) (by omega) (fun b11 => ?_) (fun b11 => ?_)
        · refine zp_iconst (v := (nI 0)) rfl (by decide +kernel) ?_
          refine zp_istore_n_3 rfl rfl ?_
          exact cl 40 0 h rfl he hS zh_eq.rf (fun _ => rfl) (by rw [v_clu_0]; exact hV)
        · omega
      | succ k ih =>
        intro i hi he
        refine zp_iload_n (x := (nI i)) rfl rfl ?_
        refine zp_bipush (v := (nI 40)) rfl (by decide +kernel) ?_
        refine zp_icmpN_ge (tgt := 42) rfl rfl (by omega) (by omega) (fun b11 => ?_) (fun b11 => ?_)
        · omega
        · refine zp_iload_n (x := (nI i)) rfl rfl ?_
          refine zp_iload_n (x := (nI m)) rfl rfl ?_
          refine zp_icmpN_eq (tgt := 36) rfl rfl (by omega) (by omega) (fun b16 => ?_) (fun b16 => ?_)
          · have he := he.trans (zf_any_f (by simp [b16]))
            refine zp_iincN_3 rfl rfl ?_
            refine zp_goto (tgt := 8) rfl rfl ?_
            exact ih (i + 1) (by omega) he
          · refine zp_aload_n (x := r) rfl rfl ?_
            refine zp_bipush (v := (nI 104)) rfl (by decide +kernel) ?_
            refine zp_bipush (v := (nI 40)) rfl (by decide +kernel) ?_
            refine zp_iload_n (x := (nI i)) rfl rfl ?_
            refine zp_imulN rfl ?_
            refine zp_iaddN rfl ?_
            refine zp_iload_n (x := (nI m)) rfl rfl ?_
            refine zp_iaddN rfl ?_
            refine zq_iald hS rfl (by first | assumption | exact ⟨by decide, rfl⟩) (by omega) (by decide) ?_
            rw [hV.2.2.2.2 i m (by omega) (by omega)]
            have q29 : cond (v_us V i m) 1 0 ≤ 1 := by cases v_us V i m <;> decide
            refine zp_iconst (v := (nI 1)) rfl (by decide +kernel) ?_
            refine zp_icmpN_ne (tgt := 36) rfl rfl (by omega) (by omega) (fun b31 => ?_) (fun b31 => ?_)
            · have he := he.trans (zf_any_f (by cases hu : v_us V i m with | true => rw [hu] at b31; exact absurd rfl b31 | false => simp [hu]))
              refine zp_iincN_3 rfl rfl ?_
              refine zp_goto (tgt := 8) rfl rfl ?_
              exact ih (i + 1) (by omega) he
            · refine zp_iconst (v := (nI 3)) rfl (by decide +kernel) ?_
              refine zp_iret rfl rfl ?_
              have hu : v_us V i m = true := by
                cases hu : v_us V i m with
                | true => rfl
                | false => rw [hu] at b31; exact absurd b31 (by decide)
              have he := he.trans (zf_any_t (by simp [b16, hu]))
              have hv : v_remM V (some m) = (3, V, none) := by simp [v_remM, he]
              rw [hv] at hq
              exact hq h (zr_same hS hV had)
    refine zp_iload_n (x := (nI m)) rfl rfl ?_
    refine zp_ifT (tgt := 6) rfl rfl (zc_ge (by omega)) ?_
    refine zp_iconst (v := (nI 0)) rfl (by decide +kernel) ?_
    refine zp_istore_n_3 rfl rfl ?_
    exact lp 40 0 rfl rfl
theorem s_Mod_addsUse {m n : Option Nat} (hS : zs_H h) (hr : zs_I r 1704) (hV : zv_R V (ci h r)) (hB : zv_B V) (hm : ∀ i, m = some i → i < 40) (hn : ∀ i, n = some i → i < 40) (had : cf h 171 10 = -1) (hq : ∀ h', zr_post (v_addU V m n).2.1 (v_addU V m n).2.2 r h h' → Q (.inl (some (.int (nI (v_addU V m n).1)))) h') : zp_wm X y_Mod_addsUse [.ref 171, .ref r, .int (zf_o m), .int (zf_o n)] h Q := by
  show zp_wp X y_Mod_addsUse 0 [.ref 171, .ref r, .int (zf_o m), .int (zf_o n)] [] h Q
  have hne := zs_I_ne hr zs_M
  cases m with
  | none =>
    show zp_wp X y_Mod_addsUse 0 [.ref 171, .ref r, .int (-1), .int (zf_o n)] [] h Q
    refine zp_iload_n (x := (-1)) rfl rfl ?_
    refine zp_ifT (tgt := 8) rfl rfl (by decide +kernel) ?_
    refine zp_iconst (v := (nI 2)) rfl (by decide +kernel) ?_
    refine zp_iret rfl rfl ?_
    exact hq h (zr_same hS hV had)
  | some m =>
    have hm := hm m rfl
    cases n with
    | none =>
      show zp_wp X y_Mod_addsUse 0 [.ref 171, .ref r, .int (nI m), .int (-1)] [] h Q
      refine zp_iload_n (x := (nI m)) rfl rfl ?_
      refine zp_ifF (tgt := 8) rfl rfl (zc_lt (by omega)) ?_
      refine zp_iload_n (x := (-1)) rfl rfl ?_
      refine zp_ifF (tgt := 10) rfl rfl (by decide +kernel) ?_
      refine zp_iconst (v := (nI 2)) rfl (by decide +kernel) ?_
      refine zp_iret rfl rfl ?_
      exact hq h (zr_same hS hV had)
    | some n =>
      have hn := hn n rfl
      have hc : v_nu V ≤ 1600 := zf_ct_le _ _ _
      show zp_wp X y_Mod_addsUse 0 [.ref 171, .ref r, .int (nI m), .int (nI n)] [] h Q
      refine zp_iload_n (x := (nI m)) rfl rfl ?_
      refine zp_ifF (tgt := 8) rfl rfl (zc_lt (by omega)) ?_
      refine zp_iload_n (x := (nI n)) rfl rfl ?_
      refine zp_ifT (tgt := 10) rfl rfl (zc_ge (by omega)) ?_
      refine zp_aload_n (x := r) rfl rfl ?_
      refine zp_bipush (v := (nI 104)) rfl (by decide +kernel) ?_
      refine zp_bipush (v := (nI 40)) rfl (by decide +kernel) ?_
      refine zp_iload_n (x := (nI m)) rfl rfl ?_
      refine zp_imulN rfl ?_
      refine zp_iaddN rfl ?_
      refine zp_iload_n (x := (nI n)) rfl rfl ?_
      refine zp_iaddN rfl ?_
      refine zq_iald hS rfl (by first | assumption | exact ⟨by decide, rfl⟩) (by omega) (by decide) ?_
      rw [hV.2.2.2.2 m n (by omega) (by omega)]
      have q20 : cond (v_us V m n) 1 0 ≤ 1 := by cases v_us V m n <;> decide
      refine zp_iconst (v := (nI 1)) rfl (by decide +kernel) ?_
      refine zp_icmpN_ne (tgt := 27) rfl rfl (by omega) (by omega) (fun b22 => ?_) (fun b22 => ?_)
      · have hu : v_us V m n = false := by cases hu : v_us V m n with | false => rfl | true => rw [hu] at b22; exact absurd rfl b22
        refine zp_aload_n (x := r) rfl rfl ?_
        refine zp_bipush (v := (nI 104)) rfl (by decide +kernel) ?_
        refine zp_sipush (v := (nI 1600)) rfl (by decide +kernel) ?_
        refine zp_call rfl rfl (s_Mod_countOf (p := fun i => v_us V (i / 40) (i % 40)) hS hr (by decide) (zv_cu hV) ?_)
        show zp_wp X y_Mod_addsUse 36 [.ref 171, .ref r, .int (nI m), .int (nI n)] [.int (nI (v_nu V))] h Q
        refine zp_bipush (v := (nI 60)) rfl (by decide +kernel) ?_
        refine zp_icmpN_ne (tgt := 44) rfl rfl (by omega) (by omega) (fun b38 => ?_) (fun b38 => ?_)
        · refine zp_aload_n (x := r) rfl rfl ?_
          refine zp_bipush (v := (nI 104)) rfl (by decide +kernel) ?_
          refine zp_bipush (v := (nI 40)) rfl (by decide +kernel) ?_
          refine zp_iload_n (x := (nI m)) rfl rfl ?_
          refine zp_imulN rfl ?_
          refine zp_iaddN rfl ?_
          refine zp_iload_n (x := (nI n)) rfl rfl ?_
          refine zp_iaddN rfl ?_
          refine zp_iconst (v := (nI 1)) rfl (by decide +kernel) ?_
          refine zq_iast hS rfl (by first | assumption | exact ⟨by decide, rfl⟩) (by omega) (by decide) (fun hS => ?_)
          refine zp_iconst (v := (nI 0)) rfl (by decide +kernel) ?_
          refine zp_iret rfl rfl ?_
          have hv : v_addU V (some m) (some n) = (0, v_set5 V m n true, none) := by simp [v_addU, hu, b38]
          rw [hv] at hq
          exact hq _ (zr_put hr hS had (zv_R5 (b := true) hV hm hn))
        · refine zp_bipush (v := (nI 9)) rfl (by decide +kernel) ?_
          refine zp_iret rfl rfl ?_
          have hv : v_addU V (some m) (some n) = (9, V, none) := by simp [v_addU, hu, b38]
          rw [hv] at hq
          exact hq h (zr_same hS hV had)
      · refine zp_iconst (v := (nI 1)) rfl (by decide +kernel) ?_
        refine zp_iret rfl rfl ?_
        have hu : v_us V m n = true := by cases hu : v_us V m n with | true => rfl | false => rw [hu] at b22; exact absurd b22 (by decide)
        have hv : v_addU V (some m) (some n) = (1, V, none) := by simp [v_addU, hu]
        rw [hv] at hq
        exact hq h (zr_same hS hV had)
theorem s_Mod_removesUse {m n : Option Nat} (hS : zs_H h) (hr : zs_I r 1704) (hV : zv_R V (ci h r)) (hB : zv_B V) (hm : ∀ i, m = some i → i < 40) (hn : ∀ i, n = some i → i < 40) (had : cf h 171 10 = -1) (hq : ∀ h', zr_post (v_remU V m n).2.1 (v_remU V m n).2.2 r h h' → Q (.inl (some (.int (nI (v_remU V m n).1)))) h') : zp_wm X y_Mod_removesUse [.ref 171, .ref r, .int (zf_o m), .int (zf_o n)] h Q := by
  show zp_wp X y_Mod_removesUse 0 [.ref 171, .ref r, .int (zf_o m), .int (zf_o n)] [] h Q
  cases m with
  | none =>
    show zp_wp X y_Mod_removesUse 0 [.ref 171, .ref r, .int (-1), .int (zf_o n)] [] h Q
    refine zp_iload_n (x := (-1)) rfl rfl ?_
    refine zp_ifT (tgt := 22) rfl rfl (by decide +kernel) ?_
    refine zp_iconst (v := (nI 2)) rfl (by decide +kernel) ?_
    refine zp_iret rfl rfl ?_
    exact hq h (zr_same hS hV had)
  | some m =>
    have hm := hm m rfl
    cases n with
    | none =>
      show zp_wp X y_Mod_removesUse 0 [.ref 171, .ref r, .int (nI m), .int (-1)] [] h Q
      refine zp_iload_n (x := (nI m)) rfl rfl ?_
      refine zp_ifF (tgt := 22) rfl rfl (zc_lt (by omega)) ?_
      refine zp_iload_n (x := (-1)) rfl rfl ?_
      refine zp_ifT (tgt := 22) rfl rfl (by decide +kernel) ?_
      refine zp_iconst (v := (nI 2)) rfl (by decide +kernel) ?_
      refine zp_iret rfl rfl ?_
      exact hq h (zr_same hS hV had)
    | some n =>
      have hn := hn n rfl
      show zp_wp X y_Mod_removesUse 0 [.ref 171, .ref r, .int (nI m), .int (nI n)] [] h Q
      refine zp_iload_n (x := (nI m)) rfl rfl ?_
      refine zp_ifF (tgt := 22) rfl rfl (zc_lt (by omega)) ?_
      refine zp_iload_n (x := (nI n)) rfl rfl ?_
      refine zp_ifF (tgt := 22) rfl rfl (zc_lt (by omega)) ?_
      refine zp_aload_n (x := r) rfl rfl ?_
      refine zp_bipush (v := (nI 104)) rfl (by decide +kernel) ?_
      refine zp_bipush (v := (nI 40)) rfl (by decide +kernel) ?_
      refine zp_iload_n (x := (nI m)) rfl rfl ?_
      refine zp_imulN rfl ?_
      refine zp_iaddN rfl ?_
      refine zp_iload_n (x := (nI n)) rfl rfl ?_
      refine zp_iaddN rfl ?_
      refine zq_iald hS rfl (by first | assumption | exact ⟨by decide, rfl⟩) (by omega) (by decide) ?_
      rw [hV.2.2.2.2 m n (by omega) (by omega)]
      have q18 : cond (v_us V m n) 1 0 ≤ 1 := by cases v_us V m n <;> decide
      refine zp_ifN_ne (tgt := 24) rfl rfl (by omega) (fun b19 => ?_) (fun b19 => ?_)
      · refine zp_aload_n (x := r) rfl rfl ?_
        refine zp_bipush (v := (nI 104)) rfl (by decide +kernel) ?_
        refine zp_bipush (v := (nI 40)) rfl (by decide +kernel) ?_
        refine zp_iload_n (x := (nI m)) rfl rfl ?_
        refine zp_imulN rfl ?_
        refine zp_iaddN rfl ?_
        refine zp_iload_n (x := (nI n)) rfl rfl ?_
        refine zp_iaddN rfl ?_
        refine zp_iconst (v := (nI 0)) rfl (by decide +kernel) ?_
        refine zq_iast hS rfl (by first | assumption | exact ⟨by decide, rfl⟩) (by omega) (by decide) (fun hS => ?_)
        refine zp_iconst (v := (nI 0)) rfl (by decide +kernel) ?_
        refine zp_iret rfl rfl ?_
        have hu : v_us V m n = true := by cases hu : v_us V m n with | true => rfl | false => rw [hu] at b19; exact absurd rfl b19
        have hv : v_remU V (some m) (some n) = (0, v_set5 V m n false, none) := by simp [v_remU, hu]
        rw [hv] at hq
        exact hq _ (zr_put hr hS had (zv_R5 (b := false) hV hm hn))
      · refine zp_iconst (v := (nI 2)) rfl (by decide +kernel) ?_
        refine zp_iret rfl rfl ?_
        have hu : v_us V m n = false := by cases hu : v_us V m n with | false => rfl | true => rw [hu] at b19; exact absurd b19 (by decide)
        have hv : v_remU V (some m) (some n) = (2, V, none) := by simp [v_remU, hu]
        rw [hv] at hq
        exact hq h (zr_same hS hV had)
theorem v_cls_12 {V : zv} {a : Nat} : ∀ i, v_cls V a = some i → i < 12 := fun _ h => (v_cls_lt h).1
theorem v_mem_40 {V : zv} {c : Option Nat} {m : Nat} : ∀ i, v_mem V c m = some i → i < 40 := fun _ h => (v_mem_lt h).1
/-- behind a change, `added` put to -1 first -/
theorem zr_post.pre {V' : zv} {ad : Option Nat} {h1 h' : zm_H} (hp : zr_post V' ad r h1 h') (e : zh_eq (fun x => x = r ∨ x = 171) h h1) (f : ∀ j, j ≠ 10 → cf h1 171 j = cf h 171 j) : zr_post V' ad r h h' := ⟨hp.1, e.trans hp.2.1, hp.2.2.1, hp.2.2.2.1, fun j hj => (hp.2.2.2.2 j hj).trans (f j hj)⟩
theorem s_Mod_makes {kind a m b n : Nat} (hS : zs_H h) (hr : zs_I r 1704) (hV : zv_R V (ci h r)) (hB : zv_B V) (hk : kind < 10) (ha : a < 128) (hm : m < 128) (hb : b < 128) (hn : n < 128) (hq : ∀ h', zr_post (v_make V kind a m b n).2.1 (v_make V kind a m b n).2.2 r h h' → Q (.inl (some (.int (nI (v_make V kind a m b n).1)))) h') : zp_wm X y_Mod_makes [.ref 171, .ref r, .int (nI kind), .int (nI a), .int (nI m), .int (nI b), .int (nI n)] h Q := by
  show zp_wp X y_Mod_makes 0 [.ref 171, .ref r, .int (nI kind), .int (nI a), .int (nI m), .int (nI b), .int (nI n), zm_mk] [] h Q
  have hne := zs_I_ne hr zs_M
  have hg := zf_at (x := -1) hS zs_M (j := 10) rfl
  have hci : ci (zf_put h 171 10 (-1)) r = ci h r := zf_ci hne
  have e1 : zh_eq (fun x => x = r ∨ x = 171) h (zf_put h 171 10 (-1)) := zh_eq.rf.zf (Or.inr rfl)
  have f1 : ∀ j, j ≠ 10 → cf (zf_put h 171 10 (-1)) 171 j = cf h 171 j := fun j hj => zf_nj hj
  have hq : ∀ h', zr_post (v_make V kind a m b n).2.1 (v_make V kind a m b n).2.2 r (zf_put h 171 10 (-1)) h' → Q (.inl (some (.int (nI (v_make V kind a m b n).1)))) h' := fun h' hp => hq h' (hp.pre e1 f1)
  refine zp_aload_n rfl rfl ?_
  refine zp_iconst (v := (-1)) rfl (by decide +kernel) ?_
  refine zq_put hS rfl (by first | assumption | exact ⟨by decide, rfl⟩) rfl rfl (fun hS => ?_)
  rw [← hci] at hV
  generalize zf_put h 171 10 (-1) = h at hS hV hg hq ⊢
  match kind, hk, hq with
  | 0, _, hq =>
    refine zp_aload_n (x := r) rfl rfl ?_
    refine zp_iload_n (x := (nI a)) rfl rfl ?_
    refine zp_call rfl rfl (t_Mod_classAt hS hr hV hB (by omega) ?_)
    show zp_wp X y_Mod_makes 10 [.ref 171, .ref r, .int (nI 0), .int (nI a), .int (nI m), .int (nI b), .int (nI n), zm_mk] [.int (zf_o (v_cls V a))] h Q
    refine zp_istore_7 rfl rfl ?_
    refine zp_iload_n (x := (nI 0)) rfl rfl ?_
    refine zp_switch (off := 51) (tgt := 64) rfl (by decide +kernel) (by decide +kernel) (by decide +kernel) rfl ?_
    refine zp_aload_n (x := 171) rfl rfl ?_
    refine zp_aload_n (x := r) rfl rfl ?_
    refine zp_iload (x := (zf_o (v_cls V a))) rfl rfl ?_
    refine zp_iload_n (x := (nI a)) rfl rfl ?_
    refine zq_virt hS rfl rfl (by first | assumption | exact ⟨by decide, rfl⟩) rfl (s_Mod_addsClass hS hr hV hB v_cls_12 hg (fun h2 hp => ?_))
    show zp_wp X y_Mod_makes 72 [.ref 171, .ref r, .int (nI 0), .int (nI a), .int (nI m), .int (nI b), .int (nI n), .int (zf_o (v_cls V a))] [.int (nI ((v_addC V (v_cls V a) a).1))] h2 Q
    refine zp_iret rfl rfl ?_
    exact hq _ hp
  | 1, _, hq =>
    refine zp_aload_n (x := r) rfl rfl ?_
    refine zp_iload_n (x := (nI a)) rfl rfl ?_
    refine zp_call rfl rfl (t_Mod_classAt hS hr hV hB (by omega) ?_)
    show zp_wp X y_Mod_makes 10 [.ref 171, .ref r, .int (nI 1), .int (nI a), .int (nI m), .int (nI b), .int (nI n), zm_mk] [.int (zf_o (v_cls V a))] h Q
    refine zp_istore_7 rfl rfl ?_
    refine zp_iload_n (x := (nI 1)) rfl rfl ?_
    refine zp_switch (off := 60) (tgt := 73) rfl (by decide +kernel) (by decide +kernel) (by decide +kernel) rfl ?_
    refine zp_aload_n (x := 171) rfl rfl ?_
    refine zp_aload_n (x := r) rfl rfl ?_
    refine zp_iload (x := (zf_o (v_cls V a))) rfl rfl ?_
    refine zq_virt hS rfl rfl (by first | assumption | exact ⟨by decide, rfl⟩) rfl (s_Mod_removesClass hS hr hV hB v_cls_12 hg (fun h2 hp => ?_))
    show zp_wp X y_Mod_makes 80 [.ref 171, .ref r, .int (nI 1), .int (nI a), .int (nI m), .int (nI b), .int (nI n), .int (zf_o (v_cls V a))] [.int (nI ((v_remC V (v_cls V a)).1))] h2 Q
    refine zp_iret rfl rfl ?_
    exact hq _ hp
  | 2, _, hq =>
    refine zp_aload_n (x := r) rfl rfl ?_
    refine zp_iload_n (x := (nI a)) rfl rfl ?_
    refine zp_call rfl rfl (t_Mod_classAt hS hr hV hB (by omega) ?_)
    show zp_wp X y_Mod_makes 10 [.ref 171, .ref r, .int (nI 2), .int (nI a), .int (nI m), .int (nI b), .int (nI n), zm_mk] [.int (zf_o (v_cls V a))] h Q
    refine zp_istore_7 rfl rfl ?_
    refine zp_iload_n (x := (nI 2)) rfl rfl ?_
    refine zp_switch (off := 68) (tgt := 81) rfl (by decide +kernel) (by decide +kernel) (by decide +kernel) rfl ?_
    refine zp_aload_n (x := 171) rfl rfl ?_
    refine zp_aload_n (x := r) rfl rfl ?_
    refine zp_iload (x := (zf_o (v_cls V a))) rfl rfl ?_
    refine zp_iload (x := (nI b)) rfl rfl ?_
    refine zq_virt hS rfl rfl (by first | assumption | exact ⟨by decide, rfl⟩) rfl (s_Mod_renamesClass hS hr hV hB v_cls_12 (by omega) hg (fun h2 hp => ?_))
    show zp_wp X y_Mod_makes 90 [.ref 171, .ref r, .int (nI 2), .int (nI a), .int (nI m), .int (nI b), .int (nI n), .int (zf_o (v_cls V a))] [.int (nI ((v_renC V (v_cls V a) b).1))] h2 Q
    refine zp_iret rfl rfl ?_
    exact hq _ hp
  | 3, _, hq =>
    refine zp_aload_n (x := r) rfl rfl ?_
    refine zp_iload_n (x := (nI a)) rfl rfl ?_
    refine zp_call rfl rfl (t_Mod_classAt hS hr hV hB (by omega) ?_)
    show zp_wp X y_Mod_makes 10 [.ref 171, .ref r, .int (nI 3), .int (nI a), .int (nI m), .int (nI b), .int (nI n), zm_mk] [.int (zf_o (v_cls V a))] h Q
    refine zp_istore_7 rfl rfl ?_
    refine zp_iload_n (x := (nI 3)) rfl rfl ?_
    refine zp_switch (off := 78) (tgt := 91) rfl (by decide +kernel) (by decide +kernel) (by decide +kernel) rfl ?_
    refine zp_aload_n (x := 171) rfl rfl ?_
    refine zp_aload_n (x := r) rfl rfl ?_
    refine zp_iload (x := (zf_o (v_cls V a))) rfl rfl ?_
    refine zp_iload (x := (nI b)) rfl rfl ?_
    refine zq_virt hS rfl rfl (by first | assumption | exact ⟨by decide, rfl⟩) rfl (s_Mod_setsSuper hS hr hV hB v_cls_12 (by omega) hg (fun h2 hp => ?_))
    show zp_wp X y_Mod_makes 100 [.ref 171, .ref r, .int (nI 3), .int (nI a), .int (nI m), .int (nI b), .int (nI n), .int (zf_o (v_cls V a))] [.int (nI ((v_supC V (v_cls V a) b).1))] h2 Q
    refine zp_iret rfl rfl ?_
    exact hq _ hp
  | 4, _, hq =>
    refine zp_aload_n (x := r) rfl rfl ?_
    refine zp_iload_n (x := (nI a)) rfl rfl ?_
    refine zp_call rfl rfl (t_Mod_classAt hS hr hV hB (by omega) ?_)
    show zp_wp X y_Mod_makes 10 [.ref 171, .ref r, .int (nI 4), .int (nI a), .int (nI m), .int (nI b), .int (nI n), zm_mk] [.int (zf_o (v_cls V a))] h Q
    refine zp_istore_7 rfl rfl ?_
    refine zp_iload_n (x := (nI 4)) rfl rfl ?_
    refine zp_switch (off := 88) (tgt := 101) rfl (by decide +kernel) (by decide +kernel) (by decide +kernel) rfl ?_
    refine zp_aload_n (x := 171) rfl rfl ?_
    refine zp_aload_n (x := r) rfl rfl ?_
    refine zp_iload (x := (zf_o (v_cls V a))) rfl rfl ?_
    refine zp_iload (x := (nI m)) rfl rfl ?_
    refine zq_virt hS rfl rfl (by first | assumption | exact ⟨by decide, rfl⟩) rfl (s_Mod_addsMember hS hr hV hB v_cls_12 (by omega) hg (fun h2 hp => ?_))
    show zp_wp X y_Mod_makes 110 [.ref 171, .ref r, .int (nI 4), .int (nI a), .int (nI m), .int (nI b), .int (nI n), .int (zf_o (v_cls V a))] [.int (nI ((v_addM V (v_cls V a) m).1))] h2 Q
    refine zp_iret rfl rfl ?_
    exact hq _ hp
  | 5, _, hq =>
    refine zp_aload_n (x := r) rfl rfl ?_
    refine zp_iload_n (x := (nI a)) rfl rfl ?_
    refine zp_call rfl rfl (t_Mod_classAt hS hr hV hB (by omega) ?_)
    show zp_wp X y_Mod_makes 10 [.ref 171, .ref r, .int (nI 5), .int (nI a), .int (nI m), .int (nI b), .int (nI n), zm_mk] [.int (zf_o (v_cls V a))] h Q
    refine zp_istore_7 rfl rfl ?_
    refine zp_iload_n (x := (nI 5)) rfl rfl ?_
    refine zp_switch (off := 98) (tgt := 111) rfl (by decide +kernel) (by decide +kernel) (by decide +kernel) rfl ?_
    refine zp_aload_n (x := 171) rfl rfl ?_
    refine zp_aload_n (x := r) rfl rfl ?_
    refine zp_aload_n (x := r) rfl rfl ?_
    refine zp_iload (x := (zf_o (v_cls V a))) rfl rfl ?_
    refine zp_iload (x := (nI m)) rfl rfl ?_
    refine zp_call rfl rfl (t_Mod_memberAt hS hr hV hB v_cls_12 (by omega) ?_)
    show zp_wp X y_Mod_makes 121 [.ref 171, .ref r, .int (nI 5), .int (nI a), .int (nI m), .int (nI b), .int (nI n), .int (zf_o (v_cls V a))] [.int (zf_o (v_mem V (v_cls V a) m)), .ref r, .ref 171] h Q
    refine zq_virt hS rfl rfl (by first | assumption | exact ⟨by decide, rfl⟩) rfl (s_Mod_removesMember hS hr hV hB v_mem_40 hg (fun h2 hp => ?_))
    show zp_wp X y_Mod_makes 124 [.ref 171, .ref r, .int (nI 5), .int (nI a), .int (nI m), .int (nI b), .int (nI n), .int (zf_o (v_cls V a))] [.int (nI ((v_remM V (v_mem V (v_cls V a) m)).1))] h2 Q
    refine zp_iret rfl rfl ?_
    exact hq _ hp
  | 6, _, hq =>
    refine zp_aload_n (x := r) rfl rfl ?_
    refine zp_iload_n (x := (nI a)) rfl rfl ?_
    refine zp_call rfl rfl (t_Mod_classAt hS hr hV hB (by omega) ?_)
    show zp_wp X y_Mod_makes 10 [.ref 171, .ref r, .int (nI 6), .int (nI a), .int (nI m), .int (nI b), .int (nI n), zm_mk] [.int (zf_o (v_cls V a))] h Q
    refine zp_istore_7 rfl rfl ?_
    refine zp_iload_n (x := (nI 6)) rfl rfl ?_
    refine zp_switch (off := 112) (tgt := 125) rfl (by decide +kernel) (by decide +kernel) (by decide +kernel) rfl ?_
    refine zp_aload_n (x := 171) rfl rfl ?_
    refine zp_aload_n (x := r) rfl rfl ?_
    refine zp_iload (x := (zf_o (v_cls V a))) rfl rfl ?_
    refine zp_aload_n (x := r) rfl rfl ?_
    refine zp_iload (x := (zf_o (v_cls V a))) rfl rfl ?_
    refine zp_iload (x := (nI m)) rfl rfl ?_
    refine zp_call rfl rfl (t_Mod_memberAt hS hr hV hB v_cls_12 (by omega) ?_)
    show zp_wp X y_Mod_makes 137 [.ref 171, .ref r, .int (nI 6), .int (nI a), .int (nI m), .int (nI b), .int (nI n), .int (zf_o (v_cls V a))] [.int (zf_o (v_mem V (v_cls V a) m)), .int (zf_o (v_cls V a)), .ref r, .ref 171] h Q
    refine zp_iload (x := (nI n)) rfl rfl ?_
    refine zq_virt hS rfl rfl (by first | assumption | exact ⟨by decide, rfl⟩) rfl (s_Mod_renamesMember hS hr hV hB v_cls_12 v_mem_40 (fun q => by cases hz : v_cls V a with | some _ => rfl | none => rw [hz] at q; cases q) (by omega) hg (fun h2 hp => ?_))
    show zp_wp X y_Mod_makes 142 [.ref 171, .ref r, .int (nI 6), .int (nI a), .int (nI m), .int (nI b), .int (nI n), .int (zf_o (v_cls V a))] [.int (nI ((v_renM V (v_cls V a) (v_mem V (v_cls V a) m) n).1))] h2 Q
    refine zp_iret rfl rfl ?_
    exact hq _ hp
  | 7, _, hq =>
    refine zp_aload_n (x := r) rfl rfl ?_
    refine zp_iload_n (x := (nI a)) rfl rfl ?_
    refine zp_call rfl rfl (t_Mod_classAt hS hr hV hB (by omega) ?_)
    show zp_wp X y_Mod_makes 10 [.ref 171, .ref r, .int (nI 7), .int (nI a), .int (nI m), .int (nI b), .int (nI n), zm_mk] [.int (zf_o (v_cls V a))] h Q
    refine zp_istore_7 rfl rfl ?_
    refine zp_iload_n (x := (nI 7)) rfl rfl ?_
    refine zp_switch (off := 130) (tgt := 143) rfl (by decide +kernel) (by decide +kernel) (by decide +kernel) rfl ?_
    refine zp_aload_n (x := 171) rfl rfl ?_
    refine zp_aload_n (x := r) rfl rfl ?_
    refine zp_iload (x := (zf_o (v_cls V a))) rfl rfl ?_
    refine zp_aload_n (x := r) rfl rfl ?_
    refine zp_iload (x := (zf_o (v_cls V a))) rfl rfl ?_
    refine zp_iload (x := (nI m)) rfl rfl ?_
    refine zp_call rfl rfl (t_Mod_memberAt hS hr hV hB v_cls_12 (by omega) ?_)
    show zp_wp X y_Mod_makes 155 [.ref 171, .ref r, .int (nI 7), .int (nI a), .int (nI m), .int (nI b), .int (nI n), .int (zf_o (v_cls V a))] [.int (zf_o (v_mem V (v_cls V a) m)), .int (zf_o (v_cls V a)), .ref r, .ref 171] h Q
    refine zp_aload_n (x := r) rfl rfl ?_
    refine zp_iload (x := (nI b)) rfl rfl ?_
    refine zp_call rfl rfl (t_Mod_classAt hS hr hV hB (by omega) ?_)
    show zp_wp X y_Mod_makes 161 [.ref 171, .ref r, .int (nI 7), .int (nI a), .int (nI m), .int (nI b), .int (nI n), .int (zf_o (v_cls V a))] [.int (zf_o (v_cls V b)), .int (zf_o (v_mem V (v_cls V a) m)), .int (zf_o (v_cls V a)), .ref r, .ref 171] h Q
    refine zq_virt hS rfl rfl (by first | assumption | exact ⟨by decide, rfl⟩) rfl (s_Mod_movesMember hS hr hV hB v_cls_12 v_mem_40 v_cls_12 hg (fun h2 hp => ?_))
    show zp_wp X y_Mod_makes 164 [.ref 171, .ref r, .int (nI 7), .int (nI a), .int (nI m), .int (nI b), .int (nI n), .int (zf_o (v_cls V a))] [.int (nI ((v_movM V (v_cls V a) (v_mem V (v_cls V a) m) (v_cls V b)).1))] h2 Q
    refine zp_iret rfl rfl ?_
    exact hq _ hp
  | 8, _, hq =>
    refine zp_aload_n (x := r) rfl rfl ?_
    refine zp_iload_n (x := (nI a)) rfl rfl ?_
    refine zp_call rfl rfl (t_Mod_classAt hS hr hV hB (by omega) ?_)
    show zp_wp X y_Mod_makes 10 [.ref 171, .ref r, .int (nI 8), .int (nI a), .int (nI m), .int (nI b), .int (nI n), zm_mk] [.int (zf_o (v_cls V a))] h Q
    refine zp_istore_7 rfl rfl ?_
    refine zp_iload_n (x := (nI 8)) rfl rfl ?_
    refine zp_switch (off := 152) (tgt := 165) rfl (by decide +kernel) (by decide +kernel) (by decide +kernel) rfl ?_
    refine zp_aload_n (x := 171) rfl rfl ?_
    refine zp_aload_n (x := r) rfl rfl ?_
    refine zp_aload_n (x := r) rfl rfl ?_
    refine zp_iload (x := (zf_o (v_cls V a))) rfl rfl ?_
    refine zp_iload (x := (nI m)) rfl rfl ?_
    refine zp_call rfl rfl (t_Mod_memberAt hS hr hV hB v_cls_12 (by omega) ?_)
    show zp_wp X y_Mod_makes 175 [.ref 171, .ref r, .int (nI 8), .int (nI a), .int (nI m), .int (nI b), .int (nI n), .int (zf_o (v_cls V a))] [.int (zf_o (v_mem V (v_cls V a) m)), .ref r, .ref 171] h Q
    refine zp_aload_n (x := r) rfl rfl ?_
    refine zp_iload (x := (nI b)) rfl rfl ?_
    refine zp_iload (x := (nI n)) rfl rfl ?_
    refine zp_call rfl rfl (t_Mod_memberOf hS hr hV hB (by omega) (by omega) ?_)
    show zp_wp X y_Mod_makes 183 [.ref 171, .ref r, .int (nI 8), .int (nI a), .int (nI m), .int (nI b), .int (nI n), .int (zf_o (v_cls V a))] [.int (zf_o (v_mem V (v_cls V b) n)), .int (zf_o (v_mem V (v_cls V a) m)), .ref r, .ref 171] h Q
    refine zq_virt hS rfl rfl (by first | assumption | exact ⟨by decide, rfl⟩) rfl (s_Mod_addsUse hS hr hV hB v_mem_40 v_mem_40 hg (fun h2 hp => ?_))
    show zp_wp X y_Mod_makes 186 [.ref 171, .ref r, .int (nI 8), .int (nI a), .int (nI m), .int (nI b), .int (nI n), .int (zf_o (v_cls V a))] [.int (nI ((v_addU V (v_mem V (v_cls V a) m) (v_mem V (v_cls V b) n)).1))] h2 Q
    refine zp_iret rfl rfl ?_
    exact hq _ hp
  | 9, _, hq =>
    refine zp_aload_n (x := r) rfl rfl ?_
    refine zp_iload_n (x := (nI a)) rfl rfl ?_
    refine zp_call rfl rfl (t_Mod_classAt hS hr hV hB (by omega) ?_)
    show zp_wp X y_Mod_makes 10 [.ref 171, .ref r, .int (nI 9), .int (nI a), .int (nI m), .int (nI b), .int (nI n), zm_mk] [.int (zf_o (v_cls V a))] h Q
    refine zp_istore_7 rfl rfl ?_
    refine zp_iload_n (x := (nI 9)) rfl rfl ?_
    refine zp_switchD (tgt := 187) rfl (by decide +kernel) rfl ?_
    refine zp_aload_n (x := 171) rfl rfl ?_
    refine zp_aload_n (x := r) rfl rfl ?_
    refine zp_aload_n (x := r) rfl rfl ?_
    refine zp_iload (x := (zf_o (v_cls V a))) rfl rfl ?_
    refine zp_iload (x := (nI m)) rfl rfl ?_
    refine zp_call rfl rfl (t_Mod_memberAt hS hr hV hB v_cls_12 (by omega) ?_)
    show zp_wp X y_Mod_makes 197 [.ref 171, .ref r, .int (nI 9), .int (nI a), .int (nI m), .int (nI b), .int (nI n), .int (zf_o (v_cls V a))] [.int (zf_o (v_mem V (v_cls V a) m)), .ref r, .ref 171] h Q
    refine zp_aload_n (x := r) rfl rfl ?_
    refine zp_iload (x := (nI b)) rfl rfl ?_
    refine zp_iload (x := (nI n)) rfl rfl ?_
    refine zp_call rfl rfl (t_Mod_memberOf hS hr hV hB (by omega) (by omega) ?_)
    show zp_wp X y_Mod_makes 205 [.ref 171, .ref r, .int (nI 9), .int (nI a), .int (nI m), .int (nI b), .int (nI n), .int (zf_o (v_cls V a))] [.int (zf_o (v_mem V (v_cls V b) n)), .int (zf_o (v_mem V (v_cls V a) m)), .ref r, .ref 171] h Q
    refine zq_virt hS rfl rfl (by first | assumption | exact ⟨by decide, rfl⟩) rfl (s_Mod_removesUse hS hr hV hB v_mem_40 v_mem_40 hg (fun h2 hp => ?_))
    show zp_wp X y_Mod_makes 208 [.ref 171, .ref r, .int (nI 9), .int (nI a), .int (nI m), .int (nI b), .int (nI n), .int (zf_o (v_cls V a))] [.int (nI ((v_remU V (v_mem V (v_cls V a) m) (v_mem V (v_cls V b) n)).1))] h2 Q
    refine zp_iret rfl rfl ?_
    exact hq _ hp
  | k + 10, hk, _ => exact absurd hk (by omega)
end ZR5
end
