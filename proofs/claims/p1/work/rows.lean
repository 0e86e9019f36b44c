section
-- ===== PART A: goes FIRST, ahead of the names: the tables' words, and 'selects' of the private methods out of them =====
/-- a private method of a class that the tables say can be made, by its rows of tables_1 -/
def lw_okq (q : MethodName × Nat) : Prop := (q.1.cls ≠ "java/lang/invoke/MethodHandle" ∧ q.1.cls ≠ "java/lang/invoke/VarHandle") ∧ Cond.instantiable q.1.cls q.2 ∈ tables_1 ∧ Cond.privateMethod q.1 ∈ tables_1 ∧ Cond.instanceMethod q.1 ∈ tables_1
theorem lw_p0 : lw_okq (⟨"ReuseHouse", "putFour", "(I)V"⟩, 17) := ⟨⟨by decide +kernel, by decide +kernel⟩, List.mem_of_getElem? (i := 28) (by decide +kernel), List.mem_of_getElem? (i := 512) (by decide +kernel), List.mem_of_getElem? (i := 513) (by decide +kernel)⟩
theorem lw_p1 : lw_okq (⟨"ReuseHouse$Tokens", "readWord", "([BII)I"⟩, 8) := ⟨⟨by decide +kernel, by decide +kernel⟩, List.mem_of_getElem? (i := 212) (by decide +kernel), List.mem_of_getElem? (i := 545) (by decide +kernel), List.mem_of_getElem? (i := 546) (by decide +kernel)⟩
theorem lw_p2 : lw_okq (⟨"ReuseHouse$Tokens", "readSign", "([BII)I"⟩, 8) := ⟨⟨by decide +kernel, by decide +kernel⟩, List.mem_of_getElem? (i := 212) (by decide +kernel), List.mem_of_getElem? (i := 559) (by decide +kernel), List.mem_of_getElem? (i := 560) (by decide +kernel)⟩
theorem lw_p3 : lw_okq (⟨"ReuseHouse$Parser", "definition", "()V"⟩, 9) := ⟨⟨by decide +kernel, by decide +kernel⟩, List.mem_of_getElem? (i := 206) (by decide +kernel), List.mem_of_getElem? (i := 658) (by decide +kernel), List.mem_of_getElem? (i := 659) (by decide +kernel)⟩
theorem lw_p4 : lw_okq (⟨"ReuseHouse$Parser", "failMany", "()V"⟩, 9) := ⟨⟨by decide +kernel, by decide +kernel⟩, List.mem_of_getElem? (i := 206) (by decide +kernel), List.mem_of_getElem? (i := 662) (by decide +kernel), List.mem_of_getElem? (i := 663) (by decide +kernel)⟩
theorem lw_p5 : lw_okq (⟨"ReuseHouse$Parser", "fail", "(II)V"⟩, 9) := ⟨⟨by decide +kernel, by decide +kernel⟩, List.mem_of_getElem? (i := 206) (by decide +kernel), List.mem_of_getElem? (i := 678) (by decide +kernel), List.mem_of_getElem? (i := 679) (by decide +kernel)⟩
theorem lw_p6 : lw_okq (⟨"java/lang/Throwable", "fillInStackTrace", "(I)Ljava/lang/Throwable;"⟩, 6) := ⟨⟨by decide +kernel, by decide +kernel⟩, List.mem_of_getElem? (i := 719) (by decide +kernel), List.mem_of_getElem? (i := 717) (by decide +kernel), List.mem_of_getElem? (i := 718) (by decide +kernel)⟩
theorem lw_p7 : lw_okq (⟨"ReuseHouse$Parser", "expect", "(I)V"⟩, 9) := ⟨⟨by decide +kernel, by decide +kernel⟩, List.mem_of_getElem? (i := 206) (by decide +kernel), List.mem_of_getElem? (i := 745) (by decide +kernel), List.mem_of_getElem? (i := 746) (by decide +kernel)⟩
theorem lw_p8 : lw_okq (⟨"ReuseHouse$Parser", "failForm", "()V"⟩, 9) := ⟨⟨by decide +kernel, by decide +kernel⟩, List.mem_of_getElem? (i := 206) (by decide +kernel), List.mem_of_getElem? (i := 749) (by decide +kernel), List.mem_of_getElem? (i := 750) (by decide +kernel)⟩
theorem lw_p9 : lw_okq (⟨"ReuseHouse$Parser", "toldNames", "()V"⟩, 9) := ⟨⟨by decide +kernel, by decide +kernel⟩, List.mem_of_getElem? (i := 206) (by decide +kernel), List.mem_of_getElem? (i := 762) (by decide +kernel), List.mem_of_getElem? (i := 763) (by decide +kernel)⟩
theorem lw_p10 : lw_okq (⟨"ReuseHouse$Parser", "newName", "()V"⟩, 9) := ⟨⟨by decide +kernel, by decide +kernel⟩, List.mem_of_getElem? (i := 206) (by decide +kernel), List.mem_of_getElem? (i := 766) (by decide +kernel), List.mem_of_getElem? (i := 767) (by decide +kernel)⟩
theorem lw_p11 : lw_okq (⟨"ReuseHouse$Parser", "slotOf", "(J)I"⟩, 9) := ⟨⟨by decide +kernel, by decide +kernel⟩, List.mem_of_getElem? (i := 206) (by decide +kernel), List.mem_of_getElem? (i := 770) (by decide +kernel), List.mem_of_getElem? (i := 771) (by decide +kernel)⟩
theorem lw_p12 : lw_okq (⟨"ReuseHouse$Parser", "tell", "(J)I"⟩, 9) := ⟨⟨by decide +kernel, by decide +kernel⟩, List.mem_of_getElem? (i := 206) (by decide +kernel), List.mem_of_getElem? (i := 774) (by decide +kernel), List.mem_of_getElem? (i := 775) (by decide +kernel)⟩
theorem lw_p13 : lw_okq (⟨"ReuseHouse$Parser", "expression", "(I)V"⟩, 9) := ⟨⟨by decide +kernel, by decide +kernel⟩, List.mem_of_getElem? (i := 206) (by decide +kernel), List.mem_of_getElem? (i := 798) (by decide +kernel), List.mem_of_getElem? (i := 799) (by decide +kernel)⟩
theorem lw_p14 : lw_okq (⟨"ReuseHouse$Parser", "mustBeginExpression", "()V"⟩, 9) := ⟨⟨by decide +kernel, by decide +kernel⟩, List.mem_of_getElem? (i := 206) (by decide +kernel), List.mem_of_getElem? (i := 802) (by decide +kernel), List.mem_of_getElem? (i := 803) (by decide +kernel)⟩
theorem lw_p15 : lw_okq (⟨"ReuseHouse$Parser", "letExpression", "(I)V"⟩, 9) := ⟨⟨by decide +kernel, by decide +kernel⟩, List.mem_of_getElem? (i := 206) (by decide +kernel), List.mem_of_getElem? (i := 806) (by decide +kernel), List.mem_of_getElem? (i := 807) (by decide +kernel)⟩
def lw_privs_1 : List (MethodName × Nat) := [(⟨"ReuseHouse", "putFour", "(I)V"⟩, 17), (⟨"ReuseHouse$Tokens", "readWord", "([BII)I"⟩, 8), (⟨"ReuseHouse$Tokens", "readSign", "([BII)I"⟩, 8), (⟨"ReuseHouse$Parser", "definition", "()V"⟩, 9), (⟨"ReuseHouse$Parser", "failMany", "()V"⟩, 9), (⟨"ReuseHouse$Parser", "fail", "(II)V"⟩, 9), (⟨"java/lang/Throwable", "fillInStackTrace", "(I)Ljava/lang/Throwable;"⟩, 6), (⟨"ReuseHouse$Parser", "expect", "(I)V"⟩, 9), (⟨"ReuseHouse$Parser", "failForm", "()V"⟩, 9), (⟨"ReuseHouse$Parser", "toldNames", "()V"⟩, 9), (⟨"ReuseHouse$Parser", "newName", "()V"⟩, 9), (⟨"ReuseHouse$Parser", "slotOf", "(J)I"⟩, 9), (⟨"ReuseHouse$Parser", "tell", "(J)I"⟩, 9), (⟨"ReuseHouse$Parser", "expression", "(I)V"⟩, 9), (⟨"ReuseHouse$Parser", "mustBeginExpression", "()V"⟩, 9), (⟨"ReuseHouse$Parser", "letExpression", "(I)V"⟩, 9)]
theorem lw_r1 : ∀ q ∈ lw_privs_1, lw_okq q := List.forall_mem_cons.mpr ⟨lw_p0, List.forall_mem_cons.mpr ⟨lw_p1, List.forall_mem_cons.mpr ⟨lw_p2, List.forall_mem_cons.mpr ⟨lw_p3, List.forall_mem_cons.mpr ⟨lw_p4, List.forall_mem_cons.mpr ⟨lw_p5, List.forall_mem_cons.mpr ⟨lw_p6, List.forall_mem_cons.mpr ⟨lw_p7, List.forall_mem_cons.mpr ⟨lw_p8, List.forall_mem_cons.mpr ⟨lw_p9, List.forall_mem_cons.mpr ⟨lw_p10, List.forall_mem_cons.mpr ⟨lw_p11, List.forall_mem_cons.mpr ⟨lw_p12, List.forall_mem_cons.mpr ⟨lw_p13, List.forall_mem_cons.mpr ⟨lw_p14, List.forall_mem_cons.mpr ⟨lw_p15, fun _ h => absurd h List.not_mem_nil⟩⟩⟩⟩⟩⟩⟩⟩⟩⟩⟩⟩⟩⟩⟩⟩
theorem lw_p16 : lw_okq (⟨"ReuseHouse$Parser", "ifExpression", "(I)V"⟩, 9) := ⟨⟨by decide +kernel, by decide +kernel⟩, List.mem_of_getElem? (i := 206) (by decide +kernel), List.mem_of_getElem? (i := 814) (by decide +kernel), List.mem_of_getElem? (i := 815) (by decide +kernel)⟩
theorem lw_p17 : lw_okq (⟨"ReuseHouse$Parser", "matchExpression", "(I)V"⟩, 9) := ⟨⟨by decide +kernel, by decide +kernel⟩, List.mem_of_getElem? (i := 206) (by decide +kernel), List.mem_of_getElem? (i := 818) (by decide +kernel), List.mem_of_getElem? (i := 819) (by decide +kernel)⟩
theorem lw_p18 : lw_okq (⟨"ReuseHouse$Parser", "arm", "(IIII)I"⟩, 9) := ⟨⟨by decide +kernel, by decide +kernel⟩, List.mem_of_getElem? (i := 206) (by decide +kernel), List.mem_of_getElem? (i := 822) (by decide +kernel), List.mem_of_getElem? (i := 823) (by decide +kernel)⟩
theorem lw_p19 : lw_okq (⟨"ReuseHouse$Parser", "refuseKindTwice", "(I)V"⟩, 9) := ⟨⟨by decide +kernel, by decide +kernel⟩, List.mem_of_getElem? (i := 206) (by decide +kernel), List.mem_of_getElem? (i := 826) (by decide +kernel), List.mem_of_getElem? (i := 827) (by decide +kernel)⟩
theorem lw_p20 : lw_okq (⟨"ReuseHouse$Parser", "kindAtHand", "()I"⟩, 9) := ⟨⟨by decide +kernel, by decide +kernel⟩, List.mem_of_getElem? (i := 206) (by decide +kernel), List.mem_of_getElem? (i := 830) (by decide +kernel), List.mem_of_getElem? (i := 831) (by decide +kernel)⟩
theorem lw_p21 : lw_okq (⟨"ReuseHouse$Parser", "pattern", "(I)V"⟩, 9) := ⟨⟨by decide +kernel, by decide +kernel⟩, List.mem_of_getElem? (i := 206) (by decide +kernel), List.mem_of_getElem? (i := 842) (by decide +kernel), List.mem_of_getElem? (i := 843) (by decide +kernel)⟩
theorem lw_p22 : lw_okq (⟨"ReuseHouse$Parser", "toldToEnd", "(III)V"⟩, 9) := ⟨⟨by decide +kernel, by decide +kernel⟩, List.mem_of_getElem? (i := 206) (by decide +kernel), List.mem_of_getElem? (i := 846) (by decide +kernel), List.mem_of_getElem? (i := 847) (by decide +kernel)⟩
theorem lw_p23 : lw_okq (⟨"ReuseHouse$Parser", "armBody", "(II)V"⟩, 9) := ⟨⟨by decide +kernel, by decide +kernel⟩, List.mem_of_getElem? (i := 206) (by decide +kernel), List.mem_of_getElem? (i := 850) (by decide +kernel), List.mem_of_getElem? (i := 851) (by decide +kernel)⟩
theorem lw_p24 : lw_okq (⟨"ReuseHouse$Parser", "joinArms", "(I)V"⟩, 9) := ⟨⟨by decide +kernel, by decide +kernel⟩, List.mem_of_getElem? (i := 206) (by decide +kernel), List.mem_of_getElem? (i := 854) (by decide +kernel), List.mem_of_getElem? (i := 855) (by decide +kernel)⟩
theorem lw_p25 : lw_okq (⟨"ReuseHouse$Parser", "comparison", "(I)V"⟩, 9) := ⟨⟨by decide +kernel, by decide +kernel⟩, List.mem_of_getElem? (i := 206) (by decide +kernel), List.mem_of_getElem? (i := 858) (by decide +kernel), List.mem_of_getElem? (i := 859) (by decide +kernel)⟩
theorem lw_p26 : lw_okq (⟨"ReuseHouse$Parser", "sum", "(I)V"⟩, 9) := ⟨⟨by decide +kernel, by decide +kernel⟩, List.mem_of_getElem? (i := 206) (by decide +kernel), List.mem_of_getElem? (i := 862) (by decide +kernel), List.mem_of_getElem? (i := 863) (by decide +kernel)⟩
theorem lw_p27 : lw_okq (⟨"ReuseHouse$Parser", "part", "(I)V"⟩, 9) := ⟨⟨by decide +kernel, by decide +kernel⟩, List.mem_of_getElem? (i := 206) (by decide +kernel), List.mem_of_getElem? (i := 866) (by decide +kernel), List.mem_of_getElem? (i := 867) (by decide +kernel)⟩
theorem lw_p28 : lw_okq (⟨"ReuseHouse$Parser", "atom", "(I)V"⟩, 9) := ⟨⟨by decide +kernel, by decide +kernel⟩, List.mem_of_getElem? (i := 206) (by decide +kernel), List.mem_of_getElem? (i := 870) (by decide +kernel), List.mem_of_getElem? (i := 871) (by decide +kernel)⟩
theorem lw_p29 : lw_okq (⟨"ReuseHouse$Parser", "nameAtom", "(I)V"⟩, 9) := ⟨⟨by decide +kernel, by decide +kernel⟩, List.mem_of_getElem? (i := 206) (by decide +kernel), List.mem_of_getElem? (i := 874) (by decide +kernel), List.mem_of_getElem? (i := 875) (by decide +kernel)⟩
theorem lw_p30 : lw_okq (⟨"ReuseHouse$Parser", "arguments", "(II)I"⟩, 9) := ⟨⟨by decide +kernel, by decide +kernel⟩, List.mem_of_getElem? (i := 206) (by decide +kernel), List.mem_of_getElem? (i := 878) (by decide +kernel), List.mem_of_getElem? (i := 879) (by decide +kernel)⟩
theorem lw_p31 : lw_okq (⟨"ReuseHouse$Parser", "writeCall", "(IIII)V"⟩, 9) := ⟨⟨by decide +kernel, by decide +kernel⟩, List.mem_of_getElem? (i := 206) (by decide +kernel), List.mem_of_getElem? (i := 882) (by decide +kernel), List.mem_of_getElem? (i := 883) (by decide +kernel)⟩
def lw_privs_2 : List (MethodName × Nat) := [(⟨"ReuseHouse$Parser", "ifExpression", "(I)V"⟩, 9), (⟨"ReuseHouse$Parser", "matchExpression", "(I)V"⟩, 9), (⟨"ReuseHouse$Parser", "arm", "(IIII)I"⟩, 9), (⟨"ReuseHouse$Parser", "refuseKindTwice", "(I)V"⟩, 9), (⟨"ReuseHouse$Parser", "kindAtHand", "()I"⟩, 9), (⟨"ReuseHouse$Parser", "pattern", "(I)V"⟩, 9), (⟨"ReuseHouse$Parser", "toldToEnd", "(III)V"⟩, 9), (⟨"ReuseHouse$Parser", "armBody", "(II)V"⟩, 9), (⟨"ReuseHouse$Parser", "joinArms", "(I)V"⟩, 9), (⟨"ReuseHouse$Parser", "comparison", "(I)V"⟩, 9), (⟨"ReuseHouse$Parser", "sum", "(I)V"⟩, 9), (⟨"ReuseHouse$Parser", "part", "(I)V"⟩, 9), (⟨"ReuseHouse$Parser", "atom", "(I)V"⟩, 9), (⟨"ReuseHouse$Parser", "nameAtom", "(I)V"⟩, 9), (⟨"ReuseHouse$Parser", "arguments", "(II)I"⟩, 9), (⟨"ReuseHouse$Parser", "writeCall", "(IIII)V"⟩, 9)]
theorem lw_r2 : ∀ q ∈ lw_privs_2, lw_okq q := List.forall_mem_cons.mpr ⟨lw_p16, List.forall_mem_cons.mpr ⟨lw_p17, List.forall_mem_cons.mpr ⟨lw_p18, List.forall_mem_cons.mpr ⟨lw_p19, List.forall_mem_cons.mpr ⟨lw_p20, List.forall_mem_cons.mpr ⟨lw_p21, List.forall_mem_cons.mpr ⟨lw_p22, List.forall_mem_cons.mpr ⟨lw_p23, List.forall_mem_cons.mpr ⟨lw_p24, List.forall_mem_cons.mpr ⟨lw_p25, List.forall_mem_cons.mpr ⟨lw_p26, List.forall_mem_cons.mpr ⟨lw_p27, List.forall_mem_cons.mpr ⟨lw_p28, List.forall_mem_cons.mpr ⟨lw_p29, List.forall_mem_cons.mpr ⟨lw_p30, List.forall_mem_cons.mpr ⟨lw_p31, fun _ h => absurd h List.not_mem_nil⟩⟩⟩⟩⟩⟩⟩⟩⟩⟩⟩⟩⟩⟩⟩⟩
theorem lw_p32 : lw_okq (⟨"ReuseHouse$Parser", "kindAtom", "(I)V"⟩, 9) := ⟨⟨by decide +kernel, by decide +kernel⟩, List.mem_of_getElem? (i := 206) (by decide +kernel), List.mem_of_getElem? (i := 886) (by decide +kernel), List.mem_of_getElem? (i := 887) (by decide +kernel)⟩
theorem lw_p33 : lw_okq (⟨"ReuseHouse$Parser", "resolveCalls", "()V"⟩, 9) := ⟨⟨by decide +kernel, by decide +kernel⟩, List.mem_of_getElem? (i := 206) (by decide +kernel), List.mem_of_getElem? (i := 891) (by decide +kernel), List.mem_of_getElem? (i := 892) (by decide +kernel)⟩
theorem lw_p34 : lw_okq (⟨"ReuseHouse$Parser", "isCall", "(I)Z"⟩, 9) := ⟨⟨by decide +kernel, by decide +kernel⟩, List.mem_of_getElem? (i := 206) (by decide +kernel), List.mem_of_getElem? (i := 895) (by decide +kernel), List.mem_of_getElem? (i := 896) (by decide +kernel)⟩
theorem lw_p35 : lw_okq (⟨"ReuseHouse$Parser", "resolveCall", "(I)I"⟩, 9) := ⟨⟨by decide +kernel, by decide +kernel⟩, List.mem_of_getElem? (i := 206) (by decide +kernel), List.mem_of_getElem? (i := 899) (by decide +kernel), List.mem_of_getElem? (i := 900) (by decide +kernel)⟩
theorem lw_p36 : lw_okq (⟨"ReuseHouse$Needs", "neededAt", "(LReuseHouse$Program;I)I"⟩, 1) := ⟨⟨by decide +kernel, by decide +kernel⟩, List.mem_of_getElem? (i := 247) (by decide +kernel), List.mem_of_getElem? (i := 911) (by decide +kernel), List.mem_of_getElem? (i := 912) (by decide +kernel)⟩
theorem lw_p37 : lw_okq (⟨"ReuseHouse$Needs", "neededInArms", "(LReuseHouse$Program;I)I"⟩, 1) := ⟨⟨by decide +kernel, by decide +kernel⟩, List.mem_of_getElem? (i := 247) (by decide +kernel), List.mem_of_getElem? (i := 919) (by decide +kernel), List.mem_of_getElem? (i := 920) (by decide +kernel)⟩
theorem lw_p38 : lw_okq (⟨"ReuseHouse$Needs", "countShells", "(LReuseHouse$Program;II)V"⟩, 1) := ⟨⟨by decide +kernel, by decide +kernel⟩, List.mem_of_getElem? (i := 247) (by decide +kernel), List.mem_of_getElem? (i := 928) (by decide +kernel), List.mem_of_getElem? (i := 929) (by decide +kernel)⟩
theorem lw_p39 : lw_okq (⟨"ReuseHouse", "mayWork", "(II)Z"⟩, 17) := ⟨⟨by decide +kernel, by decide +kernel⟩, List.mem_of_getElem? (i := 28) (by decide +kernel), List.mem_of_getElem? (i := 956) (by decide +kernel), List.mem_of_getElem? (i := 957) (by decide +kernel)⟩
theorem lw_p40 : lw_okq (⟨"ReuseHouse", "tellInts", "(IIIII)V"⟩, 17) := ⟨⟨by decide +kernel, by decide +kernel⟩, List.mem_of_getElem? (i := 28) (by decide +kernel), List.mem_of_getElem? (i := 969) (by decide +kernel), List.mem_of_getElem? (i := 970) (by decide +kernel)⟩
theorem lw_p41 : lw_okq (⟨"ReuseHouse$Machine", "openCall", "(II)V"⟩, 20) := ⟨⟨by decide +kernel, by decide +kernel⟩, List.mem_of_getElem? (i := 290) (by decide +kernel), List.mem_of_getElem? (i := 985) (by decide +kernel), List.mem_of_getElem? (i := 986) (by decide +kernel)⟩
theorem lw_p42 : lw_okq (⟨"ReuseHouse$Machine", "turn", "(I)V"⟩, 20) := ⟨⟨by decide +kernel, by decide +kernel⟩, List.mem_of_getElem? (i := 290) (by decide +kernel), List.mem_of_getElem? (i := 994) (by decide +kernel), List.mem_of_getElem? (i := 995) (by decide +kernel)⟩
theorem lw_p43 : lw_okq (⟨"ReuseHouse$Machine", "toldBits", "(I)I"⟩, 20) := ⟨⟨by decide +kernel, by decide +kernel⟩, List.mem_of_getElem? (i := 290) (by decide +kernel), List.mem_of_getElem? (i := 998) (by decide +kernel), List.mem_of_getElem? (i := 999) (by decide +kernel)⟩
theorem lw_p44 : lw_okq (⟨"ReuseHouse$Machine", "dropNames", "(I)V"⟩, 20) := ⟨⟨by decide +kernel, by decide +kernel⟩, List.mem_of_getElem? (i := 290) (by decide +kernel), List.mem_of_getElem? (i := 1003) (by decide +kernel), List.mem_of_getElem? (i := 1004) (by decide +kernel)⟩
theorem lw_p45 : lw_okq (⟨"ReuseHouse$Cells", "lower", "(JI)I"⟩, 13) := ⟨⟨by decide +kernel, by decide +kernel⟩, List.mem_of_getElem? (i := 296) (by decide +kernel), List.mem_of_getElem? (i := 1014) (by decide +kernel), List.mem_of_getElem? (i := 1015) (by decide +kernel)⟩
theorem lw_p46 : lw_okq (⟨"ReuseHouse$Machine", "step", "(I)Z"⟩, 20) := ⟨⟨by decide +kernel, by decide +kernel⟩, List.mem_of_getElem? (i := 290) (by decide +kernel), List.mem_of_getElem? (i := 1035) (by decide +kernel), List.mem_of_getElem? (i := 1036) (by decide +kernel)⟩
theorem lw_p47 : lw_okq (⟨"ReuseHouse$Machine", "stop", "(II)V"⟩, 20) := ⟨⟨by decide +kernel, by decide +kernel⟩, List.mem_of_getElem? (i := 290) (by decide +kernel), List.mem_of_getElem? (i := 1039) (by decide +kernel), List.mem_of_getElem? (i := 1040) (by decide +kernel)⟩
def lw_privs_3 : List (MethodName × Nat) := [(⟨"ReuseHouse$Parser", "kindAtom", "(I)V"⟩, 9), (⟨"ReuseHouse$Parser", "resolveCalls", "()V"⟩, 9), (⟨"ReuseHouse$Parser", "isCall", "(I)Z"⟩, 9), (⟨"ReuseHouse$Parser", "resolveCall", "(I)I"⟩, 9), (⟨"ReuseHouse$Needs", "neededAt", "(LReuseHouse$Program;I)I"⟩, 1), (⟨"ReuseHouse$Needs", "neededInArms", "(LReuseHouse$Program;I)I"⟩, 1), (⟨"ReuseHouse$Needs", "countShells", "(LReuseHouse$Program;II)V"⟩, 1), (⟨"ReuseHouse", "mayWork", "(II)Z"⟩, 17), (⟨"ReuseHouse", "tellInts", "(IIIII)V"⟩, 17), (⟨"ReuseHouse$Machine", "openCall", "(II)V"⟩, 20), (⟨"ReuseHouse$Machine", "turn", "(I)V"⟩, 20), (⟨"ReuseHouse$Machine", "toldBits", "(I)I"⟩, 20), (⟨"ReuseHouse$Machine", "dropNames", "(I)V"⟩, 20), (⟨"ReuseHouse$Cells", "lower", "(JI)I"⟩, 13), (⟨"ReuseHouse$Machine", "step", "(I)Z"⟩, 20), (⟨"ReuseHouse$Machine", "stop", "(II)V"⟩, 20)]
theorem lw_r3 : ∀ q ∈ lw_privs_3, lw_okq q := List.forall_mem_cons.mpr ⟨lw_p32, List.forall_mem_cons.mpr ⟨lw_p33, List.forall_mem_cons.mpr ⟨lw_p34, List.forall_mem_cons.mpr ⟨lw_p35, List.forall_mem_cons.mpr ⟨lw_p36, List.forall_mem_cons.mpr ⟨lw_p37, List.forall_mem_cons.mpr ⟨lw_p38, List.forall_mem_cons.mpr ⟨lw_p39, List.forall_mem_cons.mpr ⟨lw_p40, List.forall_mem_cons.mpr ⟨lw_p41, List.forall_mem_cons.mpr ⟨lw_p42, List.forall_mem_cons.mpr ⟨lw_p43, List.forall_mem_cons.mpr ⟨lw_p44, List.forall_mem_cons.mpr ⟨lw_p45, List.forall_mem_cons.mpr ⟨lw_p46, List.forall_mem_cons.mpr ⟨lw_p47, fun _ h => absurd h List.not_mem_nil⟩⟩⟩⟩⟩⟩⟩⟩⟩⟩⟩⟩⟩⟩⟩⟩
theorem lw_p48 : lw_okq (⟨"ReuseHouse$Machine", "number", "(I)V"⟩, 20) := ⟨⟨by decide +kernel, by decide +kernel⟩, List.mem_of_getElem? (i := 290) (by decide +kernel), List.mem_of_getElem? (i := 1043) (by decide +kernel), List.mem_of_getElem? (i := 1044) (by decide +kernel)⟩
theorem lw_p49 : lw_okq (⟨"ReuseHouse$Machine", "useName", "(I)V"⟩, 20) := ⟨⟨by decide +kernel, by decide +kernel⟩, List.mem_of_getElem? (i := 290) (by decide +kernel), List.mem_of_getElem? (i := 1049) (by decide +kernel), List.mem_of_getElem? (i := 1050) (by decide +kernel)⟩
theorem lw_p50 : lw_okq (⟨"ReuseHouse$Machine", "kindAlone", "(I)V"⟩, 20) := ⟨⟨by decide +kernel, by decide +kernel⟩, List.mem_of_getElem? (i := 290) (by decide +kernel), List.mem_of_getElem? (i := 1057) (by decide +kernel), List.mem_of_getElem? (i := 1058) (by decide +kernel)⟩
theorem lw_p51 : lw_okq (⟨"ReuseHouse$Machine", "build", "(I)V"⟩, 20) := ⟨⟨by decide +kernel, by decide +kernel⟩, List.mem_of_getElem? (i := 290) (by decide +kernel), List.mem_of_getElem? (i := 1065) (by decide +kernel), List.mem_of_getElem? (i := 1066) (by decide +kernel)⟩
theorem lw_p52 : lw_okq (⟨"ReuseHouse$Machine", "takeShell", "(I)I"⟩, 20) := ⟨⟨by decide +kernel, by decide +kernel⟩, List.mem_of_getElem? (i := 290) (by decide +kernel), List.mem_of_getElem? (i := 1070) (by decide +kernel), List.mem_of_getElem? (i := 1071) (by decide +kernel)⟩
theorem lw_p53 : lw_okq (⟨"ReuseHouse$Machine", "callAlone", "(I)V"⟩, 20) := ⟨⟨by decide +kernel, by decide +kernel⟩, List.mem_of_getElem? (i := 290) (by decide +kernel), List.mem_of_getElem? (i := 1087) (by decide +kernel), List.mem_of_getElem? (i := 1088) (by decide +kernel)⟩
theorem lw_p54 : lw_okq (⟨"ReuseHouse$Machine", "call", "(I)V"⟩, 20) := ⟨⟨by decide +kernel, by decide +kernel⟩, List.mem_of_getElem? (i := 290) (by decide +kernel), List.mem_of_getElem? (i := 1091) (by decide +kernel), List.mem_of_getElem? (i := 1092) (by decide +kernel)⟩
theorem lw_p55 : lw_okq (⟨"ReuseHouse$Machine", "bind", "(I)V"⟩, 20) := ⟨⟨by decide +kernel, by decide +kernel⟩, List.mem_of_getElem? (i := 290) (by decide +kernel), List.mem_of_getElem? (i := 1095) (by decide +kernel), List.mem_of_getElem? (i := 1096) (by decide +kernel)⟩
theorem lw_p56 : lw_okq (⟨"ReuseHouse$Machine", "pop", "()J"⟩, 20) := ⟨⟨by decide +kernel, by decide +kernel⟩, List.mem_of_getElem? (i := 290) (by decide +kernel), List.mem_of_getElem? (i := 1099) (by decide +kernel), List.mem_of_getElem? (i := 1100) (by decide +kernel)⟩
theorem lw_p57 : lw_okq (⟨"ReuseHouse$Machine", "choose", "(I)V"⟩, 20) := ⟨⟨by decide +kernel, by decide +kernel⟩, List.mem_of_getElem? (i := 290) (by decide +kernel), List.mem_of_getElem? (i := 1103) (by decide +kernel), List.mem_of_getElem? (i := 1104) (by decide +kernel)⟩
theorem lw_p58 : lw_okq (⟨"ReuseHouse$Machine", "goBehind", "(I)V"⟩, 20) := ⟨⟨by decide +kernel, by decide +kernel⟩, List.mem_of_getElem? (i := 290) (by decide +kernel), List.mem_of_getElem? (i := 1110) (by decide +kernel), List.mem_of_getElem? (i := 1111) (by decide +kernel)⟩
theorem lw_p59 : lw_okq (⟨"ReuseHouse$Machine", "match", "(I)V"⟩, 20) := ⟨⟨by decide +kernel, by decide +kernel⟩, List.mem_of_getElem? (i := 290) (by decide +kernel), List.mem_of_getElem? (i := 1114) (by decide +kernel), List.mem_of_getElem? (i := 1115) (by decide +kernel)⟩
theorem lw_p60 : lw_okq (⟨"ReuseHouse$Machine", "fittingArm", "(II)I"⟩, 20) := ⟨⟨by decide +kernel, by decide +kernel⟩, List.mem_of_getElem? (i := 290) (by decide +kernel), List.mem_of_getElem? (i := 1123) (by decide +kernel), List.mem_of_getElem? (i := 1124) (by decide +kernel)⟩
theorem lw_p61 : lw_okq (⟨"ReuseHouse$Machine", "bindPlainly", "(IJ)V"⟩, 20) := ⟨⟨by decide +kernel, by decide +kernel⟩, List.mem_of_getElem? (i := 290) (by decide +kernel), List.mem_of_getElem? (i := 1127) (by decide +kernel), List.mem_of_getElem? (i := 1128) (by decide +kernel)⟩
theorem lw_p62 : lw_okq (⟨"ReuseHouse$Machine", "keepShell", "(I)V"⟩, 20) := ⟨⟨by decide +kernel, by decide +kernel⟩, List.mem_of_getElem? (i := 290) (by decide +kernel), List.mem_of_getElem? (i := 1134) (by decide +kernel), List.mem_of_getElem? (i := 1135) (by decide +kernel)⟩
theorem lw_p63 : lw_okq (⟨"ReuseHouse$Machine", "takeApart", "(IIIZ)I"⟩, 20) := ⟨⟨by decide +kernel, by decide +kernel⟩, List.mem_of_getElem? (i := 290) (by decide +kernel), List.mem_of_getElem? (i := 1138) (by decide +kernel), List.mem_of_getElem? (i := 1139) (by decide +kernel)⟩
def lw_privs_4 : List (MethodName × Nat) := [(⟨"ReuseHouse$Machine", "number", "(I)V"⟩, 20), (⟨"ReuseHouse$Machine", "useName", "(I)V"⟩, 20), (⟨"ReuseHouse$Machine", "kindAlone", "(I)V"⟩, 20), (⟨"ReuseHouse$Machine", "build", "(I)V"⟩, 20), (⟨"ReuseHouse$Machine", "takeShell", "(I)I"⟩, 20), (⟨"ReuseHouse$Machine", "callAlone", "(I)V"⟩, 20), (⟨"ReuseHouse$Machine", "call", "(I)V"⟩, 20), (⟨"ReuseHouse$Machine", "bind", "(I)V"⟩, 20), (⟨"ReuseHouse$Machine", "pop", "()J"⟩, 20), (⟨"ReuseHouse$Machine", "choose", "(I)V"⟩, 20), (⟨"ReuseHouse$Machine", "goBehind", "(I)V"⟩, 20), (⟨"ReuseHouse$Machine", "match", "(I)V"⟩, 20), (⟨"ReuseHouse$Machine", "fittingArm", "(II)I"⟩, 20), (⟨"ReuseHouse$Machine", "bindPlainly", "(IJ)V"⟩, 20), (⟨"ReuseHouse$Machine", "keepShell", "(I)V"⟩, 20), (⟨"ReuseHouse$Machine", "takeApart", "(IIIZ)I"⟩, 20)]
theorem lw_r4 : ∀ q ∈ lw_privs_4, lw_okq q := List.forall_mem_cons.mpr ⟨lw_p48, List.forall_mem_cons.mpr ⟨lw_p49, List.forall_mem_cons.mpr ⟨lw_p50, List.forall_mem_cons.mpr ⟨lw_p51, List.forall_mem_cons.mpr ⟨lw_p52, List.forall_mem_cons.mpr ⟨lw_p53, List.forall_mem_cons.mpr ⟨lw_p54, List.forall_mem_cons.mpr ⟨lw_p55, List.forall_mem_cons.mpr ⟨lw_p56, List.forall_mem_cons.mpr ⟨lw_p57, List.forall_mem_cons.mpr ⟨lw_p58, List.forall_mem_cons.mpr ⟨lw_p59, List.forall_mem_cons.mpr ⟨lw_p60, List.forall_mem_cons.mpr ⟨lw_p61, List.forall_mem_cons.mpr ⟨lw_p62, List.forall_mem_cons.mpr ⟨lw_p63, fun _ h => absurd h List.not_mem_nil⟩⟩⟩⟩⟩⟩⟩⟩⟩⟩⟩⟩⟩⟩⟩⟩
theorem lw_p64 : lw_okq (⟨"ReuseHouse$Machine", "leaveArm", "(I)V"⟩, 20) := ⟨⟨by decide +kernel, by decide +kernel⟩, List.mem_of_getElem? (i := 290) (by decide +kernel), List.mem_of_getElem? (i := 1144) (by decide +kernel), List.mem_of_getElem? (i := 1145) (by decide +kernel)⟩
theorem lw_p65 : lw_okq (⟨"ReuseHouse$Machine", "closeCall", "()V"⟩, 20) := ⟨⟨by decide +kernel, by decide +kernel⟩, List.mem_of_getElem? (i := 290) (by decide +kernel), List.mem_of_getElem? (i := 1148) (by decide +kernel), List.mem_of_getElem? (i := 1149) (by decide +kernel)⟩
theorem lw_p66 : lw_okq (⟨"ReuseHouse$Machine", "sign", "(I)V"⟩, 20) := ⟨⟨by decide +kernel, by decide +kernel⟩, List.mem_of_getElem? (i := 290) (by decide +kernel), List.mem_of_getElem? (i := 1152) (by decide +kernel), List.mem_of_getElem? (i := 1153) (by decide +kernel)⟩
theorem lw_p67 : lw_okq (⟨"ReuseHouse$Printer", "putValue", "(JLReuseHouse$Cells;)V"⟩, 8) := ⟨⟨by decide +kernel, by decide +kernel⟩, List.mem_of_getElem? (i := 424) (by decide +kernel), List.mem_of_getElem? (i := 1171) (by decide +kernel), List.mem_of_getElem? (i := 1172) (by decide +kernel)⟩
theorem lw_p68 : lw_okq (⟨"ReuseHouse$Printer", "putInt", "(I)V"⟩, 8) := ⟨⟨by decide +kernel, by decide +kernel⟩, List.mem_of_getElem? (i := 424) (by decide +kernel), List.mem_of_getElem? (i := 1176) (by decide +kernel), List.mem_of_getElem? (i := 1177) (by decide +kernel)⟩
theorem lw_p69 : lw_okq (⟨"ReuseHouse$Printer", "put", "(I)V"⟩, 8) := ⟨⟨by decide +kernel, by decide +kernel⟩, List.mem_of_getElem? (i := 424) (by decide +kernel), List.mem_of_getElem? (i := 1180) (by decide +kernel), List.mem_of_getElem? (i := 1181) (by decide +kernel)⟩
theorem lw_p70 : lw_okq (⟨"ReuseHouse$Printer", "putKind", "(J)V"⟩, 8) := ⟨⟨by decide +kernel, by decide +kernel⟩, List.mem_of_getElem? (i := 424) (by decide +kernel), List.mem_of_getElem? (i := 1191) (by decide +kernel), List.mem_of_getElem? (i := 1192) (by decide +kernel)⟩
theorem lw_p71 : lw_okq (⟨"ReuseHouse$Printer", "openFields", "(I)V"⟩, 8) := ⟨⟨by decide +kernel, by decide +kernel⟩, List.mem_of_getElem? (i := 424) (by decide +kernel), List.mem_of_getElem? (i := 1196) (by decide +kernel), List.mem_of_getElem? (i := 1197) (by decide +kernel)⟩
theorem lw_p72 : lw_okq (⟨"ReuseHouse$Printer", "putNextField", "(LReuseHouse$Cells;)V"⟩, 8) := ⟨⟨by decide +kernel, by decide +kernel⟩, List.mem_of_getElem? (i := 424) (by decide +kernel), List.mem_of_getElem? (i := 1200) (by decide +kernel), List.mem_of_getElem? (i := 1201) (by decide +kernel)⟩
theorem lw_p73 : lw_okq (⟨"ReuseHouseModel", "reads", "()V"⟩, 63) := ⟨⟨by decide +kernel, by decide +kernel⟩, List.mem_of_getElem? (i := 1242) (by decide +kernel), List.mem_of_getElem? (i := 1571) (by decide +kernel), List.mem_of_getElem? (i := 1572) (by decide +kernel)⟩
theorem lw_p74 : lw_okq (⟨"ReuseHouseModel", "next", "()V"⟩, 63) := ⟨⟨by decide +kernel, by decide +kernel⟩, List.mem_of_getElem? (i := 1242) (by decide +kernel), List.mem_of_getElem? (i := 1575) (by decide +kernel), List.mem_of_getElem? (i := 1576) (by decide +kernel)⟩
theorem lw_p75 : lw_okq (⟨"ReuseHouseModel", "byteAt", "(I)I"⟩, 63) := ⟨⟨by decide +kernel, by decide +kernel⟩, List.mem_of_getElem? (i := 1242) (by decide +kernel), List.mem_of_getElem? (i := 1579) (by decide +kernel), List.mem_of_getElem? (i := 1580) (by decide +kernel)⟩
theorem lw_p76 : lw_okq (⟨"ReuseHouseModel", "isWord", "(Ljava/lang/String;)Z"⟩, 63) := ⟨⟨by decide +kernel, by decide +kernel⟩, List.mem_of_getElem? (i := 1242) (by decide +kernel), List.mem_of_getElem? (i := 1627) (by decide +kernel), List.mem_of_getElem? (i := 1628) (by decide +kernel)⟩
theorem lw_p77 : lw_okq (⟨"ReuseHouseModel", "stop", "(II)LReuseHouseModel$Stop;"⟩, 63) := ⟨⟨by decide +kernel, by decide +kernel⟩, List.mem_of_getElem? (i := 1242) (by decide +kernel), List.mem_of_getElem? (i := 1631) (by decide +kernel), List.mem_of_getElem? (i := 1632) (by decide +kernel)⟩
theorem lw_p78 : lw_okq (⟨"ReuseHouseModel", "slotOf", "(J)I"⟩, 63) := ⟨⟨by decide +kernel, by decide +kernel⟩, List.mem_of_getElem? (i := 1242) (by decide +kernel), List.mem_of_getElem? (i := 1638) (by decide +kernel), List.mem_of_getElem? (i := 1639) (by decide +kernel)⟩
theorem lw_p79 : lw_okq (⟨"ReuseHouseModel", "tells", "()I"⟩, 63) := ⟨⟨by decide +kernel, by decide +kernel⟩, List.mem_of_getElem? (i := 1242) (by decide +kernel), List.mem_of_getElem? (i := 1642) (by decide +kernel), List.mem_of_getElem? (i := 1643) (by decide +kernel)⟩
def lw_privs_5 : List (MethodName × Nat) := [(⟨"ReuseHouse$Machine", "leaveArm", "(I)V"⟩, 20), (⟨"ReuseHouse$Machine", "closeCall", "()V"⟩, 20), (⟨"ReuseHouse$Machine", "sign", "(I)V"⟩, 20), (⟨"ReuseHouse$Printer", "putValue", "(JLReuseHouse$Cells;)V"⟩, 8), (⟨"ReuseHouse$Printer", "putInt", "(I)V"⟩, 8), (⟨"ReuseHouse$Printer", "put", "(I)V"⟩, 8), (⟨"ReuseHouse$Printer", "putKind", "(J)V"⟩, 8), (⟨"ReuseHouse$Printer", "openFields", "(I)V"⟩, 8), (⟨"ReuseHouse$Printer", "putNextField", "(LReuseHouse$Cells;)V"⟩, 8), (⟨"ReuseHouseModel", "reads", "()V"⟩, 63), (⟨"ReuseHouseModel", "next", "()V"⟩, 63), (⟨"ReuseHouseModel", "byteAt", "(I)I"⟩, 63), (⟨"ReuseHouseModel", "isWord", "(Ljava/lang/String;)Z"⟩, 63), (⟨"ReuseHouseModel", "stop", "(II)LReuseHouseModel$Stop;"⟩, 63), (⟨"ReuseHouseModel", "slotOf", "(J)I"⟩, 63), (⟨"ReuseHouseModel", "tells", "()I"⟩, 63)]
theorem lw_r5 : ∀ q ∈ lw_privs_5, lw_okq q := List.forall_mem_cons.mpr ⟨lw_p64, List.forall_mem_cons.mpr ⟨lw_p65, List.forall_mem_cons.mpr ⟨lw_p66, List.forall_mem_cons.mpr ⟨lw_p67, List.forall_mem_cons.mpr ⟨lw_p68, List.forall_mem_cons.mpr ⟨lw_p69, List.forall_mem_cons.mpr ⟨lw_p70, List.forall_mem_cons.mpr ⟨lw_p71, List.forall_mem_cons.mpr ⟨lw_p72, List.forall_mem_cons.mpr ⟨lw_p73, List.forall_mem_cons.mpr ⟨lw_p74, List.forall_mem_cons.mpr ⟨lw_p75, List.forall_mem_cons.mpr ⟨lw_p76, List.forall_mem_cons.mpr ⟨lw_p77, List.forall_mem_cons.mpr ⟨lw_p78, List.forall_mem_cons.mpr ⟨lw_p79, fun _ h => absurd h List.not_mem_nil⟩⟩⟩⟩⟩⟩⟩⟩⟩⟩⟩⟩⟩⟩⟩⟩
theorem lw_p80 : lw_okq (⟨"ReuseHouseModel", "need", "(I)V"⟩, 63) := ⟨⟨by decide +kernel, by decide +kernel⟩, List.mem_of_getElem? (i := 1242) (by decide +kernel), List.mem_of_getElem? (i := 1647) (by decide +kernel), List.mem_of_getElem? (i := 1648) (by decide +kernel)⟩
theorem lw_p81 : lw_okq (⟨"ReuseHouseModel", "is", "(I)Z"⟩, 63) := ⟨⟨by decide +kernel, by decide +kernel⟩, List.mem_of_getElem? (i := 1242) (by decide +kernel), List.mem_of_getElem? (i := 1651) (by decide +kernel), List.mem_of_getElem? (i := 1652) (by decide +kernel)⟩
theorem lw_p82 : lw_okq (⟨"ReuseHouseModel", "expr", "()I"⟩, 63) := ⟨⟨by decide +kernel, by decide +kernel⟩, List.mem_of_getElem? (i := 1242) (by decide +kernel), List.mem_of_getElem? (i := 1655) (by decide +kernel), List.mem_of_getElem? (i := 1656) (by decide +kernel)⟩
theorem lw_p83 : lw_okq (⟨"ReuseHouseModel", "begins", "()Z"⟩, 63) := ⟨⟨by decide +kernel, by decide +kernel⟩, List.mem_of_getElem? (i := 1242) (by decide +kernel), List.mem_of_getElem? (i := 1659) (by decide +kernel), List.mem_of_getElem? (i := 1660) (by decide +kernel)⟩
theorem lw_p84 : lw_okq (⟨"ReuseHouseModel", "let", "()I"⟩, 63) := ⟨⟨by decide +kernel, by decide +kernel⟩, List.mem_of_getElem? (i := 1242) (by decide +kernel), List.mem_of_getElem? (i := 1663) (by decide +kernel), List.mem_of_getElem? (i := 1664) (by decide +kernel)⟩
theorem lw_p85 : lw_okq (⟨"ReuseHouseModel", "needWord", "(Ljava/lang/String;)V"⟩, 63) := ⟨⟨by decide +kernel, by decide +kernel⟩, List.mem_of_getElem? (i := 1242) (by decide +kernel), List.mem_of_getElem? (i := 1667) (by decide +kernel), List.mem_of_getElem? (i := 1668) (by decide +kernel)⟩
theorem lw_p86 : lw_okq (⟨"ReuseHouseModel", "part", "(II)I"⟩, 63) := ⟨⟨by decide +kernel, by decide +kernel⟩, List.mem_of_getElem? (i := 1242) (by decide +kernel), List.mem_of_getElem? (i := 1671) (by decide +kernel), List.mem_of_getElem? (i := 1672) (by decide +kernel)⟩
theorem lw_p87 : lw_okq (⟨"ReuseHouseModel", "ifs", "()I"⟩, 63) := ⟨⟨by decide +kernel, by decide +kernel⟩, List.mem_of_getElem? (i := 1242) (by decide +kernel), List.mem_of_getElem? (i := 1675) (by decide +kernel), List.mem_of_getElem? (i := 1676) (by decide +kernel)⟩
theorem lw_p88 : lw_okq (⟨"ReuseHouseModel", "match", "()I"⟩, 63) := ⟨⟨by decide +kernel, by decide +kernel⟩, List.mem_of_getElem? (i := 1242) (by decide +kernel), List.mem_of_getElem? (i := 1679) (by decide +kernel), List.mem_of_getElem? (i := 1680) (by decide +kernel)⟩
theorem lw_p89 : lw_okq (⟨"ReuseHouseModel", "isSeen", "(I)Z"⟩, 63) := ⟨⟨by decide +kernel, by decide +kernel⟩, List.mem_of_getElem? (i := 1242) (by decide +kernel), List.mem_of_getElem? (i := 1683) (by decide +kernel), List.mem_of_getElem? (i := 1684) (by decide +kernel)⟩
theorem lw_p90 : lw_okq (⟨"ReuseHouseModel", "kind", "()I"⟩, 63) := ⟨⟨by decide +kernel, by decide +kernel⟩, List.mem_of_getElem? (i := 1242) (by decide +kernel), List.mem_of_getElem? (i := 1687) (by decide +kernel), List.mem_of_getElem? (i := 1688) (by decide +kernel)⟩
theorem lw_p91 : lw_okq (⟨"ReuseHouseModel", "fields", "()I"⟩, 63) := ⟨⟨by decide +kernel, by decide +kernel⟩, List.mem_of_getElem? (i := 1242) (by decide +kernel), List.mem_of_getElem? (i := 1691) (by decide +kernel), List.mem_of_getElem? (i := 1692) (by decide +kernel)⟩
theorem lw_p92 : lw_okq (⟨"ReuseHouseModel", "has", "(III)V"⟩, 63) := ⟨⟨by decide +kernel, by decide +kernel⟩, List.mem_of_getElem? (i := 1242) (by decide +kernel), List.mem_of_getElem? (i := 1695) (by decide +kernel), List.mem_of_getElem? (i := 1696) (by decide +kernel)⟩
theorem lw_p93 : lw_okq (⟨"ReuseHouseModel", "compared", "()I"⟩, 63) := ⟨⟨by decide +kernel, by decide +kernel⟩, List.mem_of_getElem? (i := 1242) (by decide +kernel), List.mem_of_getElem? (i := 1699) (by decide +kernel), List.mem_of_getElem? (i := 1700) (by decide +kernel)⟩
theorem lw_p94 : lw_okq (⟨"ReuseHouseModel", "sum", "()I"⟩, 63) := ⟨⟨by decide +kernel, by decide +kernel⟩, List.mem_of_getElem? (i := 1242) (by decide +kernel), List.mem_of_getElem? (i := 1703) (by decide +kernel), List.mem_of_getElem? (i := 1704) (by decide +kernel)⟩
theorem lw_p95 : lw_okq (⟨"ReuseHouseModel", "product", "()I"⟩, 63) := ⟨⟨by decide +kernel, by decide +kernel⟩, List.mem_of_getElem? (i := 1242) (by decide +kernel), List.mem_of_getElem? (i := 1707) (by decide +kernel), List.mem_of_getElem? (i := 1708) (by decide +kernel)⟩
def lw_privs_6 : List (MethodName × Nat) := [(⟨"ReuseHouseModel", "need", "(I)V"⟩, 63), (⟨"ReuseHouseModel", "is", "(I)Z"⟩, 63), (⟨"ReuseHouseModel", "expr", "()I"⟩, 63), (⟨"ReuseHouseModel", "begins", "()Z"⟩, 63), (⟨"ReuseHouseModel", "let", "()I"⟩, 63), (⟨"ReuseHouseModel", "needWord", "(Ljava/lang/String;)V"⟩, 63), (⟨"ReuseHouseModel", "part", "(II)I"⟩, 63), (⟨"ReuseHouseModel", "ifs", "()I"⟩, 63), (⟨"ReuseHouseModel", "match", "()I"⟩, 63), (⟨"ReuseHouseModel", "isSeen", "(I)Z"⟩, 63), (⟨"ReuseHouseModel", "kind", "()I"⟩, 63), (⟨"ReuseHouseModel", "fields", "()I"⟩, 63), (⟨"ReuseHouseModel", "has", "(III)V"⟩, 63), (⟨"ReuseHouseModel", "compared", "()I"⟩, 63), (⟨"ReuseHouseModel", "sum", "()I"⟩, 63), (⟨"ReuseHouseModel", "product", "()I"⟩, 63)]
theorem lw_r6 : ∀ q ∈ lw_privs_6, lw_okq q := List.forall_mem_cons.mpr ⟨lw_p80, List.forall_mem_cons.mpr ⟨lw_p81, List.forall_mem_cons.mpr ⟨lw_p82, List.forall_mem_cons.mpr ⟨lw_p83, List.forall_mem_cons.mpr ⟨lw_p84, List.forall_mem_cons.mpr ⟨lw_p85, List.forall_mem_cons.mpr ⟨lw_p86, List.forall_mem_cons.mpr ⟨lw_p87, List.forall_mem_cons.mpr ⟨lw_p88, List.forall_mem_cons.mpr ⟨lw_p89, List.forall_mem_cons.mpr ⟨lw_p90, List.forall_mem_cons.mpr ⟨lw_p91, List.forall_mem_cons.mpr ⟨lw_p92, List.forall_mem_cons.mpr ⟨lw_p93, List.forall_mem_cons.mpr ⟨lw_p94, List.forall_mem_cons.mpr ⟨lw_p95, fun _ h => absurd h List.not_mem_nil⟩⟩⟩⟩⟩⟩⟩⟩⟩⟩⟩⟩⟩⟩⟩⟩
theorem lw_p96 : lw_okq (⟨"ReuseHouseModel", "atom", "()I"⟩, 63) := ⟨⟨by decide +kernel, by decide +kernel⟩, List.mem_of_getElem? (i := 1242) (by decide +kernel), List.mem_of_getElem? (i := 1711) (by decide +kernel), List.mem_of_getElem? (i := 1712) (by decide +kernel)⟩
theorem lw_p97 : lw_okq (⟨"ReuseHouseModel", "named", "(I)I"⟩, 63) := ⟨⟨by decide +kernel, by decide +kernel⟩, List.mem_of_getElem? (i := 1242) (by decide +kernel), List.mem_of_getElem? (i := 1715) (by decide +kernel), List.mem_of_getElem? (i := 1716) (by decide +kernel)⟩
theorem lw_p98 : lw_okq (⟨"ReuseHouseModel", "arguments", "(I)I"⟩, 63) := ⟨⟨by decide +kernel, by decide +kernel⟩, List.mem_of_getElem? (i := 1242) (by decide +kernel), List.mem_of_getElem? (i := 1719) (by decide +kernel), List.mem_of_getElem? (i := 1720) (by decide +kernel)⟩
theorem lw_p99 : lw_okq (⟨"ReuseHouseModel", "both", "(IIII)I"⟩, 63) := ⟨⟨by decide +kernel, by decide +kernel⟩, List.mem_of_getElem? (i := 1242) (by decide +kernel), List.mem_of_getElem? (i := 1723) (by decide +kernel), List.mem_of_getElem? (i := 1724) (by decide +kernel)⟩
theorem lw_p100 : lw_okq (⟨"ReuseHouseModel", "needed", "(I)V"⟩, 63) := ⟨⟨by decide +kernel, by decide +kernel⟩, List.mem_of_getElem? (i := 1242) (by decide +kernel), List.mem_of_getElem? (i := 1727) (by decide +kernel), List.mem_of_getElem? (i := 1728) (by decide +kernel)⟩
theorem lw_p101 : lw_okq (⟨"ReuseHouseModel", "isNeeded", "(II)Z"⟩, 63) := ⟨⟨by decide +kernel, by decide +kernel⟩, List.mem_of_getElem? (i := 1242) (by decide +kernel), List.mem_of_getElem? (i := 1749) (by decide +kernel), List.mem_of_getElem? (i := 1750) (by decide +kernel)⟩
theorem lw_p102 : lw_okq (⟨"ReuseHouseModel", "isMade", "(I)Z"⟩, 63) := ⟨⟨by decide +kernel, by decide +kernel⟩, List.mem_of_getElem? (i := 1242) (by decide +kernel), List.mem_of_getElem? (i := 1753) (by decide +kernel), List.mem_of_getElem? (i := 1754) (by decide +kernel)⟩
theorem lw_p103 : lw_okq (⟨"ReuseHouseModel", "isGood", "(II)Z"⟩, 63) := ⟨⟨by decide +kernel, by decide +kernel⟩, List.mem_of_getElem? (i := 1242) (by decide +kernel), List.mem_of_getElem? (i := 1761) (by decide +kernel), List.mem_of_getElem? (i := 1762) (by decide +kernel)⟩
theorem lw_p104 : lw_okq (⟨"ReuseHouseModel", "worked", "(IIIIII)I"⟩, 63) := ⟨⟨by decide +kernel, by decide +kernel⟩, List.mem_of_getElem? (i := 1242) (by decide +kernel), List.mem_of_getElem? (i := 1765) (by decide +kernel), List.mem_of_getElem? (i := 1766) (by decide +kernel)⟩
theorem lw_p105 : lw_okq (⟨"ReuseHouseModel", "push", "(J)V"⟩, 63) := ⟨⟨by decide +kernel, by decide +kernel⟩, List.mem_of_getElem? (i := 1242) (by decide +kernel), List.mem_of_getElem? (i := 1773) (by decide +kernel), List.mem_of_getElem? (i := 1774) (by decide +kernel)⟩
theorem lw_p106 : lw_okq (⟨"ReuseHouseModel", "enters", "(II)V"⟩, 63) := ⟨⟨by decide +kernel, by decide +kernel⟩, List.mem_of_getElem? (i := 1242) (by decide +kernel), List.mem_of_getElem? (i := 1777) (by decide +kernel), List.mem_of_getElem? (i := 1778) (by decide +kernel)⟩
theorem lw_p107 : lw_okq (⟨"ReuseHouseModel", "call", "()I"⟩, 63) := ⟨⟨by decide +kernel, by decide +kernel⟩, List.mem_of_getElem? (i := 1242) (by decide +kernel), List.mem_of_getElem? (i := 1781) (by decide +kernel), List.mem_of_getElem? (i := 1782) (by decide +kernel)⟩
theorem lw_p108 : lw_okq (⟨"ReuseHouseModel", "gets", "(IJZ)V"⟩, 63) := ⟨⟨by decide +kernel, by decide +kernel⟩, List.mem_of_getElem? (i := 1242) (by decide +kernel), List.mem_of_getElem? (i := 1785) (by decide +kernel), List.mem_of_getElem? (i := 1786) (by decide +kernel)⟩
theorem lw_p109 : lw_okq (⟨"ReuseHouseModel", "drops", "(J)V"⟩, 63) := ⟨⟨by decide +kernel, by decide +kernel⟩, List.mem_of_getElem? (i := 1242) (by decide +kernel), List.mem_of_getElem? (i := 1789) (by decide +kernel), List.mem_of_getElem? (i := 1790) (by decide +kernel)⟩
theorem lw_p110 : lw_okq (⟨"ReuseHouseModel", "frees", "(I)V"⟩, 63) := ⟨⟨by decide +kernel, by decide +kernel⟩, List.mem_of_getElem? (i := 1242) (by decide +kernel), List.mem_of_getElem? (i := 1797) (by decide +kernel), List.mem_of_getElem? (i := 1798) (by decide +kernel)⟩
theorem lw_p111 : lw_okq (⟨"ReuseHouseModel", "task", "(II)V"⟩, 63) := ⟨⟨by decide +kernel, by decide +kernel⟩, List.mem_of_getElem? (i := 1242) (by decide +kernel), List.mem_of_getElem? (i := 1801) (by decide +kernel), List.mem_of_getElem? (i := 1802) (by decide +kernel)⟩
def lw_privs_7 : List (MethodName × Nat) := [(⟨"ReuseHouseModel", "atom", "()I"⟩, 63), (⟨"ReuseHouseModel", "named", "(I)I"⟩, 63), (⟨"ReuseHouseModel", "arguments", "(I)I"⟩, 63), (⟨"ReuseHouseModel", "both", "(IIII)I"⟩, 63), (⟨"ReuseHouseModel", "needed", "(I)V"⟩, 63), (⟨"ReuseHouseModel", "isNeeded", "(II)Z"⟩, 63), (⟨"ReuseHouseModel", "isMade", "(I)Z"⟩, 63), (⟨"ReuseHouseModel", "isGood", "(II)Z"⟩, 63), (⟨"ReuseHouseModel", "worked", "(IIIIII)I"⟩, 63), (⟨"ReuseHouseModel", "push", "(J)V"⟩, 63), (⟨"ReuseHouseModel", "enters", "(II)V"⟩, 63), (⟨"ReuseHouseModel", "call", "()I"⟩, 63), (⟨"ReuseHouseModel", "gets", "(IJZ)V"⟩, 63), (⟨"ReuseHouseModel", "drops", "(J)V"⟩, 63), (⟨"ReuseHouseModel", "frees", "(I)V"⟩, 63), (⟨"ReuseHouseModel", "task", "(II)V"⟩, 63)]
theorem lw_r7 : ∀ q ∈ lw_privs_7, lw_okq q := List.forall_mem_cons.mpr ⟨lw_p96, List.forall_mem_cons.mpr ⟨lw_p97, List.forall_mem_cons.mpr ⟨lw_p98, List.forall_mem_cons.mpr ⟨lw_p99, List.forall_mem_cons.mpr ⟨lw_p100, List.forall_mem_cons.mpr ⟨lw_p101, List.forall_mem_cons.mpr ⟨lw_p102, List.forall_mem_cons.mpr ⟨lw_p103, List.forall_mem_cons.mpr ⟨lw_p104, List.forall_mem_cons.mpr ⟨lw_p105, List.forall_mem_cons.mpr ⟨lw_p106, List.forall_mem_cons.mpr ⟨lw_p107, List.forall_mem_cons.mpr ⟨lw_p108, List.forall_mem_cons.mpr ⟨lw_p109, List.forall_mem_cons.mpr ⟨lw_p110, List.forall_mem_cons.mpr ⟨lw_p111, fun _ h => absurd h List.not_mem_nil⟩⟩⟩⟩⟩⟩⟩⟩⟩⟩⟩⟩⟩⟩⟩⟩
theorem lw_p112 : lw_okq (⟨"ReuseHouseModel", "works", "(II)V"⟩, 63) := ⟨⟨by decide +kernel, by decide +kernel⟩, List.mem_of_getElem? (i := 1242) (by decide +kernel), List.mem_of_getElem? (i := 1805) (by decide +kernel), List.mem_of_getElem? (i := 1806) (by decide +kernel)⟩
theorem lw_p113 : lw_okq (⟨"ReuseHouseModel", "doubles", "(J)V"⟩, 63) := ⟨⟨by decide +kernel, by decide +kernel⟩, List.mem_of_getElem? (i := 1242) (by decide +kernel), List.mem_of_getElem? (i := 1809) (by decide +kernel), List.mem_of_getElem? (i := 1810) (by decide +kernel)⟩
theorem lw_p114 : lw_okq (⟨"ReuseHouseModel", "matches", "(I)V"⟩, 63) := ⟨⟨by decide +kernel, by decide +kernel⟩, List.mem_of_getElem? (i := 1242) (by decide +kernel), List.mem_of_getElem? (i := 1813) (by decide +kernel), List.mem_of_getElem? (i := 1814) (by decide +kernel)⟩
theorem lw_p115 : lw_okq (⟨"ReuseHouseModel", "wayBegins", "(I)V"⟩, 63) := ⟨⟨by decide +kernel, by decide +kernel⟩, List.mem_of_getElem? (i := 1242) (by decide +kernel), List.mem_of_getElem? (i := 1820) (by decide +kernel), List.mem_of_getElem? (i := 1821) (by decide +kernel)⟩
theorem lw_p116 : lw_okq (⟨"ReuseHouseModel", "puts", "(I)V"⟩, 63) := ⟨⟨by decide +kernel, by decide +kernel⟩, List.mem_of_getElem? (i := 1242) (by decide +kernel), List.mem_of_getElem? (i := 1824) (by decide +kernel), List.mem_of_getElem? (i := 1825) (by decide +kernel)⟩
theorem lw_p117 : lw_okq (⟨"ReuseHouseModel", "does", "(I)V"⟩, 63) := ⟨⟨by decide +kernel, by decide +kernel⟩, List.mem_of_getElem? (i := 1242) (by decide +kernel), List.mem_of_getElem? (i := 1828) (by decide +kernel), List.mem_of_getElem? (i := 1829) (by decide +kernel)⟩
theorem lw_p118 : lw_okq (⟨"ReuseHouseModel", "pop", "()J"⟩, 63) := ⟨⟨by decide +kernel, by decide +kernel⟩, List.mem_of_getElem? (i := 1242) (by decide +kernel), List.mem_of_getElem? (i := 1832) (by decide +kernel), List.mem_of_getElem? (i := 1833) (by decide +kernel)⟩
theorem lw_p119 : lw_okq (⟨"ReuseHouseModel", "makes", "(I)V"⟩, 63) := ⟨⟨by decide +kernel, by decide +kernel⟩, List.mem_of_getElem? (i := 1242) (by decide +kernel), List.mem_of_getElem? (i := 1836) (by decide +kernel), List.mem_of_getElem? (i := 1837) (by decide +kernel)⟩
theorem lw_p120 : lw_okq (⟨"ReuseHouseModel", "plainCell", "(I)I"⟩, 63) := ⟨⟨by decide +kernel, by decide +kernel⟩, List.mem_of_getElem? (i := 1242) (by decide +kernel), List.mem_of_getElem? (i := 1841) (by decide +kernel), List.mem_of_getElem? (i := 1842) (by decide +kernel)⟩
theorem lw_p121 : lw_okq (⟨"ReuseHouseModel", "cell", "(II)I"⟩, 63) := ⟨⟨by decide +kernel, by decide +kernel⟩, List.mem_of_getElem? (i := 1242) (by decide +kernel), List.mem_of_getElem? (i := 1845) (by decide +kernel), List.mem_of_getElem? (i := 1846) (by decide +kernel)⟩
theorem lw_p122 : lw_okq (⟨"ReuseHouseModel", "takesShell", "(I)V"⟩, 63) := ⟨⟨by decide +kernel, by decide +kernel⟩, List.mem_of_getElem? (i := 1242) (by decide +kernel), List.mem_of_getElem? (i := 1849) (by decide +kernel), List.mem_of_getElem? (i := 1850) (by decide +kernel)⟩
theorem lw_p123 : lw_okq (⟨"ReuseHouseModel", "held", "()I"⟩, 63) := ⟨⟨by decide +kernel, by decide +kernel⟩, List.mem_of_getElem? (i := 1242) (by decide +kernel), List.mem_of_getElem? (i := 1853) (by decide +kernel), List.mem_of_getElem? (i := 1854) (by decide +kernel)⟩
theorem lw_p124 : lw_okq (⟨"ReuseHouseModel", "ends", "(I)V"⟩, 63) := ⟨⟨by decide +kernel, by decide +kernel⟩, List.mem_of_getElem? (i := 1242) (by decide +kernel), List.mem_of_getElem? (i := 1858) (by decide +kernel), List.mem_of_getElem? (i := 1859) (by decide +kernel)⟩
theorem lw_p125 : lw_okq (⟨"ReuseHouseModel", "says", "(JZ)V"⟩, 63) := ⟨⟨by decide +kernel, by decide +kernel⟩, List.mem_of_getElem? (i := 1242) (by decide +kernel), List.mem_of_getElem? (i := 1870) (by decide +kernel), List.mem_of_getElem? (i := 1871) (by decide +kernel)⟩
theorem lw_p126 : lw_okq (⟨"ReuseHouseModel", "say", "(I)V"⟩, 63) := ⟨⟨by decide +kernel, by decide +kernel⟩, List.mem_of_getElem? (i := 1242) (by decide +kernel), List.mem_of_getElem? (i := 1874) (by decide +kernel), List.mem_of_getElem? (i := 1875) (by decide +kernel)⟩
theorem lw_p127 : lw_okq (⟨"ReuseHouseModel", "sayInt", "(I)V"⟩, 63) := ⟨⟨by decide +kernel, by decide +kernel⟩, List.mem_of_getElem? (i := 1242) (by decide +kernel), List.mem_of_getElem? (i := 1878) (by decide +kernel), List.mem_of_getElem? (i := 1879) (by decide +kernel)⟩
def lw_privs_8 : List (MethodName × Nat) := [(⟨"ReuseHouseModel", "works", "(II)V"⟩, 63), (⟨"ReuseHouseModel", "doubles", "(J)V"⟩, 63), (⟨"ReuseHouseModel", "matches", "(I)V"⟩, 63), (⟨"ReuseHouseModel", "wayBegins", "(I)V"⟩, 63), (⟨"ReuseHouseModel", "puts", "(I)V"⟩, 63), (⟨"ReuseHouseModel", "does", "(I)V"⟩, 63), (⟨"ReuseHouseModel", "pop", "()J"⟩, 63), (⟨"ReuseHouseModel", "makes", "(I)V"⟩, 63), (⟨"ReuseHouseModel", "plainCell", "(I)I"⟩, 63), (⟨"ReuseHouseModel", "cell", "(II)I"⟩, 63), (⟨"ReuseHouseModel", "takesShell", "(I)V"⟩, 63), (⟨"ReuseHouseModel", "held", "()I"⟩, 63), (⟨"ReuseHouseModel", "ends", "(I)V"⟩, 63), (⟨"ReuseHouseModel", "says", "(JZ)V"⟩, 63), (⟨"ReuseHouseModel", "say", "(I)V"⟩, 63), (⟨"ReuseHouseModel", "sayInt", "(I)V"⟩, 63)]
theorem lw_r8 : ∀ q ∈ lw_privs_8, lw_okq q := List.forall_mem_cons.mpr ⟨lw_p112, List.forall_mem_cons.mpr ⟨lw_p113, List.forall_mem_cons.mpr ⟨lw_p114, List.forall_mem_cons.mpr ⟨lw_p115, List.forall_mem_cons.mpr ⟨lw_p116, List.forall_mem_cons.mpr ⟨lw_p117, List.forall_mem_cons.mpr ⟨lw_p118, List.forall_mem_cons.mpr ⟨lw_p119, List.forall_mem_cons.mpr ⟨lw_p120, List.forall_mem_cons.mpr ⟨lw_p121, List.forall_mem_cons.mpr ⟨lw_p122, List.forall_mem_cons.mpr ⟨lw_p123, List.forall_mem_cons.mpr ⟨lw_p124, List.forall_mem_cons.mpr ⟨lw_p125, List.forall_mem_cons.mpr ⟨lw_p126, List.forall_mem_cons.mpr ⟨lw_p127, fun _ h => absurd h List.not_mem_nil⟩⟩⟩⟩⟩⟩⟩⟩⟩⟩⟩⟩⟩⟩⟩⟩
theorem lw_p128 : lw_okq (⟨"ReuseHouseModel", "sayKind", "(I)V"⟩, 63) := ⟨⟨by decide +kernel, by decide +kernel⟩, List.mem_of_getElem? (i := 1242) (by decide +kernel), List.mem_of_getElem? (i := 1882) (by decide +kernel), List.mem_of_getElem? (i := 1883) (by decide +kernel)⟩
def lw_privs_9 : List (MethodName × Nat) := [(⟨"ReuseHouseModel", "sayKind", "(I)V"⟩, 63)]
theorem lw_r9 : ∀ q ∈ lw_privs_9, lw_okq q := List.forall_mem_cons.mpr ⟨lw_p128, fun _ h => absurd h List.not_mem_nil⟩
def lw_privs : List (MethodName × Nat) := lw_privs_1 ++ (lw_privs_2 ++ (lw_privs_3 ++ (lw_privs_4 ++ (lw_privs_5 ++ (lw_privs_6 ++ (lw_privs_7 ++ (lw_privs_8 ++ (lw_privs_9))))))))
def lw_tbl : List Cond := k2_sels lw_privs ++ tables_1
theorem lw_privs_ok : ∀ q ∈ lw_privs, lw_okq q := by
  show ∀ q ∈ lw_privs_1 ++ (lw_privs_2 ++ (lw_privs_3 ++ (lw_privs_4 ++ (lw_privs_5 ++ (lw_privs_6 ++ (lw_privs_7 ++ (lw_privs_8 ++ (lw_privs_9)))))))), lw_okq q
  exact List.forall_mem_append.mpr ⟨lw_r1, List.forall_mem_append.mpr ⟨lw_r2, List.forall_mem_append.mpr ⟨lw_r3, List.forall_mem_append.mpr ⟨lw_r4, List.forall_mem_append.mpr ⟨lw_r5, List.forall_mem_append.mpr ⟨lw_r6, List.forall_mem_append.mpr ⟨lw_r7, List.forall_mem_append.mpr ⟨lw_r8, lw_r9⟩⟩⟩⟩⟩⟩⟩⟩
-- ===== end of PART A; then your names; then what follows =====
end
section
/-! ===== BEGIN words of one list among another's, by their places ===== -/
theorem goodIn_r {big : List Cond} (ws : List Cond) (ps : List Nat) (hp : ws = ps.filterMap (fun i => big[i]?)) (h : ws.all goodWord = true) : GoodIn big ws := by
  intro w hw
  have h1 := List.all_eq_true.mp h w hw
  rw [hp] at hw
  obtain ⟨i, -, hi⟩ := List.mem_filterMap.mp hw
  have hm : w ∈ big := by first | exact List.mem_of_getElem? hi | exact List.getElem?_mem hi
  exact ⟨hm, good_of_word h1⟩
theorem goodIn_app {big a b : List Cond} (ha : GoodIn big a) (hb : GoodIn big b) : GoodIn big (a ++ b) := fun w h => (List.mem_append.mp h).elim (ha w) (hb w)
theorem goodIn_ca {big a b : List Cond} {c : Cond} (ha : GoodIn big (c :: a)) (hb : GoodIn big b) : GoodIn big (c :: (a ++ b)) := fun w h => (List.mem_cons.mp h).elim (fun e => ha w (List.mem_cons.mpr (Or.inl e))) (fun h => (List.mem_append.mp h).elim (fun h => ha w (List.mem_cons.mpr (Or.inr h))) (hb w))
theorem goodIn_sub {big ws : List Cond} (hm : ∀ w ∈ ws, w ∈ big) (h : ws.all goodWord = true) : GoodIn big ws := fun w hw => ⟨hm w hw, good_of_word (List.all_eq_true.mp h w hw)⟩
/-! ===== END ===== -/

/-! ===== BEGIN exceptions that leave a method, and their catching by the caller (launches without stack traces) ===== -/
section VXA
/-! The laws vx_back, vx_callV, vx_callS, vx_callSW, vx_throw0, vx_throwS follow proofs of the library, with one case more: JvmDerived/Free/Laws.lean (Back.of_free), Shelf42/LK1.lean (callV, callS), Shelf/KitTraced.lean (throwNew0V, throwNewS). -/
/-- where a method has thrown q: the class by its name, the cell, what was written, the world -/
def vx_T (XC : String → State → State → Prop) (st : State) (q : Addr) (t : State) (mc ms : Nat) (free : Addr → Prop) : Prop :=
  ∃ (E : String) (ce : Cell) (L : List Loc), XC E st t ∧ t.heap[q]? = some ce ∧ ce.vm = .none ∧ st.vm.findClass E = some ce.cls ∧ st.WarmedH t.vm ∧ st.sameButNew ({ t with vm := st.vm } : State) L mc ms ∧ ∀ z ∈ L, free z.base
def vx_Q (Qc : Array Value → State → Outcome → State → Prop) (XC : String → State → State → Prop) (mc ms : Nat) (free : Addr → Prop) : Array Value → State → Outcome → State → Prop := fun a st o t =>
  (Qc a st o t ∧ ∃ L, FrameEnd st o t L mc ms ∧ ∀ q ∈ L, free q.base) ∨ ∃ q, o = .threw q ∧ vx_T XC st q t mc ms free
/-- a callee that returns or throws -/
def vx_Met (l : Launch) (y : MethodName) (ws : List Cond) (rm : Room) (Pc : Array Value → State → Prop) (Qc : Array Value → State → Outcome → State → Prop) (XC : String → State → State → Prop) (mc ms : Nat) (free : Addr → Prop) : Prop :=
  MetFree l y (headSpec ws rm) Pc (fun _ _ _ _ _ => True) (vx_Q Qc XC mc ms free)
def vx_Post (XC : String → State → State → Prop) (mc ms : Nat) (free : Addr → Prop) : Pt → Array Value → Addr → Pt → Prop := fun A a q B =>
  ∃ (g : JFrame) (mk : MethodId) (t : State) (L : List Loc) (E : String) (ce : Cell), B.U.heap = t.heap ∧ B.U.vm = t.vm ∧ XC E (A.U.calling g mk a) t ∧ t.heap[q]? = some ce ∧ ce.vm = .none ∧ A.U.vm.findClass E = some ce.cls ∧ B.locs = A.locs ++ L ∧ (∀ z ∈ L, free z.base) ∧ B.cells = A.cells + mc ∧ B.slots = A.slots + ms
def vx_Back (l : Launch) (R : Room) (p : Program) (e : Env) (below : List Frame) (s : State) (sargs : Array Value) (y : MethodName) (len W9 : Nat)
    (Pre : Pt → Array Value → Prop) (Post : Pt → Array Value → Option Value → Pt → Prop) (PostX : Pt → Array Value → Addr → Pt → Prop) : Prop :=
  ∀ (m : MethodId) (meth : Method) (c : Code) (A : Pt) (g : JFrame) (ig : Instr) (mk : MethodId) (a : Array Value),
    Stand p l e R s m sargs below meth c A.U A.locs A.cells A.slots → g.method = m → g.locals.size = c.maxLocals → decode c.code g.pc = .ok (ig, len) →
    2 * g.monitorRoom + (g.stack.map fun v => v.category).sum ≤ W9 → A.U.methodNamed? y = some mk → Pre A a →
    (∃ (v : Option Value) (B : Pt), Stand p l e R s m sargs below meth c B.U B.locs B.cells B.slots ∧ Post A a v B ∧
      Steps p.tables e below (doInvoke e (A.U.setTop g) [] mk a).1 (B.U.setTop { g with pc := g.pc + len, stack := v.toList ++ g.stack })) ∨
    (∃ (q : Addr) (B : Pt), Stand p l e R s m sargs below meth c B.U B.locs B.cells B.slots ∧ PostX A a q B ∧
      Steps p.tables e below (doInvoke e (A.U.setTop g) [] mk a).1 ((B.U.setTop g).pushFrame (.throwing q)))
section Payer
variable {l : Launch} {R : Room} {p : Program} {e : Env} {below : List Frame} {s : State} {sargs : Array Value} {y : MethodName} {len W9 : Nat}
theorem vx_back {ws : List Cond} {rm : Room} {Pc : Array Value → State → Prop} {Qc : Array Value → State → Outcome → State → Prop} {XC : String → State → State → Prop} {mc ms : Nat} {free : Addr → Prop} {bytes : ByteArray} {maxL : Nat} {ret : Option FieldType}
    (hM : vx_Met l y ws rm Pc Qc XC mc ms free) (hblind : FrameBlind Pc) (hrc : rm.cells = mc) (hrs : rm.slots = ms)
    (hframes : rm.frames + 1 ≤ R.frames) (hlocals : W9 + (maxL + 11) + rm.locals ≤ R.locals)
    (hws : ∀ w ∈ ws, ∀ a' U, s.WarmedH U.vm → w.before a' U = true) (hcode : Cond.code y bytes maxL ret ∈ ws) (hinit : ∀ a' U, s.WarmedH U.vm → (Cond.initialized y.cls).before a' U = true) :
    vx_Back l R p e below s sargs y len W9 (PreOf R mc ms Pc) (PostOf Qc mc ms free) (vx_Post XC mc ms free) := by
  intro m meth c A g ig mk a X hg hsize hdg hW hn hp
  have h1 : (headSpec ws rm).pre.before a A.U = true := atoms_intro fun w hw => hws w hw _ _ X.warmed
  have h2 : (Cond.code y bytes maxL ret).before a A.U = true := hws _ hcode _ _ X.warmed
  have h3 : (Cond.initialized y.cls).before a A.U = true := hinit _ _ X.warmed
  have h4 : A.cells + (headSpec ws rm).room.cells ≤ R.cells := by rw [show (headSpec ws rm).room.cells = mc from hrc]; exact hp.1
  have h5 : A.slots + (headSpec ws rm).room.slots ≤ R.slots := by rw [show (headSpec ws rm).room.slots = ms from hrs]; exact hp.2.1
  have hPc : Pc a (A.U.calling g mk a) := hblind _ _ _ _ hp.2.2
  obtain ⟨U, Ls, c0, s0⟩ := A
  dsimp only [Pt.U, Pt.locs, Pt.cells, Pt.slots] at h1 h2 h3 h4 h5 X hn hPc ⊢
  obtain ⟨methY, cY, hmY, hcY, -, hlY, -, -, -, -⟩ := Cond.code_spec hn h2
  obtain ⟨kY, hkY, -⟩ := className_of_methodNamed hn
  have hinitY : kY.init = .initialized := Cond.initialized_spec (findClass_of_methodNamed hn) hkY h3
  have h : At U g.method c below := by rw [hg]; exact X.here
  have hlocals9 : W9 + (maxL + 11) + (headSpec ws rm).room.locals ≤ R.locals := hlocals
  have happ : (headSpec ws rm).appliesLoose y e.platform (U.calling g mk a) = true :=
    Spec.appliesLoose_calling (g := g) h hdg hn hkY hinitY
      (X.room_calling (g := g) (R' := (headSpec ws rm).room) hsize hmY hcY hframes (by rw [hlY]; omega) h4 h5) h1
  obtain ⟨mid, hmid⟩ := h.above
  have hfr : (U.setTop g).frames = (.java g :: mid) ++ below := by rw [State.frames_setTop' g h.top, hmid]; rfl
  obtain ⟨o, s₂, hsteps, -, hend, hq⟩ := Steps.callFree hM p X.admits X.cas X.clock (acts := []) hfr happ hPc trivial
  have hq' : vx_Q Qc XC mc ms free a (U.calling g mk a) o s₂ := hq
  rw [State.frames_setTop' g h.top] at hend
  obtain ⟨g₀, hg0⟩ := Option.isSome_iff_exists.mp h.top
  obtain ⟨r, hr⟩ := State.topJava?_eq_some.mp hg0
  have hr' : (({ U with heap := s₂.heap, slotsUsed := s₂.slotsUsed } : State).setVm s₂.vm).frames = .java g₀ :: r := hr
  rcases hq' with ⟨hqc, L, hfe, hL⟩ | ⟨q, rfl, E, ce, L, hx, hce, hcv, hcl, hW₂, hsm, hL⟩
  · obtain ⟨⟨v, rfl⟩, hW₂, e2, q2, q3, q4, q5, q6⟩ := id hfe
    have e3 : s₂ = ({ (U.calling g mk a).setFrames s₂.frames with heap := s₂.heap, slotsUsed := s₂.slotsUsed } : State).setVm s₂.vm := by
      have : s₂ = ({ s₂ with vm := (U.calling g mk a).vm } : State).setVm s₂.vm := rfl
      rw [e2] at this
      exact this
    obtain ⟨c₂, i₂, len₂, hc₂, hd₂, hf₂⟩ := hend
    have hW' : U.WarmedH s₂.vm := hW₂
    have hcc : c₂ = c := by
      have h1 : s₂.code? g.method = U.code? g.method := by
        rw [State.code?_eq, State.code?_eq, hW'.alike.method?]
      exact Option.some.inj (hc₂.symm.trans (h1.trans h.code))
    subst hcc
    have hlen : len₂ = len := by rw [hdg] at hd₂; cases hd₂; rfl
    subst hlen
    have hs₂ : s₂ = (({ U with heap := s₂.heap, slotsUsed := s₂.slotsUsed } : State).setVm s₂.vm).setTop { g with pc := g.pc + len₂, stack := v.toList ++ g.stack } := by
      refine e3.trans ?_
      rw [hf₂, State.calling_eq h.top, State.setFrames_setFrames, State.setTop_of_frames _ hr', hr]
      rfl
    have hsame : U.sameButNew ({ U with heap := s₂.heap, slotsUsed := s₂.slotsUsed } : State) L mc ms := by
      refine ⟨?_, q2, q3, q4, q5, q6⟩
      obtain ⟨t, ht, -⟩ := State.frames_cons hr
      show ({ U with heap := s₂.heap, slotsUsed := s₂.slotsUsed } : State) = { U.setFrames U.frames with heap := s₂.heap, slotsUsed := s₂.slotsUsed }
      rw [State.setFrames_self ht]
    subst hg
    refine Or.inl ⟨v, ⟨(({ U with heap := s₂.heap, slotsUsed := s₂.slotsUsed } : State).setVm s₂.vm), Ls ++ L, c0 + mc, s0 + ms⟩,
      ⟨X.admits, X.cas, X.clock, X.frames, X.room, X.hears, X.method, X.code, (X.here.setHeapUsed s₂.heap s₂.slotsUsed).setVm hW'.alike, X.tail, State.WarmedH.trans X.warmed hW', X.limits, X.bytes, X.same.trans (hsame.setVm s.vm)⟩,
      ⟨g, mk, s₂, L, rfl, rfl, hqc, rfl, hL, rfl, rfl⟩, ?_⟩
    show Steps p.tables e below _ ((({ U with heap := s₂.heap, slotsUsed := s₂.slotsUsed } : State).setVm s₂.vm).setTop { g with pc := g.pc + len₂, stack := v.toList ++ g.stack })
    rw [← hs₂]
    exact hsteps
  · obtain ⟨e2, q2, q3, q4, q5, q6⟩ := id hsm
    have e3 : s₂ = ({ (U.calling g mk a).setFrames s₂.frames with heap := s₂.heap, slotsUsed := s₂.slotsUsed } : State).setVm s₂.vm := by
      have : s₂ = ({ s₂ with vm := (U.calling g mk a).vm } : State).setVm s₂.vm := rfl
      rw [e2] at this
      exact this
    have hf₂ : s₂.frames = .throwing q :: .java g :: U.frames.tail := hend
    have hW' : U.WarmedH s₂.vm := hW₂
    have hs₂ : s₂ = ((({ U with heap := s₂.heap, slotsUsed := s₂.slotsUsed } : State).setVm s₂.vm).setTop g).pushFrame (.throwing q) := by
      refine e3.trans ?_
      rw [hf₂, State.calling_eq h.top, State.setFrames_setFrames, State.pushFrame, State.frames_setTop _ hr', State.setTop_of_frames _ hr', State.setFrames_setFrames, hr]
      rfl
    have hsame : U.sameButNew ({ U with heap := s₂.heap, slotsUsed := s₂.slotsUsed } : State) L mc ms := by
      refine ⟨?_, q2, q3, q4, q5, q6⟩
      obtain ⟨t, ht, -⟩ := State.frames_cons hr
      show ({ U with heap := s₂.heap, slotsUsed := s₂.slotsUsed } : State) = { U.setFrames U.frames with heap := s₂.heap, slotsUsed := s₂.slotsUsed }
      rw [State.setFrames_self ht]
    subst hg
    refine Or.inr ⟨q, ⟨(({ U with heap := s₂.heap, slotsUsed := s₂.slotsUsed } : State).setVm s₂.vm), Ls ++ L, c0 + mc, s0 + ms⟩,
      ⟨X.admits, X.cas, X.clock, X.frames, X.room, X.hears, X.method, X.code, (X.here.setHeapUsed s₂.heap s₂.slotsUsed).setVm hW'.alike, X.tail, State.WarmedH.trans X.warmed hW', X.limits, X.bytes, X.same.trans (hsame.setVm s.vm)⟩,
      ⟨g, mk, s₂, L, E, ce, rfl, rfl, hx, hce, hcv, hcl, rfl, hL, rfl, rfl⟩, ?_⟩
    show Steps p.tables e below _ (((({ U with heap := s₂.heap, slotsUsed := s₂.slotsUsed } : State).setVm s₂.vm).setTop g).pushFrame (.throwing q))
    rw [← hs₂]
    exact hsteps
end Payer
section Calls
variable {p : Program} {l : Launch} {e : Env} {R : Room} {s : State} {m : MethodId} {args : Array Value} {below : List Frame} {meth : Method} {c : Code} {T : State} {locs : List Loc} {cells slots : Nat}
theorem vx_callV (X : Stand p l e R s m args below meth c T locs cells slots) (hexec : p.tables.exec = Jvm.exec) {own C : String} {index : Nat} {y : MethodName} {bytes : ByteArray} {maxL : Nat} {ret : Option FieldType}
    (hown : s.vm.findClass own = some m.cls) (hlink : (Cond.methodLink own index y).before args s = true) (hinst : (Cond.instanceMethod y).before args s = true) (hsel : (Cond.selects C y y).before args s = true)
    (hcode : (Cond.code y bytes maxL ret).before args s = true) (hy : y.cls ≠ "java/lang/invoke/MethodHandle" ∧ y.cls ≠ "java/lang/invoke/VarHandle")
    {W9 : Nat} {Pre : Pt → Array Value → Prop} {Post : Pt → Array Value → Option Value → Pt → Prop} {PostX : Pt → Array Value → Addr → Pt → Prop} (hK : vx_Back l R p e below s args y 3 W9 Pre Post PostX)
    {b : Addr} {cellB : Cell} (hcell : T.heap[b]? = some cellB) (hobj : cellB.vm.isStatics = false) (hcls : s.vm.findClass C = some cellB.cls)
    {g : JFrame} (hg : g.method = m) (hsize : g.locals.size = c.maxLocals) {argsL rest : List Value} (hlen : ∀ sig, parseMethodDescriptor y.desc = some sig → argsL.length = sig.parameters.length)
    (hstack : g.stack = argsL.reverse ++ .ref b :: rest) (hW : 2 * g.monitorRoom + (rest.map fun v => v.category).sum ≤ W9) (hdg : decode c.code g.pc = .ok (.invokevirtual index, 3))
    (hpre : ∀ vm₁, s.WarmedH vm₁ → Pre ⟨T.setVm vm₁, locs, cells, slots⟩ (Value.ref b :: argsL).toArray) :
    (∃ (v : Option Value) (vm₁ : Vm) (B : Pt), s.WarmedH vm₁ ∧ Stand p l e R s m args below meth c B.U B.locs B.cells B.slots ∧ Post ⟨T.setVm vm₁, locs, cells, slots⟩ (Value.ref b :: argsL).toArray v B ∧
      ∀ target, Steps p.tables e below (B.U.setTop { g with pc := g.pc + 3, stack := v.toList ++ rest }) target → Steps p.tables e below (T.setTop g) target) ∨
    (∃ (q : Addr) (vm₁ : Vm) (B : Pt), s.WarmedH vm₁ ∧ Stand p l e R s m args below meth c B.U B.locs B.cells B.slots ∧ PostX ⟨T.setVm vm₁, locs, cells, slots⟩ (Value.ref b :: argsL).toArray q B ∧
      Steps p.tables e below (T.setTop g) ((B.U.setTop { g with stack := rest }).pushFrame (.throwing q))) := by
  obtain ⟨mk, methM, hnamed, hmethM, hstM, habM⟩ := Cond.instanceMethod_spec hinst
  obtain ⟨methM', cM, hmethM', -, -, -, -, -, -, hsigM⟩ := Cond.code_spec hnamed hcode
  cases hmethM.symm.trans hmethM'
  obtain ⟨c2, r2, m2, q1, q2, q3, q4, kP, hkP, hkPi⟩ := Cond.selects_spec hsel
  cases hcls.symm.trans q1
  cases (State.methodFound?_of_named hnamed hy).symm.trans q2
  cases hnamed.symm.trans q3
  have hselP : selectMethod e.platform s.vm cellB.cls mk = .method mk := by rw [Launch.admits_selectMethod X.admits]; exact q4
  obtain ⟨vm₁, X₁, hstep₁⟩ := X.invokevirtual hexec hown hlink hnamed hmethM hstM hkP hkPi hy (a := b) (cell := cellB) hcell
    (fun z h => by rw [h] at hobj; cases hobj) hselP hmethM habM hkP hkPi (g := g) hg (argsL := argsL) (rest := rest) (hlen _ hsigM) hstack hdg
  rcases hK m meth c ⟨T.setVm vm₁, locs, cells, slots⟩ { g with stack := rest } (.invokevirtual index) mk (Value.ref b :: argsL).toArray X₁ hg hsize hdg hW (X₁.named hnamed) (hpre vm₁ X₁.warmed) with ⟨v, B, X', hpost, hsteps⟩ | ⟨q, B, X', hpost, hsteps⟩
  · exact Or.inl ⟨v, vm₁, B, X₁.warmed, X', hpost, fun target h => hstep₁ _ fun acts => by rw [doInvoke_state]; exact hsteps.trans h⟩
  · exact Or.inr ⟨q, vm₁, B, X₁.warmed, X', hpost, hstep₁ _ fun acts => by rw [doInvoke_state]; exact hsteps⟩
theorem vx_callS (X : Stand p l e R s m args below meth c T locs cells slots) (hexec : p.tables.exec = Jvm.exec) {own : String} {index : Nat} {y : MethodName} {bytes : ByteArray} {maxL : Nat} {ret : Option FieldType}
    (hown : s.vm.findClass own = some m.cls) (hlink : (Cond.methodLink own index y).before args s = true) (hstat : (Cond.static y).before args s = true) (hinit : (Cond.initialized y.cls).before args s = true)
    (hcode : (Cond.code y bytes maxL ret).before args s = true) (hy : y.cls ≠ "java/lang/invoke/MethodHandle" ∧ y.cls ≠ "java/lang/invoke/VarHandle")
    {W9 : Nat} {Pre : Pt → Array Value → Prop} {Post : Pt → Array Value → Option Value → Pt → Prop} {PostX : Pt → Array Value → Addr → Pt → Prop} (hK : vx_Back l R p e below s args y 3 W9 Pre Post PostX)
    {g : JFrame} (hg : g.method = m) (hsize : g.locals.size = c.maxLocals) {argsL rest : List Value} (hlen : ∀ sig, parseMethodDescriptor y.desc = some sig → argsL.length = sig.parameters.length)
    (hstack : g.stack = argsL.reverse ++ rest) (hW : 2 * g.monitorRoom + (rest.map fun v => v.category).sum ≤ W9) (hdg : decode c.code g.pc = .ok (.invokestatic index, 3))
    (hpre : ∀ vm₁, s.WarmedH vm₁ → Pre ⟨T.setVm vm₁, locs, cells, slots⟩ argsL.toArray) :
    (∃ (v : Option Value) (vm₁ : Vm) (B : Pt), s.WarmedH vm₁ ∧ Stand p l e R s m args below meth c B.U B.locs B.cells B.slots ∧ Post ⟨T.setVm vm₁, locs, cells, slots⟩ argsL.toArray v B ∧
      ∀ target, Steps p.tables e below (B.U.setTop { g with pc := g.pc + 3, stack := v.toList ++ rest }) target → Steps p.tables e below (T.setTop g) target) ∨
    (∃ (q : Addr) (vm₁ : Vm) (B : Pt), s.WarmedH vm₁ ∧ Stand p l e R s m args below meth c B.U B.locs B.cells B.slots ∧ PostX ⟨T.setVm vm₁, locs, cells, slots⟩ argsL.toArray q B ∧
      Steps p.tables e below (T.setTop g) ((B.U.setTop { g with stack := rest }).pushFrame (.throwing q))) := by
  obtain ⟨mk, hnamed⟩ := Cond.code_named hcode
  obtain ⟨methM, cM, hmethM, -, -, -, -, -, -, hsigM⟩ := Cond.code_spec hnamed hcode
  have hstatic : methM.isStatic = true := Cond.static_spec hnamed hmethM hstat
  obtain ⟨kP, hkP, -⟩ := className_of_methodNamed hnamed
  have hinitP : kP.init = .initialized := Cond.initialized_spec (findClass_of_methodNamed hnamed) hkP hinit
  obtain ⟨vm₁, X₁, hstep₁⟩ := X.invokestatic hexec hown hlink hnamed hmethM hstatic hkP hinitP hy (g := g) hg (argsL := argsL) (rest := rest) (hlen _ hsigM) hstack hdg
  rcases hK m meth c ⟨T.setVm vm₁, locs, cells, slots⟩ { g with stack := rest } (.invokestatic index) mk argsL.toArray X₁ hg hsize hdg hW (X₁.named hnamed) (hpre vm₁ X₁.warmed) with ⟨v, B, X', hpost, hsteps⟩ | ⟨q, B, X', hpost, hsteps⟩
  · exact Or.inl ⟨v, vm₁, B, X₁.warmed, X', hpost, fun target h => hstep₁ _ fun acts => by rw [doInvoke_state]; exact hsteps.trans h⟩
  · exact Or.inr ⟨q, vm₁, B, X₁.warmed, X', hpost, hstep₁ _ fun acts => by rw [doInvoke_state]; exact hsteps⟩
end Calls
theorem vx_cls {s : State} {T : State} {vm₁ : Vm} {E : String} {k : ClassId} (hW : s.WarmedH vm₁) (h : (T.setVm vm₁).vm.findClass E = some k) : s.vm.findClass E = some k := by
  have h1 : vm₁.findClass E = some k := h
  rw [hW.alike.findClass] at h1
  exact h1
/-- the method's frame g, with q thrown over it -/
def vx_W (p : Program) (l : Launch) (e : Env) (R : Room) (s : State) (m : MethodId) (args : Array Value) (below : List Frame) (meth : Method) (c : Code) (H : Heap) (locs : List Loc) (cells slots : Nat) (Q : State → Prop) (g : JFrame) (q : Addr) : Prop :=
  ∀ T : State, T.heap = H → Stand p l e R s m args below meth c T locs cells slots → ∃ t, Steps p.tables e below ((T.setTop g).pushFrame (.throwing q)) t ∧ Q t
def vx_Run (p : Program) (l : Launch) (e : Env) (R : Room) (s : State) (m : MethodId) (args : Array Value) (below : List Frame) (meth : Method) (c : Code) (H : Heap) (locs : List Loc) (cells slots mc ms : Nat) (g : JFrame) (rest : List Value) (Qa : State → Outcome → State → Prop) (XC : String → State → State → Prop) (free : Addr → Prop) : Prop :=
  ∀ T : State, T.heap = H → Stand p l e R s m args below meth c T locs cells slots →
    (∃ (v : Option Value) (st₀ t T' : State) (L : List Loc), st₀.heap = H ∧ Stand p l e R s m args below meth c T' (locs ++ L) (cells + mc) (slots + ms) ∧ (∀ q ∈ L, free q.base) ∧ T'.heap = t.heap ∧ T'.vm = t.vm ∧ Qa st₀ (.returned v) t ∧
      Goes p e below T g T' { g with pc := g.pc + 3, stack := v.toList ++ rest }) ∨
    (∃ (q : Addr) (st₀ t T' : State) (L : List Loc) (E : String) (ce : Cell), st₀.heap = H ∧ Stand p l e R s m args below meth c T' (locs ++ L) (cells + mc) (slots + ms) ∧ (∀ z ∈ L, free z.base) ∧ T'.heap = t.heap ∧ T'.vm = t.vm ∧ XC E st₀ t ∧ t.heap[q]? = some ce ∧ ce.vm = .none ∧ s.vm.findClass E = some ce.cls ∧
      Steps p.tables e below (T.setTop g) ((T'.setTop { g with stack := rest }).pushFrame (.throwing q)))
def vx_X {S : Type} (px : S → Prop) (B : String → S → State → Prop) (A : Nat → Prop) : String → State → State → Prop := fun E st t => ∃ u : S, px u ∧ B E u t ∧ va_F A st t
section Runs
variable {p : Program} {l : Launch} {e : Env} {R : Room} {s : State} {m : MethodId} {args : Array Value} {below : List Frame} {meth : Method} {c : Code} {H : Heap} {locs : List Loc} {cells slots : Nat}
variable {y : MethodName} {bytes cc : ByteArray} {maxL nL mc ms n index : Nat} {ret : Option FieldType} {ws : List Cond} {rm : Room} {Pc : Array Value → State → Prop} {Qc : Array Value → State → Outcome → State → Prop} {XC : String → State → State → Prop} {free : Addr → Prop} {Ts : List Cond} {own C : String} {b : Addr} {As rest : List Value} {g : JFrame}
theorem vx_callBack (cb : CallB R s args own index y bytes maxL ret ws rm mc ms n) (hM : vx_Met l y ws rm Pc Qc XC mc ms free) (hbl : FrameBlind Pc) : vx_Back l R p e below s args y 3 8 (PreOf R mc ms Pc) (PostOf Qc mc ms free) (vx_Post XC mc ms free) := by
  obtain ⟨hrc, hrs, hfr, hlo, hws, hcw, -, hini, -⟩ := cb
  exact vx_back (bytes := bytes) (maxL := maxL) (ret := ret) hM hbl hrc hrs hfr hlo hws hcw (fun a' U hW => word_at hW (Or.inl (by first | rfl | simp [Cond.onTables, Cond.keeps, Cond.steady])) hini)
theorem vx_runV (S : CallFix p m c cc nL s args Ts own) (hM : vx_Met l y ws rm Pc Qc XC mc ms free) (cw : CallW R s args own C index y bytes maxL ret ws rm mc ms n) (hp : PreV s H C b Pc As)
    (hg : g.method = m) (hn : As.length = n) (hsize : g.locals.size = nL) (hstack : g.stack = As.reverse ++ .ref b :: rest) (hW : 2 * g.monitorRoom + (rest.map fun v => v.category).sum ≤ 8) (hdg : decode cc g.pc = .ok (.invokevirtual index, 3)) (hf : cells + mc ≤ R.cells ∧ slots + ms ≤ R.slots) :
    vx_Run p l e R s m args below meth c H locs cells slots mc ms g rest (Qc (Value.ref b :: As).toArray) XC free := by
  have hK : vx_Back l R p e below s args y 3 8 (PreOf R mc ms Pc) (PostOf Qc mc ms free) (vx_Post XC mc ms free) := vx_callBack cw.1 hM hp.1
  obtain ⟨⟨-, -, -, -, -, -, hcode, -, hy, hlen, hl⟩, hin, hse⟩ := cw
  obtain ⟨hx, hb, hml, ho, -⟩ := S
  obtain ⟨-, ⟨cellB, hcB, hoB, hclB⟩, hPc⟩ := hp
  intro T hT X
  rcases vx_callV X hx (C := C) (bytes := bytes) (maxL := maxL) (ret := ret) ho hl hin hse hcode hy hK (by rw [hT]; exact hcB) hoB hclB hg (hsize.trans hml.symm) (argsL := As) (rest := rest) (fun sig h => hn.trans (hlen sig h)) hstack hW (by rw [hb]; exact hdg)
    (fun vm₁ hW₁ => ⟨hf.1, hf.2, hPc (T.setVm vm₁) hT hW₁⟩) with ⟨v, vm₁, ⟨U', l2, c2, s2⟩, hW₁, X', ⟨g', mk, t, L, e1, e2, hq, h1, hL, h2, h3⟩, st⟩ | ⟨q, vm₁, ⟨U', l2, c2, s2⟩, hW₁, X', ⟨g', mk, t, L, E, ce, e1, e2, hq, hce, hcv, hcl, h1, hL, h2, h3⟩, st⟩
  · dsimp only [Pt.U, Pt.locs, Pt.cells, Pt.slots] at X' e1 e2 h1 h2 h3 st
    subst h1; subst h2; subst h3
    exact Or.inl ⟨v, (T.setVm vm₁).calling g' mk (Value.ref b :: As).toArray, t, U', L, hT, X', hL, e1, e2, hq, st⟩
  · dsimp only [Pt.U, Pt.locs, Pt.cells, Pt.slots] at X' e1 e2 h1 h2 h3 st hcl
    subst h1; subst h2; subst h3
    exact Or.inr ⟨q, (T.setVm vm₁).calling g' mk (Value.ref b :: As).toArray, t, U', L, E, ce, hT, X', hL, e1, e2, hq, hce, hcv, vx_cls hW₁ hcl, st⟩
theorem vx_runS (S : CallFix p m c cc nL s args Ts own) (hM : vx_Met l y ws rm Pc Qc XC mc ms free) (cw : CallB R s args own index y bytes maxL ret ws rm mc ms n ∧ (Cond.static y).before args s = true) (hp : PreS s H Pc As)
    (hg : g.method = m) (hn : As.length = n) (hsize : g.locals.size = nL) (hstack : g.stack = As.reverse ++ rest) (hW : 2 * g.monitorRoom + (rest.map fun v => v.category).sum ≤ 8) (hdg : decode cc g.pc = .ok (.invokestatic index, 3)) (hf : cells + mc ≤ R.cells ∧ slots + ms ≤ R.slots) :
    vx_Run p l e R s m args below meth c H locs cells slots mc ms g rest (Qc As.toArray) XC free := by
  have hK : vx_Back l R p e below s args y 3 8 (PreOf R mc ms Pc) (PostOf Qc mc ms free) (vx_Post XC mc ms free) := vx_callBack cw.1 hM hp.1
  obtain ⟨⟨-, -, -, -, -, -, hcode, hini, hy, hlen, hl⟩, hstt⟩ := cw
  obtain ⟨hx, hb, hml, ho, -⟩ := S
  intro T hT X
  rcases vx_callS X hx (bytes := bytes) (maxL := maxL) (ret := ret) ho hl hstt hini hcode hy hK hg (hsize.trans hml.symm) (argsL := As) (rest := rest) (fun sig h => hn.trans (hlen sig h)) hstack hW (by rw [hb]; exact hdg)
    (fun vm₁ hW₁ => ⟨hf.1, hf.2, hp.2 (T.setVm vm₁) hT hW₁⟩) with ⟨v, vm₁, ⟨U', l2, c2, s2⟩, hW₁, X', ⟨g', mk, t, L, e1, e2, hq, h1, hL, h2, h3⟩, st⟩ | ⟨q, vm₁, ⟨U', l2, c2, s2⟩, hW₁, X', ⟨g', mk, t, L, E, ce, e1, e2, hq, hce, hcv, hcl, h1, hL, h2, h3⟩, st⟩
  · dsimp only [Pt.U, Pt.locs, Pt.cells, Pt.slots] at X' e1 e2 h1 h2 h3 st
    subst h1; subst h2; subst h3
    exact Or.inl ⟨v, (T.setVm vm₁).calling g' mk As.toArray, t, U', L, hT, X', hL, e1, e2, hq, st⟩
  · dsimp only [Pt.U, Pt.locs, Pt.cells, Pt.slots] at X' e1 e2 h1 h2 h3 st hcl
    subst h1; subst h2; subst h3
    exact Or.inr ⟨q, (T.setVm vm₁).calling g' mk As.toArray, t, U', L, E, ce, hT, X', hL, e1, e2, hq, hce, hcv, vx_cls hW₁ hcl, st⟩
end Runs
section Rows
variable {p : Program} {l : Launch} {e : Env} {R : Room} {s : State} {m : MethodId} {args : Array Value} {below : List Frame} {meth : Method} {c : Code} {H : Heap} {locs : List Loc} {cells slots : Nat} {Q : State → Prop}
variable {mc ms : Nat} {free : Addr → Prop} {A0 A1 : Nat → Prop} {H0 : Heap} {a : Array Value} {pc : Nat} {ls : Array Slot} {st0 rest : List Value}
theorem vx_keep {st₀ t T' : State} {L : List Loc} (h0 : st₀.heap = H) (e1 : T'.heap = t.heap) (hS : va_S A0 H0 H locs) (hA : ∀ q, q < H.size → A1 q → A0 q) (hf : ∀ q, free q → A0 q) (hL : ∀ q ∈ L, free q.base) (hF : va_F A1 st₀ t) :
    H.size ≤ T'.heap.size ∧ (∀ q : Nat, q < H.size → ¬ A1 q → T'.heap[q]? = H[q]?) ∧ va_S A0 H0 T'.heap (locs ++ L) := by
  obtain ⟨hz, hk⟩ := hF
  rw [h0] at hz hk
  exact ⟨by rw [e1]; exact hz, fun q h1 h2 => by rw [e1]; exact hk q h1 h2,
    ⟨Nat.le_trans hS.1 (by rw [e1]; exact hz), fun q h1 h2 => by rw [e1, hk q (Nat.lt_of_lt_of_le h1 hS.1) (fun z => h2 (hA q (Nat.lt_of_lt_of_le h1 hS.1) z))]; exact hS.2.1 q h1 h2, fun q hq => by
      rcases List.mem_append.mp hq with h | h
      · exact hS.2.2 q h
      · exact hf _ (hL q h)⟩⟩
theorem vx_calli {S SX : Type} {post : Int32 → S → Prop} {px : SX → Prop} {B : S → State → Prop} {BX : String → SX → State → Prop} {AX : Nat → Prop} (hr : vx_Run p l e R s m args below meth c H locs cells slots mc ms (F0 m pc ls st0) rest (va_Qi post B A1 a) (vx_X px BX AX) free) (hS : va_S A0 H0 H locs) (hA : ∀ q, q < H.size → A1 q → A0 q) (hf : ∀ q, free q → A0 q) (hAX : ∀ q, q < H.size → AX q → A0 q)
    (kx : ∀ (E : String) (ce : Cell) (q9 : Addr) (u : SX) (t : State) (H1 : Heap) (locs1 : List Loc), t.heap = H1 → s.vm.Alike t.vm → px u → BX E u t → H.size ≤ H1.size → (∀ q : Nat, q < H.size → ¬ AX q → H1[q]? = H[q]?) → va_S A0 H0 H1 locs1 → H1[q9]? = some ce → ce.vm = .none → s.vm.findClass E = some ce.cls → vx_W p l e R s m args below meth c H1 locs1 (cells + mc) (slots + ms) Q (F0 m pc ls rest) q9)
    (kk : ∀ (r : Int32) (u : S) (t : State) (H1 : Heap) (locs1 : List Loc), t.heap = H1 → s.vm.Alike t.vm → post r u → B u t → H.size ≤ H1.size → (∀ q : Nat, q < H.size → ¬ A1 q → H1[q]? = H[q]?) → va_S A0 H0 H1 locs1 → W p l e R s m args below meth c H1 locs1 (cells + mc) (slots + ms) Q (F0 m (pc + 3) ls (.int r :: rest))) : W p l e R s m args below meth c H locs cells slots Q (F0 m pc ls st0) := by
  intro T hT X
  rcases hr T hT X with ⟨v, st₀, t, T', L, h0, X', hL, e1, e2, ⟨⟨r, u, hv, hp, hb⟩, hF⟩, st⟩ | ⟨q, st₀, t, T', L, E, ce, h0, X', hL, e1, e2, ⟨u, hp, hb, hF⟩, hce, hcv, hcl, st⟩
  · cases hv
    obtain ⟨k1, k2, k3⟩ := vx_keep h0 e1 hS hA hf hL hF
    obtain ⟨t2, a1, b1⟩ := kk r u t T'.heap (locs ++ L) e1.symm (by rw [← e2]; exact X'.warmed.alike) hp hb k1 k2 k3 T' rfl X'
    exact ⟨t2, st t2 a1, b1⟩
  · obtain ⟨k1, k2, k3⟩ := vx_keep h0 e1 hS hAX hf hL hF
    obtain ⟨t2, a1, b1⟩ := kx E ce q u t T'.heap (locs ++ L) e1.symm (by rw [← e2]; exact X'.warmed.alike) hp hb k1 k2 k3 (by rw [e1]; exact hce) hcv hcl T' rfl X'
    exact ⟨t2, st.trans a1, b1⟩
theorem vx_calll {S SX : Type} {post : Int64 → S → Prop} {px : SX → Prop} {B : S → State → Prop} {BX : String → SX → State → Prop} {AX : Nat → Prop} (hr : vx_Run p l e R s m args below meth c H locs cells slots mc ms (F0 m pc ls st0) rest (va_Ql post B A1 a) (vx_X px BX AX) free) (hS : va_S A0 H0 H locs) (hA : ∀ q, q < H.size → A1 q → A0 q) (hf : ∀ q, free q → A0 q) (hAX : ∀ q, q < H.size → AX q → A0 q)
    (kx : ∀ (E : String) (ce : Cell) (q9 : Addr) (u : SX) (t : State) (H1 : Heap) (locs1 : List Loc), t.heap = H1 → s.vm.Alike t.vm → px u → BX E u t → H.size ≤ H1.size → (∀ q : Nat, q < H.size → ¬ AX q → H1[q]? = H[q]?) → va_S A0 H0 H1 locs1 → H1[q9]? = some ce → ce.vm = .none → s.vm.findClass E = some ce.cls → vx_W p l e R s m args below meth c H1 locs1 (cells + mc) (slots + ms) Q (F0 m pc ls rest) q9)
    (kk : ∀ (r : Int64) (u : S) (t : State) (H1 : Heap) (locs1 : List Loc), t.heap = H1 → s.vm.Alike t.vm → post r u → B u t → H.size ≤ H1.size → (∀ q : Nat, q < H.size → ¬ A1 q → H1[q]? = H[q]?) → va_S A0 H0 H1 locs1 → W p l e R s m args below meth c H1 locs1 (cells + mc) (slots + ms) Q (F0 m (pc + 3) ls (.long r :: rest))) : W p l e R s m args below meth c H locs cells slots Q (F0 m pc ls st0) := by
  intro T hT X
  rcases hr T hT X with ⟨v, st₀, t, T', L, h0, X', hL, e1, e2, ⟨⟨r, u, hv, hp, hb⟩, hF⟩, st⟩ | ⟨q, st₀, t, T', L, E, ce, h0, X', hL, e1, e2, ⟨u, hp, hb, hF⟩, hce, hcv, hcl, st⟩
  · cases hv
    obtain ⟨k1, k2, k3⟩ := vx_keep h0 e1 hS hA hf hL hF
    obtain ⟨t2, a1, b1⟩ := kk r u t T'.heap (locs ++ L) e1.symm (by rw [← e2]; exact X'.warmed.alike) hp hb k1 k2 k3 T' rfl X'
    exact ⟨t2, st t2 a1, b1⟩
  · obtain ⟨k1, k2, k3⟩ := vx_keep h0 e1 hS hAX hf hL hF
    obtain ⟨t2, a1, b1⟩ := kx E ce q u t T'.heap (locs ++ L) e1.symm (by rw [← e2]; exact X'.warmed.alike) hp hb k1 k2 k3 (by rw [e1]; exact hce) hcv hcl T' rfl X'
    exact ⟨t2, st.trans a1, b1⟩
theorem vx_callf {S SX : Type} {post : UInt32 → S → Prop} {px : SX → Prop} {B : S → State → Prop} {BX : String → SX → State → Prop} {AX : Nat → Prop} (hr : vx_Run p l e R s m args below meth c H locs cells slots mc ms (F0 m pc ls st0) rest (va_Qf post B A1 a) (vx_X px BX AX) free) (hS : va_S A0 H0 H locs) (hA : ∀ q, q < H.size → A1 q → A0 q) (hf : ∀ q, free q → A0 q) (hAX : ∀ q, q < H.size → AX q → A0 q)
    (kx : ∀ (E : String) (ce : Cell) (q9 : Addr) (u : SX) (t : State) (H1 : Heap) (locs1 : List Loc), t.heap = H1 → s.vm.Alike t.vm → px u → BX E u t → H.size ≤ H1.size → (∀ q : Nat, q < H.size → ¬ AX q → H1[q]? = H[q]?) → va_S A0 H0 H1 locs1 → H1[q9]? = some ce → ce.vm = .none → s.vm.findClass E = some ce.cls → vx_W p l e R s m args below meth c H1 locs1 (cells + mc) (slots + ms) Q (F0 m pc ls rest) q9)
    (kk : ∀ (r : UInt32) (u : S) (t : State) (H1 : Heap) (locs1 : List Loc), t.heap = H1 → s.vm.Alike t.vm → post r u → B u t → H.size ≤ H1.size → (∀ q : Nat, q < H.size → ¬ A1 q → H1[q]? = H[q]?) → va_S A0 H0 H1 locs1 → W p l e R s m args below meth c H1 locs1 (cells + mc) (slots + ms) Q (F0 m (pc + 3) ls (.float r :: rest))) : W p l e R s m args below meth c H locs cells slots Q (F0 m pc ls st0) := by
  intro T hT X
  rcases hr T hT X with ⟨v, st₀, t, T', L, h0, X', hL, e1, e2, ⟨⟨r, u, hv, hp, hb⟩, hF⟩, st⟩ | ⟨q, st₀, t, T', L, E, ce, h0, X', hL, e1, e2, ⟨u, hp, hb, hF⟩, hce, hcv, hcl, st⟩
  · cases hv
    obtain ⟨k1, k2, k3⟩ := vx_keep h0 e1 hS hA hf hL hF
    obtain ⟨t2, a1, b1⟩ := kk r u t T'.heap (locs ++ L) e1.symm (by rw [← e2]; exact X'.warmed.alike) hp hb k1 k2 k3 T' rfl X'
    exact ⟨t2, st t2 a1, b1⟩
  · obtain ⟨k1, k2, k3⟩ := vx_keep h0 e1 hS hAX hf hL hF
    obtain ⟨t2, a1, b1⟩ := kx E ce q u t T'.heap (locs ++ L) e1.symm (by rw [← e2]; exact X'.warmed.alike) hp hb k1 k2 k3 (by rw [e1]; exact hce) hcv hcl T' rfl X'
    exact ⟨t2, st.trans a1, b1⟩
theorem vx_calld {S SX : Type} {post : UInt64 → S → Prop} {px : SX → Prop} {B : S → State → Prop} {BX : String → SX → State → Prop} {AX : Nat → Prop} (hr : vx_Run p l e R s m args below meth c H locs cells slots mc ms (F0 m pc ls st0) rest (va_Qd post B A1 a) (vx_X px BX AX) free) (hS : va_S A0 H0 H locs) (hA : ∀ q, q < H.size → A1 q → A0 q) (hf : ∀ q, free q → A0 q) (hAX : ∀ q, q < H.size → AX q → A0 q)
    (kx : ∀ (E : String) (ce : Cell) (q9 : Addr) (u : SX) (t : State) (H1 : Heap) (locs1 : List Loc), t.heap = H1 → s.vm.Alike t.vm → px u → BX E u t → H.size ≤ H1.size → (∀ q : Nat, q < H.size → ¬ AX q → H1[q]? = H[q]?) → va_S A0 H0 H1 locs1 → H1[q9]? = some ce → ce.vm = .none → s.vm.findClass E = some ce.cls → vx_W p l e R s m args below meth c H1 locs1 (cells + mc) (slots + ms) Q (F0 m pc ls rest) q9)
    (kk : ∀ (r : UInt64) (u : S) (t : State) (H1 : Heap) (locs1 : List Loc), t.heap = H1 → s.vm.Alike t.vm → post r u → B u t → H.size ≤ H1.size → (∀ q : Nat, q < H.size → ¬ A1 q → H1[q]? = H[q]?) → va_S A0 H0 H1 locs1 → W p l e R s m args below meth c H1 locs1 (cells + mc) (slots + ms) Q (F0 m (pc + 3) ls (.double r :: rest))) : W p l e R s m args below meth c H locs cells slots Q (F0 m pc ls st0) := by
  intro T hT X
  rcases hr T hT X with ⟨v, st₀, t, T', L, h0, X', hL, e1, e2, ⟨⟨r, u, hv, hp, hb⟩, hF⟩, st⟩ | ⟨q, st₀, t, T', L, E, ce, h0, X', hL, e1, e2, ⟨u, hp, hb, hF⟩, hce, hcv, hcl, st⟩
  · cases hv
    obtain ⟨k1, k2, k3⟩ := vx_keep h0 e1 hS hA hf hL hF
    obtain ⟨t2, a1, b1⟩ := kk r u t T'.heap (locs ++ L) e1.symm (by rw [← e2]; exact X'.warmed.alike) hp hb k1 k2 k3 T' rfl X'
    exact ⟨t2, st t2 a1, b1⟩
  · obtain ⟨k1, k2, k3⟩ := vx_keep h0 e1 hS hAX hf hL hF
    obtain ⟨t2, a1, b1⟩ := kx E ce q u t T'.heap (locs ++ L) e1.symm (by rw [← e2]; exact X'.warmed.alike) hp hb k1 k2 k3 (by rw [e1]; exact hce) hcv hcl T' rfl X'
    exact ⟨t2, st.trans a1, b1⟩
theorem vx_callv {S SX : Type} {post : S → Prop} {px : SX → Prop} {B : S → State → Prop} {BX : String → SX → State → Prop} {AX : Nat → Prop} (hr : vx_Run p l e R s m args below meth c H locs cells slots mc ms (F0 m pc ls st0) rest (va_Qv post B A1 a) (vx_X px BX AX) free) (hS : va_S A0 H0 H locs) (hA : ∀ q, q < H.size → A1 q → A0 q) (hf : ∀ q, free q → A0 q) (hAX : ∀ q, q < H.size → AX q → A0 q)
    (kx : ∀ (E : String) (ce : Cell) (q9 : Addr) (u : SX) (t : State) (H1 : Heap) (locs1 : List Loc), t.heap = H1 → s.vm.Alike t.vm → px u → BX E u t → H.size ≤ H1.size → (∀ q : Nat, q < H.size → ¬ AX q → H1[q]? = H[q]?) → va_S A0 H0 H1 locs1 → H1[q9]? = some ce → ce.vm = .none → s.vm.findClass E = some ce.cls → vx_W p l e R s m args below meth c H1 locs1 (cells + mc) (slots + ms) Q (F0 m pc ls rest) q9)
    (kk : ∀ (u : S) (t : State) (H1 : Heap) (locs1 : List Loc), t.heap = H1 → s.vm.Alike t.vm → post u → B u t → H.size ≤ H1.size → (∀ q : Nat, q < H.size → ¬ A1 q → H1[q]? = H[q]?) → va_S A0 H0 H1 locs1 → W p l e R s m args below meth c H1 locs1 (cells + mc) (slots + ms) Q (F0 m (pc + 3) ls (rest))) : W p l e R s m args below meth c H locs cells slots Q (F0 m pc ls st0) := by
  intro T hT X
  rcases hr T hT X with ⟨v, st₀, t, T', L, h0, X', hL, e1, e2, ⟨⟨u, hv, hp, hb⟩, hF⟩, st⟩ | ⟨q, st₀, t, T', L, E, ce, h0, X', hL, e1, e2, ⟨u, hp, hb, hF⟩, hce, hcv, hcl, st⟩
  · cases hv
    obtain ⟨k1, k2, k3⟩ := vx_keep h0 e1 hS hA hf hL hF
    obtain ⟨t2, a1, b1⟩ := kk u t T'.heap (locs ++ L) e1.symm (by rw [← e2]; exact X'.warmed.alike) hp hb k1 k2 k3 T' rfl X'
    exact ⟨t2, st t2 a1, b1⟩
  · obtain ⟨k1, k2, k3⟩ := vx_keep h0 e1 hS hAX hf hL hF
    obtain ⟨t2, a1, b1⟩ := kx E ce q u t T'.heap (locs ++ L) e1.symm (by rw [← e2]; exact X'.warmed.alike) hp hb k1 k2 k3 (by rw [e1]; exact hce) hcv hcl T' rfl X'
    exact ⟨t2, st.trans a1, b1⟩
/-- caught by the row x of this method's table; the rows ahead don't take it -/
theorem vx_catch {own name : String} {E : String} {ce : Cell} {q : Addr} (hown : s.vm.findClass own = some m.cls) (pre : List ExceptionTableEntry) (x : ExceptionTableEntry) (suf : List ExceptionTableEntry) (hsplit : c.exceptionTable.toList = pre ++ x :: suf)
    (hpass : ∀ z ∈ pre, covers z pc = false ∨ (z.catchType ≠ 0 ∧ ∃ nm : String, (Cond.classLink own z.catchType nm).before args s = true ∧ va_Nc E nm s)) (hx : covers x pc = true) (h0 : x.catchType ≠ 0)
    (hlink : (Cond.classLink own x.catchType name).before args s = true) (hcast : (Cond.castable E name).before args s = true) (hcell : H[q]? = some ce) (hv : ce.vm = .none) (hcl : s.vm.findClass E = some ce.cls)
    (kk : W p l e R s m args below meth c H locs cells slots Q (F0 m x.handlerPc ls [.ref q])) : vx_W p l e R s m args below meth c H locs cells slots Q (F0 m pc ls rest) q := by
  intro T hT X
  have hpl : e.platform.magicAccessors = ({} : Platform).magicAccessors := by rw [X.admits.platform]
  obtain ⟨c3, c4, hc3, hc4, hasg⟩ := Cond.castable_spec hcast
  cases Option.some.inj (hc3.symm.trans hcl)
  obtain ⟨c5, hc5, hcl5⟩ := Cond.classLink_spec hown hlink e.platform hpl
  cases Option.some.inj (hc4.symm.trans hc5)
  obtain ⟨vm', X', st⟩ := Stand.thenCaughtThrough X q (g := F0 m pc ls rest) rfl (Steps.refl _) (by rw [hT]; exact hcell) (by rw [hv]; rfl) (by obtain ⟨k9, h9, -⟩ := Vm.findClass_spec hcl; exact ⟨k9, h9⟩) pre x suf hsplit
    (fun z hz => by
      rcases hpass z hz with h | ⟨hz0, nm, hl1, hn1⟩
      · exact Or.inl h
      · obtain ⟨c6, hc6, hcl6⟩ := Cond.classLink_spec hown hl1 e.platform hpl
        obtain ⟨a8, b8, h1, h2, h3⟩ := hn1
        cases Option.some.inj (h1.symm.trans hcl)
        cases Option.some.inj (h2.symm.trans hc6)
        exact Or.inr ⟨hz0, _, hcl6, h3⟩) hx (Or.inr ⟨h0, c4, hcl5, hasg⟩)
  obtain ⟨t, a1, b1⟩ := kk (T.setVm vm') hT X'
  exact ⟨t, st.trans a1, b1⟩
end Rows
section Ends
variable {p : Program} {l : Launch} {e : Env} {R : Room} {s : State} {m : MethodId} {args : Array Value} {below : List Frame} {meth : Method} {c : Code} {H : Heap} {locs : List Loc} {cells slots : Nat} {Q : State → Prop}
variable {mc ms : Nat} {free : Addr → Prop} {A0 A1 : Nat → Prop} {H0 : Heap} {a : Array Value} {ls : Array Slot} {st0 rest : List Value}
variable {Qc : Array Value → State → Outcome → State → Prop} {XC : String → State → State → Prop}
/-- what a body that may throw owes at its end -/
def vx_MQ (below : List Frame) (Qc : Array Value → State → Outcome → State → Prop) (XC : String → State → State → Prop) (a : Array Value) (s : State) (mc ms : Nat) (free : Addr → Prop) : State → Prop := fun t =>
  ∃ o, t.status = .running ∧ Ended t below o ∧ vx_Q Qc XC mc ms free a s o t
theorem vx_ret {g : JFrame} {mc ms : Nat} (k : W p l e R s m args below meth c H locs cells slots (MQ below Qc args s mc ms free) g) : W p l e R s m args below meth c H locs cells slots (vx_MQ below Qc XC args s mc ms free) g := by
  intro T hT X
  obtain ⟨t, a1, o, b1, b2, b3, b4⟩ := k T hT X
  exact ⟨t, a1, o, b1, b2, Or.inl ⟨b3, b4⟩⟩
/-- not caught here: it goes on to the caller -/
theorem vx_widen {g : JFrame} {q : Addr} {k n : Nat} (h1 : cells ≤ k) (h2 : slots ≤ n) (kk : vx_W p l e R s m args below meth c H locs k n Q g q) : vx_W p l e R s m args below meth c H locs cells slots Q g q := fun T hT X => kk T hT (stand_widen X h1 h2)
theorem vx_out {pc : Nat} {E : String} {ce : Cell} {q : Addr} {mc ms : Nat} (hout : ∀ x ∈ c.exceptionTable.toList, covers x pc = false) (hlocks : meth.locks = false) (hcell : H[q]? = some ce) (hv : ce.vm = .none) (hcl : s.vm.findClass E = some ce.cls)
    (hx : ∀ t : State, t.heap = H → s.vm.Alike t.vm → XC E s t) (hf : ∀ z ∈ locs, free z.base) (hc : cells ≤ mc) (hs : slots ≤ ms) :
    vx_W p l e R s m args below meth c H locs cells slots (vx_MQ below Qc XC args s mc ms free) (F0 m pc ls rest) q := by
  intro T hT X
  obtain ⟨st1, hrun, hend, hW, hsm⟩ := X.leaveThrown q (g := F0 m pc ls rest) rfl rfl rfl hout hlocks
  have hcell9 : (T.setFrames (.throwing q :: below)).heap[q]? = some ce := by
    show T.heap[q]? = some ce
    rw [hT]; exact hcell
  exact ⟨_, st1, .threw q, hrun, hend, Or.inr ⟨q, rfl, E, ce, locs, hx _ hT hW.alike, hcell9, hv, hcl, hW, hsm.mono hc hs, hf⟩⟩
theorem vx_frame {U : State} {k n : Nat} (h : s.sameButNew ({ U with vm := s.vm } : State) locs k n) : s.heap.size ≤ U.heap.size ∧ ∀ q : Nat, q < s.heap.size → (∀ z ∈ locs, z.base ≠ q) → U.heap[q]? = s.heap[q]? := by
  obtain ⟨-, h2, -, -, -, h6⟩ := h
  refine ⟨h2, fun q hq hz => ?_⟩
  obtain ⟨c9, e1, e2, e3, e4⟩ := h6 q _ (Array.getElem?_eq_getElem hq)
  have hs : c9.slots = (s.heap[q]).slots := Array.ext_getElem? fun i => e4 i fun hm => hz _ hm rfl
  have h9 : c9 = s.heap[q] := by
    rw [hs] at e2
    exact e2
  have e5 : U.heap[q]? = some c9 := e1
  rw [e5, h9, Array.getElem?_eq_getElem hq]
/-- the words of a throw but the four that speak of the heap -/
def vx_no (w : Cond) : Bool := decide (w ≠ .isRef (.static Bundle.tN "UNASSIGNED_STACK" Bundle.steD)) && decide (w ≠ .isRef (.static Bundle.tN "SUPPRESSED_SENTINEL" Bundle.listD)) && decide (w ≠ .laysStatic Bundle.tN "UNASSIGNED_STACK" Bundle.steD) && decide (w ≠ .laysStatic Bundle.tN "SUPPRESSED_SENTINEL" Bundle.listD)
def vx_at0 (own : String) (ic : Nat) (X : String) (names : List String) : List Cond := (Bundle.ownAtoms0 own ic X names).filter vx_no
def vx_atS (own : String) (ic : Nat) (X : String) (names : List String) : List Cond := (Bundle.ownAtoms own ic X names).filter vx_no
/-- a word that the tables alone decide, or a good one -/
def vx_ot (w : Cond) : Bool := w.onTables || goodWord w
theorem vx_ot_at {args a' : Array Value} {s U : State} {w : Cond} (hW : s.WarmedH U.vm) (hvm : s.vm = U.vm) (hg : vx_ot w = true) (h : w.before args s = true) : w.before a' U = true := by
  simp only [vx_ot, Bool.or_eq_true] at hg
  rcases hg with hg | hg
  · exact va_tabs hg hvm h
  · exact word_at hW (good_of_word hg) h
/-- a list's words: the good ones out of the method's own list, the others by premises of their own -/
theorem vx_hat {args : Array Value} {s : State} {L B : List Cond} (h1 : ∀ w ∈ L.filter goodWord, w.before args s = true) (h2 : ∀ w ∈ L.filter (fun w => !goodWord w), w ∈ B) (h3 : ∀ w ∈ B, w.before args s = true) : ∀ w ∈ L, w.before args s = true := by
  intro w hw
  by_cases g : goodWord w = true
  · exact h1 w (List.mem_filter.mpr ⟨hw, g⟩)
  · refine h3 w (h2 w (List.mem_filter.mpr ⟨hw, ?_⟩))
    show (!goodWord w) = true
    cases hgw : goodWord w
    · rfl
    · exact absurd hgw g
theorem vx_c {args : Array Value} {s : State} {w : Cond} {B : List Cond} (h : w.before args s = true) (t : ∀ w ∈ B, w.before args s = true) : ∀ w' ∈ w :: B, w'.before args s = true := fun w' h' => (List.mem_cons.mp h').elim (fun e => by rw [e]; exact h) (t w')
theorem vx_n {args : Array Value} {s : State} : ∀ w ∈ ([] : List Cond), w.before args s = true := fun _ h => nomatch h
theorem vx_own {args : Array Value} {s : State} {L : List Cond} (h1 : ∀ w ∈ L.filter vx_no, w.before args s = true)
    (hU : (Cond.isRef (.static Bundle.tN "UNASSIGNED_STACK" Bundle.steD)).before args s = true) (hN : (Cond.isRef (.static Bundle.tN "SUPPRESSED_SENTINEL" Bundle.listD)).before args s = true)
    (lU : (Cond.laysStatic Bundle.tN "UNASSIGNED_STACK" Bundle.steD).before args s = true) (lN : (Cond.laysStatic Bundle.tN "SUPPRESSED_SENTINEL" Bundle.listD).before args s = true) : ∀ w ∈ L, w.before args s = true := by
  intro w hw
  by_cases e1 : w = .isRef (.static Bundle.tN "UNASSIGNED_STACK" Bundle.steD)
  · rw [e1]; exact hU
  · by_cases e2 : w = .isRef (.static Bundle.tN "SUPPRESSED_SENTINEL" Bundle.listD)
    · rw [e2]; exact hN
    · by_cases e3 : w = .laysStatic Bundle.tN "UNASSIGNED_STACK" Bundle.steD
      · rw [e3]; exact lU
      · by_cases e4 : w = .laysStatic Bundle.tN "SUPPRESSED_SENTINEL" Bundle.listD
        · rw [e4]; exact lN
        · exact h1 w (List.mem_filter.mpr ⟨hw, by unfold vx_no; rw [decide_eq_true e1, decide_eq_true e2, decide_eq_true e3, decide_eq_true e4]; rfl⟩)
/-- where a static field lies, its class's statics cell in H -/
def vx_L (C n d : String) (A : Nat → Prop) (U : State) (H : Heap) : Prop := ∃ (c : ClassId) (k : Class) (i : Nat) (f : Field) (a : Nat) (cell : Cell), U.vm.findClass C = some c ∧ U.fieldFound? C n d = some (c, k, i, f) ∧ f.isStatic = true ∧ k.statics = some a ∧ H[a]? = some cell ∧ cell.vm.isStatics = true ∧ cell.cls = c ∧ f.slot < cell.slots.size ∧ k.staticTypes[f.slot]? = some f.type ∧ ¬ A a
theorem vx_L.moved {C n d : String} {A : Nat → Prop} {u U : State} {H : Heap} (hvm : u.vm.Alike U.vm) (h : vx_L C n d A u H) : vx_L C n d A U H := by
  obtain ⟨c, k, i, f, a, cell, h1, h2, h3, h4, h5, h6, h7, h8, h9, h10⟩ := h
  obtain ⟨k', hi', he⟩ := State.fieldFound?_setVm hvm h2
  exact ⟨c, k', i, f, a, cell, by rw [hvm.findClass]; exact h1, hi', h3, by rw [he]; exact h4, h5, h6, h7, h8, by rw [he]; exact h9, h10⟩
theorem vx_L.kept {C n d : String} {A : Nat → Prop} {U : State} {H H1 : Heap} (h : vx_L C n d A U H) (hq : ∀ a : Nat, a < H.size → ¬ A a → H1[a]? = H[a]?) : vx_L C n d A U H1 := by
  obtain ⟨c, k, i, f, a, cell, h1, h2, h3, h4, h5, h6, h7, h8, h9, h10⟩ := h
  exact ⟨c, k, i, f, a, cell, h1, h2, h3, h4, by rw [hq a (Array.getElem?_eq_some_iff.mp h5).1 h10]; exact h5, h6, h7, h8, h9, h10⟩
theorem vx_L.narrow {C n d : String} {A B : Nat → Prop} {U : State} {H : Heap} (h : vx_L C n d A U H) (hAB : ∀ q, B q → A q) : vx_L C n d B U H := by
  obtain ⟨c, k, i, f, a, cell, h1, h2, h3, h4, h5, h6, h7, h8, h9, h10⟩ := h
  exact ⟨c, k, i, f, a, cell, h1, h2, h3, h4, h5, h6, h7, h8, h9, fun z => h10 (hAB _ z)⟩
theorem vx_L.word {C n d : String} {A : Nat → Prop} {s : State} {args : Array Value} (h : vx_L C n d A s s.heap) : (Cond.laysStatic C n d).before args s = true := by
  obtain ⟨c, k, i, f, a, cell, h1, h2, h3, h4, h5, h6, h7, h8, h9, -⟩ := h
  show (Cond.laysStatic C n d).holds args s none s [] = true
  exact Cond.laysStatic_of h1 h2 h3 h4 h5 h6 h7 h8 h9
/-- .. and what it holds: null or some reference -/
def vx_Zq (C n d : String) (A : Nat → Prop) (U : State) (H : Heap) : Prop := va_Zq C n d A U H ∧ vx_L C n d A U H
theorem vx_Zq.moved {C n d : String} {A : Nat → Prop} {u U : State} {H : Heap} (hvm : u.vm.Alike U.vm) (h : vx_Zq C n d A u H) : vx_Zq C n d A U H := ⟨va_Zq.moved hvm h.1, vx_L.moved hvm h.2⟩
theorem vx_Zq.kept {C n d : String} {A : Nat → Prop} {U : State} {H H1 : Heap} (h : vx_Zq C n d A U H) (hq : ∀ a : Nat, a < H.size → ¬ A a → H1[a]? = H[a]?) : vx_Zq C n d A U H1 := ⟨va_Zq.kept h.1 hq, vx_L.kept h.2 hq⟩
theorem vx_Zq.narrow {C n d : String} {A B : Nat → Prop} {U : State} {H : Heap} (h : vx_Zq C n d A U H) (hAB : ∀ q, B q → A q) : vx_Zq C n d B U H := ⟨va_Zq.narrow h.1 hAB, vx_L.narrow h.2 hAB⟩
theorem vx_Zqof {args : Array Value} {s : State} {C n d : String} {A : Nat → Prop} (hl : (Cond.laysStatic C n d).before args s = true) (hini : (Cond.initialized C).before args s = true) (h : (Cond.isRef (.static C n d)).before args s = true) (hA : ∀ a : Nat, a < s.heap.size → ¬ A a) : vx_Zq C n d A s s.heap := by
  refine ⟨va_Zqof hl hini h hA, ?_⟩
  obtain ⟨c, k, i, f, a, cell, h1, h2, h3, h4, h5, h6, h7, h8, h9⟩ := Cond.laysStatic_spec hl
  exact ⟨c, k, i, f, a, cell, h1, h2, h3, h4, h5, h6, h7, h8, h9, hA a (Array.getElem?_eq_some_iff.mp h5).1⟩
theorem vx_isRef {C n d : String} {v : Value} {A : Nat → Prop} {s : State} {args : Array Value} (h : va_Z C n d v A s s.heap) (hv : v.isRef = true) : (Cond.isRef (.static C n d)).before args s = true := by
  obtain ⟨cf, kf, fi, f, a, cell, h1, h2, h3, h4, h5, h6, h7, -⟩ := h
  have he : (Term.static C n d).eval args s none [] s = some v := by
    simp [Term.eval, State.fieldNamed?, h1, h2, h4, h5, h6, h7]
  simp only [Cond.before, Cond.holds, Cond.value, he]
  cases v <;> simp_all [Value.isRef]
theorem vx_isRefq {C n d : String} {A : Nat → Prop} {s : State} {args : Array Value} (h : va_Zq C n d A s s.heap) : (Cond.isRef (.static C n d)).before args s = true := by
  rcases h with h | ⟨t, h⟩
  · exact vx_isRef h rfl
  · exact vx_isRef h rfl
/-- the same frame, seen from here: as if the method were called anew in this heap -/
theorem vx_rebase {T : State} (X : Stand p l e R s m args below meth c T locs cells slots) {R' : Room} (hf : R'.frames ≤ R.frames) (hl : R'.locals ≤ R.locals) (hc : cells + R'.cells ≤ R.cells) (hs : slots + R'.slots ≤ R.slots) :
    Stand p l e R' ((T.setVm s.vm).setFrames (.invoking m args :: below)) m args below meth c T [] 0 0 := by
  have htop : (T.setVm s.vm).topJava?.isSome := X.here.top
  have hF : ((T.setVm s.vm).setFrames (.invoking m args :: below)).frames = .invoking m args :: below := State.frames_setFrames _ (State.cur_lt_of_top htop)
  obtain ⟨g₀, hg0⟩ := Option.isSome_iff_exists.mp htop
  obtain ⟨r, hr⟩ := State.topJava?_eq_some.mp hg0
  have hl9 : e.platform.stackLimits (T.setVm s.vm).me = e.platform.stackLimits s.me := X.limits
  have hb9 : (T.setVm s.vm).me.stackBytes = s.me.stackBytes := X.bytes
  refine ⟨X.admits, X.cas, X.clock, hF, ?_, X.hears, X.method, X.code, X.here, X.tail, X.warmed, ?_, ?_, ?_⟩
  · have h := X.room
    have hU : ((T.setVm s.vm).setFrames (.invoking m args :: below)).localsInUse = s.localsInUse := by
      rw [State.localsInUse_invoking hF (meth := meth) (c := c) X.method X.code, State.localsInUse_invoking X.frames X.method X.code]
    simp only [State.hasRoom, Bool.and_eq_true, decide_eq_true_eq] at h ⊢
    obtain ⟨⟨⟨⟨h1, h2, h3, h4, h5, h6⟩, h7⟩, h8⟩, h9⟩ := h
    rw [X.frames, List.length_cons] at h2 h3
    have q1 := X.heapSize
    have q2 := X.used
    simp only [hF, hU, List.length_cons, State.stackLimits_setFrames, State.stackBytes_setFrames, hl9, hb9]
    refine ⟨⟨⟨⟨by omega, by omega, by omega, by omega, by omega, h6⟩, ?_⟩, ?_⟩, X.book⟩
    · show T.heap.size + R'.cells ≤ e.platform.maxCells
      omega
    · show T.slotsUsed + R'.slots ≤ e.platform.maxSlots
      omega
  · rw [State.stackLimits_setFrames]; rfl
  · rw [State.stackBytes_setFrames]; rfl
  · refine ⟨?_, Nat.le_refl _, Nat.le_refl _, ?_, ?_, fun a c9 h9 => ⟨c9, h9, rfl, rfl, fun _ _ => rfl⟩⟩
    · obtain ⟨t, ht, -⟩ := State.frames_cons hr
      show T.setVm s.vm = { ((T.setVm s.vm).setFrames (.invoking m args :: below)).setFrames (T.setVm s.vm).frames with heap := T.heap, slotsUsed := T.slotsUsed }
      rw [State.setFrames_setFrames, State.setFrames_self ht]
      rfl
    · show T.slotsUsed = T.slotsUsed + ((T.heap.toList.drop T.heap.size).map (·.slots.size)).sum
      rw [List.drop_eq_nil_of_le (Nat.le_of_eq Array.length_toList)]
      rfl
    · show ((T.heap.toList.drop T.heap.size).map (·.slots.size)).sum ≤ 0
      rw [List.drop_eq_nil_of_le (Nat.le_of_eq Array.length_toList)]
      exact Nat.le_refl _
/-- 'throw new E()': new; dup; invokespecial; athrow -/
theorem vx_throw0 {cc : ByteArray} {pc : Nat} (hexec : p.tables.exec = Jvm.exec) (hb : c.code = cc) (hl : l.stackTraces = false) {own cls : String} {names : List String} {ik ic mc ms : Nat} {A : Nat → Prop}
    (hown : s.vm.findClass own = some m.cls) (hcls : Bundle.fit cls = true) (hnames : ∀ n ∈ names, Bundle.fit n = true)
    (hk : (Cond.classLink own ik cls).before args s = true) (hini : (Cond.initialized cls).before args s = true) (hat : ∀ w ∈ vx_at0 own ic cls names, w.before args s = true)
    (hgood : ∀ w ∈ Cond.classLink own ik cls :: Cond.initialized cls :: vx_at0 own ic cls names, vx_ot w = true)
    (hU : vx_Zq Bundle.tN "UNASSIGNED_STACK" Bundle.steD A s s.heap) (hN : vx_Zq Bundle.tN "SUPPRESSED_SENTINEL" Bundle.listD A s s.heap) (hS : va_S A s.heap H locs) (hsize : ls.size = c.maxLocals)
    (d0 : decode cc pc = .ok (.new ik, 3)) (d3 : decode cc (pc + 3) = .ok (.dup, 1)) (d4 : decode cc (pc + 4) = .ok (.invokespecial ic, 3)) (d7 : decode cc (pc + 7) = .ok (.athrow, 1))
    (hout : ∀ x ∈ c.exceptionTable.toList, covers x (pc + 7) = false)
    (hRframes : names.length + 3 < R.frames) (hRlocals : (rest.map fun v => v.category).sum + (13 * (names.length + 1) + 42) ≤ R.locals) (hRcells : cells + 1 ≤ R.cells) (hRslots : slots + 6 ≤ R.slots) (hlocks : meth.locks = false)
    (hx : ∀ t : State, s.vm.Alike t.vm → H.size ≤ t.heap.size → (∀ q : Nat, q < H.size → t.heap[q]? = H[q]?) → XC cls s t)
    (hf : ∀ z ∈ locs, free z.base) (hc : cells + 1 ≤ mc) (hs : slots + 6 ≤ ms) :
    W p l e R s m args below meth c H locs cells slots (vx_MQ below Qc XC args s mc ms free) (F0 m pc ls rest) := by
  intro T hT X
  have htr : e.platform.stackTraces = false := (show e.platform.stackTraces = l.stackTraces by rw [X.admits.platform]).trans hl
  have Y := vx_rebase X (R' := { frames := R.frames, locals := R.locals, cells := 1, slots := 6 }) (Nat.le_refl _) (Nat.le_refl _) hRcells hRslots
  obtain ⟨s', hA⟩ : ∃ z, z = (T.setVm s.vm).setFrames (.invoking m args :: below) := ⟨_, rfl⟩
  rw [← hA] at Y
  have hvm : s'.vm = s.vm := by rw [hA]; rfl
  have hhp : s'.heap = H := by rw [hA]; exact hT
  have hW0 : s.WarmedH s'.vm := by rw [hvm]; exact State.WarmedH.refl s
  have hat' : ∀ w ∈ vx_at0 own ic cls names, w.before args s' = true := fun w hw => vx_ot_at hW0 hvm.symm (hgood w (List.mem_cons_of_mem _ (List.mem_cons_of_mem _ hw))) (hat w hw)
  have hk' : (Cond.classLink own ik cls).before args s' = true := vx_ot_at hW0 hvm.symm (hgood _ List.mem_cons_self) hk
  have hini' : (Cond.initialized cls).before args s' = true := vx_ot_at hW0 hvm.symm (hgood _ (List.mem_cons_of_mem _ List.mem_cons_self)) hini
  have hU' : vx_Zq Bundle.tN "UNASSIGNED_STACK" Bundle.steD A s' s'.heap := by rw [hhp]; exact vx_Zq.moved hW0.alike (hU.kept hS.2.1)
  have hN' : vx_Zq Bundle.tN "SUPPRESSED_SENTINEL" Bundle.listD A s' s'.heap := by rw [hhp]; exact vx_Zq.moved hW0.alike (hN.kept hS.2.1)
  have h : ∀ w ∈ Bundle.ownAtoms0 own ic cls names, w.before args s' = true := vx_own hat' (vx_isRefq hU'.1) (vx_isRefq hN'.1) hU'.2.word hN'.2.word
  have hown' : s'.vm.findClass own = some m.cls := by rw [hvm]; exact hown
  have hins : (Cond.instantiable cls 6).before args s' = true := h _ (by simp [Bundle.ownAtoms0])
  obtain ⟨vm₁, cX, kX, hfX, hkX, -, -, X₁, st1⟩ := Y.newCold hexec (own := own) (C := cls) (index := ik) (n := 6) hown' hk' hins hini'
    (g := F0 m pc ls rest) rfl (by rw [hb]; exact d0) (Nat.le_refl _) (Nat.le_refl _)
  generalize hT1 : (T.setVm vm₁).pushCell { cls := cX, slots := kX.instanceTypes.map defaultValue, vm := .none } = T1 at X₁ st1
  have hcat : (Value.ref T.heap.size).category = 1 := rfl
  have hcellA : T1.heap[T.heap.size]? = some (freshCell cX kX) := by rw [← hT1]; exact State.heap_pushCell_size _ _
  have d3' : decode c.code (pc + 3) = .ok (.dup, 1) := by rw [hb]; exact d3
  obtain ⟨U, hsteps, hrun, hend, hW, hsame, ce, hce, hO⟩ := X₁.ctorThrow0 hexec htr (own := own) (cls := cls) (names := names) (ic := ic) hown' hcls hnames h (fun x hx => nomatch hx) hfX hkX hcellA (by rw [hhp, hT]; exact Nat.le_refl _)
    (g := { method := m, pc := pc + 4, locals := ls, stack := .ref T.heap.size :: .ref T.heap.size :: rest, locked := none }) rfl hsize rfl rfl (rest := rest) rfl
    (by rw [hb]; exact d4) (by rw [hb]; exact d7) hout hRframes (by simp only [List.map_cons, List.sum_cons, hcat]; omega) hlocks
  obtain ⟨f1, f2⟩ := vx_frame hsame
  rw [hhp] at f1 f2
  have hWs : s.WarmedH U.vm := State.WarmedH.trans hW0 hW
  have hcl : s.vm.findClass cls = some ce.cls := by
    have h9 := hO.cls
    rw [hvm] at h9
    exact h9
  have hall : s.sameButNew ({ U with vm := s.vm } : State) locs mc ms := by
    subst hA
    obtain ⟨e1, e2⟩ := hsame
    rw [State.setFrames_setFrames] at e1
    have h2 : (T.setVm s.vm).sameButNew ({ U with vm := s.vm } : State) [] (0 + 1) (0 + 6) := ⟨e1, e2⟩
    have h3 := X.same.trans h2
    rw [List.append_nil] at h3
    exact h3.mono hc hs
  refine ⟨U, ?_, .threw T.heap.size, hrun, hend, Or.inr ⟨T.heap.size, rfl, cls, ce, locs, hx U hWs.alike f1 (fun q hq => f2 q hq (fun z hz => nomatch hz)), hce, hO.vm, hcl, hWs, hall, hf⟩⟩
  refine st1 _ ?_
  show Steps p.tables e below (T1.setTop { method := m, pc := pc + 3, locals := ls, stack := .ref T.heap.size :: rest, locked := none }) _
  jvm_step X₁.here [X₁.here.top, hexec, d3', Value.category]
  exact hsteps
/-- 'throw new E("text")': new; dup; ldc; invokespecial; athrow -/
theorem vx_throwS {cc : ByteArray} {pc : Nat} (hexec : p.tables.exec = Jvm.exec) (hb : c.code = cc) (hl : l.stackTraces = false) {own cls text : String} {names : List String} {ik is ic mc ms sa : Nat} {A : Nat → Prop}
    (hown : s.vm.findClass own = some m.cls) (hcls : Bundle.fit cls = true) (hnames : ∀ n ∈ names, Bundle.fit n = true)
    (hk : (Cond.classLink own ik cls).before args s = true) (hini : (Cond.initialized cls).before args s = true) (hstr : vk_R own is text sa s) (hat : ∀ w ∈ vx_atS own ic cls names, w.before args s = true)
    (hgood : ∀ w ∈ Cond.classLink own ik cls :: Cond.initialized cls :: vx_atS own ic cls names, vx_ot w = true)
    (hU : vx_Zq Bundle.tN "UNASSIGNED_STACK" Bundle.steD A s s.heap) (hN : vx_Zq Bundle.tN "SUPPRESSED_SENTINEL" Bundle.listD A s s.heap) (hS : va_S A s.heap H locs) (hsize : ls.size = c.maxLocals)
    (d0 : decode cc pc = .ok (.new ik, 3)) (d3 : decode cc (pc + 3) = .ok (.dup, 1)) (d4 : decode cc (pc + 4) = .ok (.ldc is, 2)) (d6 : decode cc (pc + 6) = .ok (.invokespecial ic, 3)) (d9 : decode cc (pc + 9) = .ok (.athrow, 1))
    (hout : ∀ x ∈ c.exceptionTable.toList, covers x (pc + 9) = false)
    (hRframes : names.length + 3 < R.frames) (hRlocals : (rest.map fun v => v.category).sum + (13 * (names.length + 1) + 43) ≤ R.locals) (hRcells : cells + 1 ≤ R.cells) (hRslots : slots + 6 ≤ R.slots) (hlocks : meth.locks = false)
    (hx : ∀ t : State, s.vm.Alike t.vm → H.size ≤ t.heap.size → (∀ q : Nat, q < H.size → t.heap[q]? = H[q]?) → XC cls s t)
    (hf : ∀ z ∈ locs, free z.base) (hc : cells + 1 ≤ mc) (hs : slots + 6 ≤ ms) :
    W p l e R s m args below meth c H locs cells slots (vx_MQ below Qc XC args s mc ms free) (F0 m pc ls rest) := by
  intro T hT X
  have htr : e.platform.stackTraces = false := (show e.platform.stackTraces = l.stackTraces by rw [X.admits.platform]).trans hl
  have Y := vx_rebase X (R' := { frames := R.frames, locals := R.locals, cells := 1, slots := 6 }) (Nat.le_refl _) (Nat.le_refl _) hRcells hRslots
  obtain ⟨s', hA⟩ : ∃ z, z = (T.setVm s.vm).setFrames (.invoking m args :: below) := ⟨_, rfl⟩
  rw [← hA] at Y
  have hvm : s'.vm = s.vm := by rw [hA]; rfl
  have hhp : s'.heap = H := by rw [hA]; exact hT
  have hW0 : s.WarmedH s'.vm := by rw [hvm]; exact State.WarmedH.refl s
  have hat' : ∀ w ∈ vx_atS own ic cls names, w.before args s' = true := fun w hw => vx_ot_at hW0 hvm.symm (hgood w (List.mem_cons_of_mem _ (List.mem_cons_of_mem _ hw))) (hat w hw)
  have hk' : (Cond.classLink own ik cls).before args s' = true := vx_ot_at hW0 hvm.symm (hgood _ List.mem_cons_self) hk
  have hini' : (Cond.initialized cls).before args s' = true := vx_ot_at hW0 hvm.symm (hgood _ (List.mem_cons_of_mem _ List.mem_cons_self)) hini
  have hU' : vx_Zq Bundle.tN "UNASSIGNED_STACK" Bundle.steD A s' s'.heap := by rw [hhp]; exact vx_Zq.moved hW0.alike (hU.kept hS.2.1)
  have hN' : vx_Zq Bundle.tN "SUPPRESSED_SENTINEL" Bundle.listD A s' s'.heap := by rw [hhp]; exact vx_Zq.moved hW0.alike (hN.kept hS.2.1)
  have h : ∀ w ∈ Bundle.ownAtoms own ic cls names, w.before args s' = true := vx_own hat' (vx_isRefq hU'.1) (vx_isRefq hN'.1) hU'.2.word hN'.2.word
  have hown' : s'.vm.findClass own = some m.cls := by rw [hvm]; exact hown
  have hins : (Cond.instantiable cls 6).before args s' = true := h _ (by simp [Bundle.ownAtoms])
  obtain ⟨vm₁, cX, kX, hfX, hkX, -, -, X₁, st1⟩ := Y.newCold hexec (own := own) (C := cls) (index := ik) (n := 6) hown' hk' hins hini'
    (g := F0 m pc ls rest) rfl (by rw [hb]; exact d0) (Nat.le_refl _) (Nat.le_refl _)
  generalize hT1 : (T.setVm vm₁).pushCell { cls := cX, slots := kX.instanceTypes.map defaultValue, vm := .none } = T1 at X₁ st1
  have hcat : (Value.ref T.heap.size).category = 1 := rfl
  have hcellA : T1.heap[T.heap.size]? = some (freshCell cX kX) := by rw [← hT1]; exact State.heap_pushCell_size _ _
  have d3' : decode c.code (pc + 3) = .ok (.dup, 1) := by rw [hb]; exact d3
  have d4' : decode c.code (pc + 4) = .ok (.ldc is, 2) := by rw [hb]; exact d4
  have hstr' : vk_R own is text sa s' := vk_R.warm hW0 hstr
  obtain ⟨U, hsteps, hrun, hend, hW, hsame, ce, hce, hO⟩ := X₁.ctorThrowS hexec htr (own := own) (cls := cls) (names := names) (ic := ic) hown' hcls hnames h (fun x hx => nomatch hx) hfX hkX hcellA (by rw [hhp, hT]; exact Nat.le_refl _) (msg := .ref sa) rfl
    (g := { method := m, pc := pc + 6, locals := ls, stack := .ref sa :: .ref T.heap.size :: .ref T.heap.size :: rest, locked := none }) rfl hsize rfl rfl (rest := rest) rfl
    (by rw [hb]; exact d6) (by rw [hb]; exact d9) hout hRframes (by simp only [List.map_cons, List.sum_cons, hcat]; omega) hlocks
  obtain ⟨f1, f2⟩ := vx_frame hsame
  rw [hhp] at f1 f2
  have hWs : s.WarmedH U.vm := State.WarmedH.trans hW0 hW
  have hcl : s.vm.findClass cls = some ce.cls := by
    have h9 := hO.cls
    rw [hvm] at h9
    exact h9
  have hall : s.sameButNew ({ U with vm := s.vm } : State) locs mc ms := by
    subst hA
    obtain ⟨e1, e2⟩ := hsame
    rw [State.setFrames_setFrames] at e1
    have h2 : (T.setVm s.vm).sameButNew ({ U with vm := s.vm } : State) [] (0 + 1) (0 + 6) := ⟨e1, e2⟩
    have h3 := X.same.trans h2
    rw [List.append_nil] at h3
    exact h3.mono hc hs
  refine ⟨U, ?_, .threw T.heap.size, hrun, hend, Or.inr ⟨T.heap.size, rfl, cls, ce, locs, hx U hWs.alike f1 (fun q hq => f2 q hq (fun z hz => nomatch hz)), hce, hO.vm, hcl, hWs, hall, hf⟩⟩
  refine st1 _ ?_
  show Steps p.tables e below (T1.setTop { method := m, pc := pc + 3, locals := ls, stack := .ref T.heap.size :: rest, locked := none }) _
  jvm_step X₁.here [X₁.here.top, hexec, d3', Value.category]
  exact X₁.ldcString hexec (own := own) (text := text) (index := is) (a := sa) hown' hstr'.1 hstr'.2
    (g := { method := m, pc := pc + 4, locals := ls, stack := .ref T.heap.size :: .ref T.heap.size :: rest, locked := none }) rfl d4' _ hsteps
/-- 'throw new E("text")', the text by a wide index -/
theorem vx_throwSW {cc : ByteArray} {pc : Nat} (hexec : p.tables.exec = Jvm.exec) (hb : c.code = cc) (hl : l.stackTraces = false) {own cls text : String} {names : List String} {ik is ic mc ms sa : Nat} {A : Nat → Prop}
    (hown : s.vm.findClass own = some m.cls) (hcls : Bundle.fit cls = true) (hnames : ∀ n ∈ names, Bundle.fit n = true)
    (hk : (Cond.classLink own ik cls).before args s = true) (hini : (Cond.initialized cls).before args s = true) (hstr : vk_R own is text sa s) (hat : ∀ w ∈ vx_atS own ic cls names, w.before args s = true)
    (hgood : ∀ w ∈ Cond.classLink own ik cls :: Cond.initialized cls :: vx_atS own ic cls names, vx_ot w = true)
    (hU : vx_Zq Bundle.tN "UNASSIGNED_STACK" Bundle.steD A s s.heap) (hN : vx_Zq Bundle.tN "SUPPRESSED_SENTINEL" Bundle.listD A s s.heap) (hS : va_S A s.heap H locs) (hsize : ls.size = c.maxLocals)
    (d0 : decode cc pc = .ok (.new ik, 3)) (d3 : decode cc (pc + 3) = .ok (.dup, 1)) (d4 : decode cc (pc + 4) = .ok (.ldc_w is, 3)) (d7 : decode cc (pc + 7) = .ok (.invokespecial ic, 3)) (d10 : decode cc (pc + 10) = .ok (.athrow, 1))
    (hout : ∀ x ∈ c.exceptionTable.toList, covers x (pc + 10) = false)
    (hRframes : names.length + 3 < R.frames) (hRlocals : (rest.map fun v => v.category).sum + (13 * (names.length + 1) + 43) ≤ R.locals) (hRcells : cells + 1 ≤ R.cells) (hRslots : slots + 6 ≤ R.slots) (hlocks : meth.locks = false)
    (hx : ∀ t : State, s.vm.Alike t.vm → H.size ≤ t.heap.size → (∀ q : Nat, q < H.size → t.heap[q]? = H[q]?) → XC cls s t)
    (hf : ∀ z ∈ locs, free z.base) (hc : cells + 1 ≤ mc) (hs : slots + 6 ≤ ms) :
    W p l e R s m args below meth c H locs cells slots (vx_MQ below Qc XC args s mc ms free) (F0 m pc ls rest) := by
  intro T hT X
  have htr : e.platform.stackTraces = false := (show e.platform.stackTraces = l.stackTraces by rw [X.admits.platform]).trans hl
  have Y := vx_rebase X (R' := { frames := R.frames, locals := R.locals, cells := 1, slots := 6 }) (Nat.le_refl _) (Nat.le_refl _) hRcells hRslots
  obtain ⟨s', hA⟩ : ∃ z, z = (T.setVm s.vm).setFrames (.invoking m args :: below) := ⟨_, rfl⟩
  rw [← hA] at Y
  have hvm : s'.vm = s.vm := by rw [hA]; rfl
  have hhp : s'.heap = H := by rw [hA]; exact hT
  have hW0 : s.WarmedH s'.vm := by rw [hvm]; exact State.WarmedH.refl s
  have hat' : ∀ w ∈ vx_atS own ic cls names, w.before args s' = true := fun w hw => vx_ot_at hW0 hvm.symm (hgood w (List.mem_cons_of_mem _ (List.mem_cons_of_mem _ hw))) (hat w hw)
  have hk' : (Cond.classLink own ik cls).before args s' = true := vx_ot_at hW0 hvm.symm (hgood _ List.mem_cons_self) hk
  have hini' : (Cond.initialized cls).before args s' = true := vx_ot_at hW0 hvm.symm (hgood _ (List.mem_cons_of_mem _ List.mem_cons_self)) hini
  have hU' : vx_Zq Bundle.tN "UNASSIGNED_STACK" Bundle.steD A s' s'.heap := by rw [hhp]; exact vx_Zq.moved hW0.alike (hU.kept hS.2.1)
  have hN' : vx_Zq Bundle.tN "SUPPRESSED_SENTINEL" Bundle.listD A s' s'.heap := by rw [hhp]; exact vx_Zq.moved hW0.alike (hN.kept hS.2.1)
  have h : ∀ w ∈ Bundle.ownAtoms own ic cls names, w.before args s' = true := vx_own hat' (vx_isRefq hU'.1) (vx_isRefq hN'.1) hU'.2.word hN'.2.word
  have hown' : s'.vm.findClass own = some m.cls := by rw [hvm]; exact hown
  have hins : (Cond.instantiable cls 6).before args s' = true := h _ (by simp [Bundle.ownAtoms])
  obtain ⟨vm₁, cX, kX, hfX, hkX, -, -, X₁, st1⟩ := Y.newCold hexec (own := own) (C := cls) (index := ik) (n := 6) hown' hk' hins hini'
    (g := F0 m pc ls rest) rfl (by rw [hb]; exact d0) (Nat.le_refl _) (Nat.le_refl _)
  generalize hT1 : (T.setVm vm₁).pushCell { cls := cX, slots := kX.instanceTypes.map defaultValue, vm := .none } = T1 at X₁ st1
  have hcat : (Value.ref T.heap.size).category = 1 := rfl
  have hcellA : T1.heap[T.heap.size]? = some (freshCell cX kX) := by rw [← hT1]; exact State.heap_pushCell_size _ _
  have d3' : decode c.code (pc + 3) = .ok (.dup, 1) := by rw [hb]; exact d3
  have d4' : decode c.code (pc + 4) = .ok (.ldc_w is, 3) := by rw [hb]; exact d4
  have hstr' : vk_R own is text sa s' := vk_R.warm hW0 hstr
  obtain ⟨U, hsteps, hrun, hend, hW, hsame, ce, hce, hO⟩ := X₁.ctorThrowS hexec htr (own := own) (cls := cls) (names := names) (ic := ic) hown' hcls hnames h (fun x hx => nomatch hx) hfX hkX hcellA (by rw [hhp, hT]; exact Nat.le_refl _) (msg := .ref sa) rfl
    (g := { method := m, pc := pc + 7, locals := ls, stack := .ref sa :: .ref T.heap.size :: .ref T.heap.size :: rest, locked := none }) rfl hsize rfl rfl (rest := rest) rfl
    (by rw [hb]; exact d7) (by rw [hb]; exact d10) hout hRframes (by simp only [List.map_cons, List.sum_cons, hcat]; omega) hlocks
  obtain ⟨f1, f2⟩ := vx_frame hsame
  rw [hhp] at f1 f2
  have hWs : s.WarmedH U.vm := State.WarmedH.trans hW0 hW
  have hcl : s.vm.findClass cls = some ce.cls := by
    have h9 := hO.cls
    rw [hvm] at h9
    exact h9
  have hall : s.sameButNew ({ U with vm := s.vm } : State) locs mc ms := by
    subst hA
    obtain ⟨e1, e2⟩ := hsame
    rw [State.setFrames_setFrames] at e1
    have h2 : (T.setVm s.vm).sameButNew ({ U with vm := s.vm } : State) [] (0 + 1) (0 + 6) := ⟨e1, e2⟩
    have h3 := X.same.trans h2
    rw [List.append_nil] at h3
    exact h3.mono hc hs
  refine ⟨U, ?_, .threw T.heap.size, hrun, hend, Or.inr ⟨T.heap.size, rfl, cls, ce, locs, hx U hWs.alike f1 (fun q hq => f2 q hq (fun z hz => nomatch hz)), hce, hO.vm, hcl, hWs, hall, hf⟩⟩
  refine st1 _ ?_
  show Steps p.tables e below (T1.setTop { method := m, pc := pc + 3, locals := ls, stack := .ref T.heap.size :: rest, locked := none }) _
  jvm_step X₁.here [X₁.here.top, hexec, d3', Value.category]
  exact X₁.ldcStringW hexec (own := own) (text := text) (index := is) (a := sa) hown' hstr'.1 hstr'.2
    (g := { method := m, pc := pc + 4, locals := ls, stack := .ref T.heap.size :: .ref T.heap.size :: rest, locked := none }) rfl d4' _ hsteps
end Ends
section Bodies
variable {l : Launch}
theorem vx_ofW {y : MethodName} {ws ws' : List Cond} {rm : Room} {Pc : Array Value → State → Prop} {Qc : Array Value → State → Outcome → State → Prop} {XC : String → State → State → Prop} {mc ms : Nat} {free : Addr → Prop} {cc : ByteArray} {maxL : Nat} {ret : Option FieldType}
    (hy : plainName y.cls = true) (hw : ws = Cond.code y cc maxL ret :: ws')
    (body : ∀ p e s m args below meth c s₁, BodyLoose p l y (headSpec ws rm) cc maxL ret e s m args below meth c s₁ → c.maxLocals = maxL → (∀ x ∈ c.exceptionTable.toList, False) → Pc args s →
      W p l e (headSpec ws rm).room s m args below meth c s.heap [] 0 0 (vx_MQ below Qc XC args s mc ms free) (entryFrame m args maxL)) : vx_Met l y ws rm Pc Qc XC mc ms free := by
  refine MetFree.of_bodyS (code := cc) (maxLocals := maxL) (ret := ret) hy ?_ ?_
  · intro args s m h hn
    obtain ⟨meth, c, h1, h2, h3, h4, h5, h6, -, -⟩ := Cond.code_spec hn (atoms_spec (ws := ws) h _ (by rw [hw]; exact List.mem_cons_self))
    exact ⟨meth, c, h1, h2, h3, h4, h5, h6⟩
  · intro p e s m args below meth c s₁ B hml hP _
    have hh0 : s₁.heap = s.heap := by rw [B.state]; rfl
    have ht : ∀ x ∈ c.exceptionTable.toList, False := by
      obtain ⟨meth9, c9, h1, h2, -, -, -, -, h7, -⟩ := Cond.code_spec B.named (atoms_spec (ws := ws) B.pre _ (by rw [hw]; exact List.mem_cons_self))
      cases Option.some.inj (h1.symm.trans B.method)
      cases Option.some.inj (h2.symm.trans (Stand.of_body B).code)
      intro x hx
      rw [Array.isEmpty_iff.mp h7] at hx
      cases hx
    obtain ⟨t, a1, o, b1, b2, b3⟩ := body p e s m args below meth c s₁ B hml ht hP s₁ hh0 (Stand.of_body B)
    exact ⟨t, o, a1, b1, b2, b3⟩
/-- the table of a body with handlers -/
theorem vx_table {p : Program} {x y : MethodName} {S : Spec} {cc bytes : ByteArray} {maxL maxL' : Nat} {ret ret' : Option FieldType} {e : Env} {s s₁ : State} {m : MethodId} {args : Array Value} {below : List Frame} {meth : Method} {c : Code} {hh : List (Nat × Nat × Nat × Nat)}
    (B : BodyLoose p l y S cc maxL ret e s m args below meth c s₁) (h : (Cond.codeWith y bytes maxL' ret' hh).before args s = true) : c.exceptionTable.toList = tableOf hh := by
  obtain ⟨m9, meth9, c9, hn9, h1, h2, -, -, h6, -⟩ := Cond.codeWith_spec h
  cases Option.some.inj (hn9.symm.trans B.named)
  cases Option.some.inj (h1.symm.trans B.method)
  cases Option.some.inj (h2.symm.trans (Stand.of_body B).code)
  rw [← h6, table_eq]
end Bodies
end VXA
/-! ===== END ===== -/
/-! ===== BEGIN a static call of a method with an exception table ===== -/
section VXS
variable {p : Program} {l : Launch} {e : Env} {R : Room} {s : State} {m : MethodId} {args : Array Value} {below : List Frame} {meth : Method} {c : Code} {T : State} {H : Heap} {locs : List Loc} {cells slots : Nat}
abbrev vx_CSW (R : Room) (s : State) (args : Array Value) (own : String) (index : Nat) (y : MethodName) (bytes : ByteArray) (maxL : Nat) (ret : Option FieldType) (hh : List (Nat × Nat × Nat × Nat)) (ws : List Cond) (rm : Room) (mc ms n : Nat) : Prop :=
  (rm.cells = mc ∧ rm.slots = ms ∧ rm.frames + 1 ≤ R.frames ∧ 8 + (maxL + 11) + rm.locals ≤ R.locals ∧ (∀ w ∈ ws, ∀ (a' : Array Value) (U : State), s.WarmedH U.vm → w.before a' U = true) ∧ Cond.codeWith y bytes maxL ret hh ∈ ws) ∧
  (Cond.codeWith y bytes maxL ret hh).before args s = true ∧ (Cond.initialized y.cls).before args s = true ∧ (y.cls ≠ "java/lang/invoke/MethodHandle" ∧ y.cls ≠ "java/lang/invoke/VarHandle") ∧
  (∀ sig, parseMethodDescriptor y.desc = some sig → n = sig.parameters.length) ∧ (Cond.methodLink own index y).before args s = true ∧ (Cond.static y).before args s = true
theorem vx_cwSW {own : String} {index maxL mc ms : Nat} {y : MethodName} {bytes : ByteArray} {ret : Option FieldType} {hh : List (Nat × Nat × Nat × Nat)} {Ts ws ws' : List Cond} {rm : Room} (n : Nat) (ht : ∀ w ∈ Ts, w.before args s = true) (hT : GoodIn Ts (va_wsS own index y ws)) (hw : ws = Cond.codeWith y bytes maxL ret hh :: ws') (hrc : rm.cells = mc) (hrs : rm.slots = ms)
    (hd : y.cls ≠ "java/lang/invoke/MethodHandle" ∧ y.cls ≠ "java/lang/invoke/VarHandle" ∧ (parseMethodDescriptor y.desc).map (fun d => d.parameters.length) = some n) (hR : rm.frames + 1 ≤ R.frames ∧ 8 + (maxL + 11) + rm.locals ≤ R.locals) :
    vx_CSW R s args own index y bytes maxL ret hh ws rm mc ms n := by
  have ok : ∀ w ∈ va_wsS own index y ws, w.before args s = true := fun w h => ht w (hT w h).1
  have hG : GoodIn Ts ws := fun w h => hT w (by unfold va_wsS; exact List.mem_append_right _ h)
  have hc : Cond.codeWith y bytes maxL ret hh ∈ ws := by rw [hw]; exact List.mem_cons_self
  refine ⟨⟨hrc, hrs, hR.1, hR.2, pay_in ht hG, hc⟩, ht _ (hG _ hc).1, ok _ (by simp [va_wsS]), ⟨hd.1, hd.2.1⟩, fun sig h => ?_, ok _ (by simp [va_wsS]), ok _ (by simp [va_wsS])⟩
  have h2 := hd.2.2
  rw [h] at h2
  exact (Option.some.inj h2).symm
theorem vx_callSW (X : Stand p l e R s m args below meth c T locs cells slots) (hexec : p.tables.exec = Jvm.exec) {own : String} {index : Nat} {y : MethodName} {bytes : ByteArray} {maxL : Nat} {ret : Option FieldType} {hh : List (Nat × Nat × Nat × Nat)}
    (hown : s.vm.findClass own = some m.cls) (hlink : (Cond.methodLink own index y).before args s = true) (hstat : (Cond.static y).before args s = true) (hinit : (Cond.initialized y.cls).before args s = true)
    (hcode : (Cond.codeWith y bytes maxL ret hh).before args s = true) (hy : y.cls ≠ "java/lang/invoke/MethodHandle" ∧ y.cls ≠ "java/lang/invoke/VarHandle")
    {W9 : Nat} {Pre : Pt → Array Value → Prop} {Post : Pt → Array Value → Option Value → Pt → Prop} (hK : Back l R p e below s args y 3 W9 Pre Post)
    {g : JFrame} (hg : g.method = m) (hsize : g.locals.size = c.maxLocals) {argsL rest : List Value} (hlen : ∀ sig, parseMethodDescriptor y.desc = some sig → argsL.length = sig.parameters.length)
    (hstack : g.stack = argsL.reverse ++ rest) (hW : 2 * g.monitorRoom + (rest.map fun v => v.category).sum ≤ W9) (hdg : decode c.code g.pc = .ok (.invokestatic index, 3))
    (hpre : ∀ vm₁, s.WarmedH vm₁ → Pre ⟨T.setVm vm₁, locs, cells, slots⟩ argsL.toArray) :
    ∃ (v : Option Value) (vm₁ : Vm) (B : Pt), s.WarmedH vm₁ ∧ Stand p l e R s m args below meth c B.U B.locs B.cells B.slots ∧ Post ⟨T.setVm vm₁, locs, cells, slots⟩ argsL.toArray v B ∧
      ∀ target, Steps p.tables e below (B.U.setTop { g with pc := g.pc + 3, stack := v.toList ++ rest }) target → Steps p.tables e below (T.setTop g) target := by
  obtain ⟨mk, methM, cM, hnamed, hmethM, -, -, -, -, -, -, hsigM⟩ := Cond.codeWith_spec hcode
  have hstatic : methM.isStatic = true := Cond.static_spec hnamed hmethM hstat
  obtain ⟨kP, hkP, -⟩ := className_of_methodNamed hnamed
  have hinitP : kP.init = .initialized := Cond.initialized_spec (findClass_of_methodNamed hnamed) hkP hinit
  obtain ⟨vm₁, X₁, hstep₁⟩ := X.invokestatic hexec hown hlink hnamed hmethM hstatic hkP hinitP hy (g := g) hg (argsL := argsL) (rest := rest) (hlen _ hsigM) hstack hdg
  obtain ⟨v, B, X', hpost, hsteps⟩ := hK m meth c ⟨T.setVm vm₁, locs, cells, slots⟩ { g with stack := rest } (.invokestatic index) mk argsL.toArray X₁ hg hsize hdg hW (X₁.named hnamed) (hpre vm₁ X₁.warmed)
  exact ⟨v, vm₁, B, X₁.warmed, X', hpost, fun target h => hstep₁ _ fun acts => by rw [doInvoke_state]; exact hsteps.trans h⟩
theorem vx_runSW {y : MethodName} {bytes cc : ByteArray} {maxL nL mc ms n index : Nat} {ret : Option FieldType} {hh : List (Nat × Nat × Nat × Nat)} {ws : List Cond} {rm : Room} {Pc : Array Value → State → Prop} {Qc : Array Value → State → Outcome → State → Prop} {free : Addr → Prop} {Ts : List Cond} {own : String} {As rest : List Value} {g : JFrame}
    (S : CallFix p m c cc nL s args Ts own) (hM : Met l y ws rm Pc Qc mc ms free) (cw : vx_CSW R s args own index y bytes maxL ret hh ws rm mc ms n) (hp : PreS s H Pc As)
    (hg : g.method = m) (hn : As.length = n) (hsize : g.locals.size = nL) (hstack : g.stack = As.reverse ++ rest) (hW : 2 * g.monitorRoom + (rest.map fun v => v.category).sum ≤ 8) (hdg : decode cc g.pc = .ok (.invokestatic index, 3)) (hf : cells + mc ≤ R.cells ∧ slots + ms ≤ R.slots) :
    va_Run p l e R s m args below meth c H locs cells slots mc ms g rest (Qc As.toArray) (free) := by
  obtain ⟨⟨hrc, hrs, hfr, hlo, hws, hcw⟩, hcode, hini, hy, hlen, hl, hstt⟩ := cw
  have hK : Back l R p e below s args y 3 8 (PreOf R mc ms Pc) (PostOf Qc mc ms free) := va_backW (hh := hh) (bytes := bytes) (maxL := maxL) (ret := ret) hM hp.1 hrc hrs hfr hlo hws hcw (fun a' U hW => word_at hW (Or.inl (by first | rfl | simp [Cond.onTables, Cond.keeps, Cond.steady])) hini)
  obtain ⟨hx, hb, hml, ho, -⟩ := S
  intro T hT X
  obtain ⟨v, vm₁, ⟨U', l2, c2, s2⟩, hW₁, X', ⟨g', mk, t, L, e1, e2, hq, h1, hL, h2, h3⟩, st⟩ := vx_callSW X hx (hh := hh) (bytes := bytes) (maxL := maxL) (ret := ret) ho hl hstt hini hcode hy hK hg (hsize.trans hml.symm) (argsL := As) (rest := rest) (fun sig h => hn.trans (hlen sig h)) hstack hW (by rw [hb]; exact hdg)
    (fun vm₁ hW₁ => ⟨hf.1, hf.2, hp.2 (T.setVm vm₁) hT hW₁⟩)
  dsimp only [Pt.U, Pt.locs, Pt.cells, Pt.slots] at X' e1 e2 h1 h2 h3 st
  subst h1; subst h2; subst h3
  exact ⟨v, (T.setVm vm₁).calling g' mk As.toArray, t, U', L, hT, X', hL, e1, e2, hq, st⟩
/-- not caught here, past rows that name other classes: it goes on to the caller -/
theorem vx_outP {p : Program} {l : Launch} {e : Env} {R : Room} {s : State} {m : MethodId} {args : Array Value} {below : List Frame} {meth : Method} {c : Code} {H : Heap} {locs : List Loc} {cells slots : Nat} {free : Addr → Prop} {ls : Array Slot} {rest : List Value} {Qc : Array Value → State → Outcome → State → Prop} {XC : String → State → State → Prop}
    {pc : Nat} {own E : String} {ce : Cell} {q : Addr} {mc ms : Nat} (hown : s.vm.findClass own = some m.cls) (hlocks : meth.locks = false)
    (hpass : ∀ z ∈ c.exceptionTable.toList, covers z pc = false ∨ (z.catchType ≠ 0 ∧ ∃ nm : String, (Cond.classLink own z.catchType nm).before args s = true ∧ va_Nc E nm s)) (hcell : H[q]? = some ce) (hv : ce.vm = .none) (hcl : s.vm.findClass E = some ce.cls)
    (hx : ∀ t : State, t.heap = H → s.vm.Alike t.vm → XC E s t) (hf : ∀ z ∈ locs, free z.base) (hc : cells ≤ mc) (hs : slots ≤ ms) :
    vx_W p l e R s m args below meth c H locs cells slots (vx_MQ below Qc XC args s mc ms free) (F0 m pc ls rest) q := by
  intro T hT X
  have hpl : e.platform.magicAccessors = ({} : Platform).magicAccessors := by rw [X.admits.platform]
  obtain ⟨vm', hW', X', st⟩ := Stand.outThrough X hlocks q (g := F0 m pc ls rest) rfl rfl rfl (cell := ce) (by rw [hT]; exact hcell) (by rw [hv]; rfl)
    (by obtain ⟨k9, h9, -⟩ := Vm.findClass_spec hcl; exact ⟨k9, h9⟩) (fun z hz => by
      rcases hpass z hz with h | ⟨hz0, nm, hl1, hn1⟩
      · exact Or.inl h
      · obtain ⟨c6, hc6, hcl6⟩ := Cond.classLink_spec hown hl1 e.platform hpl
        obtain ⟨a8, b8, h1, h2, h3⟩ := hn1
        cases Option.some.inj (h1.symm.trans hcl)
        cases Option.some.inj (h2.symm.trans hc6)
        exact Or.inr ⟨hz0, _, hcl6, h3⟩)
  obtain ⟨g₀, hfr⟩ := X'.frames_eq
  have hcell9 : ((T.setVm vm').setFrames (.throwing q :: below)).heap[q]? = some ce := by
    show T.heap[q]? = some ce
    rw [hT]; exact hcell
  have hend : Ended ((T.setVm vm').setFrames (.throwing q :: below)) below (.threw q) := State.frames_setFrames _ (State.cur_lt_of_frames hfr)
  refine ⟨(T.setVm vm').setFrames (.throwing q :: below), ?_, .threw q, X'.here.running, hend, Or.inr ⟨q, rfl, E, ce, locs, hx _ hT (X'.ends _).1.alike, hcell9, hv, hcl, (X'.ends _).1, (X'.ends _).2.mono hc hs, hf⟩⟩
  rw [X.pushThrowing_eq]
  exact st
/-- a thing of a world lies in the heap -/
theorem vx_lt {D : va_G} {cl : List vw_C} {ws : va_W} {H1 : Heap} (h : va_P D cl ws H1) {k : Nat} {q : Nat × va_E} (hk : ws[k]? = some q) : q.1 < H1.size := (h k q hk).lt
end VXS
/-! ===== END ===== -/
/-! ===== BEGIN methods with a table of their own: called by a name, returning or throwing ===== -/
section VXH
/-! vx_backW, vx_callVX, vx_callSX, vx_callVW, vx_runVW, vx_runVX, vx_runSX, vx_ofWH follow the same proofs as their sisters above (Free/Laws.lean, Shelf42/LK1.lean); vx_outP calls Shelf42/NT130.lean (outThrough). -/
section
variable {l : Launch} {R : Room} {p : Program} {e : Env} {below : List Frame} {s : State} {sargs : Array Value} {y : MethodName} {len W9 : Nat}
theorem vx_backW {ws : List Cond} {rm : Room} {Pc : Array Value → State → Prop} {Qc : Array Value → State → Outcome → State → Prop} {XC : String → State → State → Prop} {mc ms : Nat} {free : Addr → Prop} {bytes : ByteArray} {maxL : Nat} {ret : Option FieldType} {hh : List (Nat × Nat × Nat × Nat)}
    (hM : vx_Met l y ws rm Pc Qc XC mc ms free) (hblind : FrameBlind Pc) (hrc : rm.cells = mc) (hrs : rm.slots = ms)
    (hframes : rm.frames + 1 ≤ R.frames) (hlocals : W9 + (maxL + 11) + rm.locals ≤ R.locals)
    (hws : ∀ w ∈ ws, ∀ a' U, s.WarmedH U.vm → w.before a' U = true) (hcode : Cond.codeWith y bytes maxL ret hh ∈ ws) (hinit : ∀ a' U, s.WarmedH U.vm → (Cond.initialized y.cls).before a' U = true) :
    vx_Back l R p e below s sargs y len W9 (PreOf R mc ms Pc) (PostOf Qc mc ms free) (vx_Post XC mc ms free) := by
  intro m meth c A g ig mk a X hg hsize hdg hW hn hp
  have h1 : (headSpec ws rm).pre.before a A.U = true := atoms_intro fun w hw => hws w hw _ _ X.warmed
  have h2 : (Cond.codeWith y bytes maxL ret hh).before a A.U = true := hws _ hcode _ _ X.warmed
  have h3 : (Cond.initialized y.cls).before a A.U = true := hinit _ _ X.warmed
  have h4 : A.cells + (headSpec ws rm).room.cells ≤ R.cells := by rw [show (headSpec ws rm).room.cells = mc from hrc]; exact hp.1
  have h5 : A.slots + (headSpec ws rm).room.slots ≤ R.slots := by rw [show (headSpec ws rm).room.slots = ms from hrs]; exact hp.2.1
  have hPc : Pc a (A.U.calling g mk a) := hblind _ _ _ _ hp.2.2
  obtain ⟨U, Ls, c0, s0⟩ := A
  dsimp only [Pt.U, Pt.locs, Pt.cells, Pt.slots] at h1 h2 h3 h4 h5 X hn hPc ⊢
  obtain ⟨m9, methY, cY, hn9, hmY, hcY, -, hlY, -⟩ := Cond.codeWith_spec h2
  cases Option.some.inj (hn9.symm.trans hn)
  obtain ⟨kY, hkY, -⟩ := className_of_methodNamed hn
  have hinitY : kY.init = .initialized := Cond.initialized_spec (findClass_of_methodNamed hn) hkY h3
  have h : At U g.method c below := by rw [hg]; exact X.here
  have hlocals9 : W9 + (maxL + 11) + (headSpec ws rm).room.locals ≤ R.locals := hlocals
  have happ : (headSpec ws rm).appliesLoose y e.platform (U.calling g mk a) = true :=
    Spec.appliesLoose_calling (g := g) h hdg hn hkY hinitY
      (X.room_calling (g := g) (R' := (headSpec ws rm).room) hsize hmY hcY hframes (by rw [hlY]; omega) h4 h5) h1
  obtain ⟨mid, hmid⟩ := h.above
  have hfr : (U.setTop g).frames = (.java g :: mid) ++ below := by rw [State.frames_setTop' g h.top, hmid]; rfl
  obtain ⟨o, s₂, hsteps, -, hend, hq⟩ := Steps.callFree hM p X.admits X.cas X.clock (acts := []) hfr happ hPc trivial
  have hq' : vx_Q Qc XC mc ms free a (U.calling g mk a) o s₂ := hq
  rw [State.frames_setTop' g h.top] at hend
  obtain ⟨g₀, hg0⟩ := Option.isSome_iff_exists.mp h.top
  obtain ⟨r, hr⟩ := State.topJava?_eq_some.mp hg0
  have hr' : (({ U with heap := s₂.heap, slotsUsed := s₂.slotsUsed } : State).setVm s₂.vm).frames = .java g₀ :: r := hr
  rcases hq' with ⟨hqc, L, hfe, hL⟩ | ⟨q, rfl, E, ce, L, hx, hce, hcv, hcl, hW₂, hsm, hL⟩
  · obtain ⟨⟨v, rfl⟩, hW₂, e2, q2, q3, q4, q5, q6⟩ := id hfe
    have e3 : s₂ = ({ (U.calling g mk a).setFrames s₂.frames with heap := s₂.heap, slotsUsed := s₂.slotsUsed } : State).setVm s₂.vm := by
      have : s₂ = ({ s₂ with vm := (U.calling g mk a).vm } : State).setVm s₂.vm := rfl
      rw [e2] at this
      exact this
    obtain ⟨c₂, i₂, len₂, hc₂, hd₂, hf₂⟩ := hend
    have hW' : U.WarmedH s₂.vm := hW₂
    have hcc : c₂ = c := by
      have h1 : s₂.code? g.method = U.code? g.method := by
        rw [State.code?_eq, State.code?_eq, hW'.alike.method?]
      exact Option.some.inj (hc₂.symm.trans (h1.trans h.code))
    subst hcc
    have hlen : len₂ = len := by rw [hdg] at hd₂; cases hd₂; rfl
    subst hlen
    have hs₂ : s₂ = (({ U with heap := s₂.heap, slotsUsed := s₂.slotsUsed } : State).setVm s₂.vm).setTop { g with pc := g.pc + len₂, stack := v.toList ++ g.stack } := by
      refine e3.trans ?_
      rw [hf₂, State.calling_eq h.top, State.setFrames_setFrames, State.setTop_of_frames _ hr', hr]
      rfl
    have hsame : U.sameButNew ({ U with heap := s₂.heap, slotsUsed := s₂.slotsUsed } : State) L mc ms := by
      refine ⟨?_, q2, q3, q4, q5, q6⟩
      obtain ⟨t, ht, -⟩ := State.frames_cons hr
      show ({ U with heap := s₂.heap, slotsUsed := s₂.slotsUsed } : State) = { U.setFrames U.frames with heap := s₂.heap, slotsUsed := s₂.slotsUsed }
      rw [State.setFrames_self ht]
    subst hg
    refine Or.inl ⟨v, ⟨(({ U with heap := s₂.heap, slotsUsed := s₂.slotsUsed } : State).setVm s₂.vm), Ls ++ L, c0 + mc, s0 + ms⟩,
      ⟨X.admits, X.cas, X.clock, X.frames, X.room, X.hears, X.method, X.code, (X.here.setHeapUsed s₂.heap s₂.slotsUsed).setVm hW'.alike, X.tail, State.WarmedH.trans X.warmed hW', X.limits, X.bytes, X.same.trans (hsame.setVm s.vm)⟩,
      ⟨g, mk, s₂, L, rfl, rfl, hqc, rfl, hL, rfl, rfl⟩, ?_⟩
    show Steps p.tables e below _ ((({ U with heap := s₂.heap, slotsUsed := s₂.slotsUsed } : State).setVm s₂.vm).setTop { g with pc := g.pc + len₂, stack := v.toList ++ g.stack })
    rw [← hs₂]
    exact hsteps
  · obtain ⟨e2, q2, q3, q4, q5, q6⟩ := id hsm
    have e3 : s₂ = ({ (U.calling g mk a).setFrames s₂.frames with heap := s₂.heap, slotsUsed := s₂.slotsUsed } : State).setVm s₂.vm := by
      have : s₂ = ({ s₂ with vm := (U.calling g mk a).vm } : State).setVm s₂.vm := rfl
      rw [e2] at this
      exact this
    have hf₂ : s₂.frames = .throwing q :: .java g :: U.frames.tail := hend
    have hW' : U.WarmedH s₂.vm := hW₂
    have hs₂ : s₂ = ((({ U with heap := s₂.heap, slotsUsed := s₂.slotsUsed } : State).setVm s₂.vm).setTop g).pushFrame (.throwing q) := by
      refine e3.trans ?_
      rw [hf₂, State.calling_eq h.top, State.setFrames_setFrames, State.pushFrame, State.frames_setTop _ hr', State.setTop_of_frames _ hr', State.setFrames_setFrames, hr]
      rfl
    have hsame : U.sameButNew ({ U with heap := s₂.heap, slotsUsed := s₂.slotsUsed } : State) L mc ms := by
      refine ⟨?_, q2, q3, q4, q5, q6⟩
      obtain ⟨t, ht, -⟩ := State.frames_cons hr
      show ({ U with heap := s₂.heap, slotsUsed := s₂.slotsUsed } : State) = { U.setFrames U.frames with heap := s₂.heap, slotsUsed := s₂.slotsUsed }
      rw [State.setFrames_self ht]
    subst hg
    refine Or.inr ⟨q, ⟨(({ U with heap := s₂.heap, slotsUsed := s₂.slotsUsed } : State).setVm s₂.vm), Ls ++ L, c0 + mc, s0 + ms⟩,
      ⟨X.admits, X.cas, X.clock, X.frames, X.room, X.hears, X.method, X.code, (X.here.setHeapUsed s₂.heap s₂.slotsUsed).setVm hW'.alike, X.tail, State.WarmedH.trans X.warmed hW', X.limits, X.bytes, X.same.trans (hsame.setVm s.vm)⟩,
      ⟨g, mk, s₂, L, E, ce, rfl, rfl, hx, hce, hcv, hcl, rfl, hL, rfl, rfl⟩, ?_⟩
    show Steps p.tables e below _ (((({ U with heap := s₂.heap, slotsUsed := s₂.slotsUsed } : State).setVm s₂.vm).setTop g).pushFrame (.throwing q))
    rw [← hs₂]
    exact hsteps
end
variable {p : Program} {l : Launch} {e : Env} {R : Room} {s : State} {m : MethodId} {args : Array Value} {below : List Frame} {meth : Method} {c : Code} {T : State} {H : Heap} {locs : List Loc} {cells slots : Nat}
theorem vx_callVX (X : Stand p l e R s m args below meth c T locs cells slots) (hexec : p.tables.exec = Jvm.exec) {own C : String} {index : Nat} {y : MethodName} {bytes : ByteArray} {maxL : Nat} {ret : Option FieldType} {hh : List (Nat × Nat × Nat × Nat)}
    (hown : s.vm.findClass own = some m.cls) (hlink : (Cond.methodLink own index y).before args s = true) (hinst : (Cond.instanceMethod y).before args s = true) (hsel : (Cond.selects C y y).before args s = true)
    (hcode : (Cond.codeWith y bytes maxL ret hh).before args s = true) (hy : y.cls ≠ "java/lang/invoke/MethodHandle" ∧ y.cls ≠ "java/lang/invoke/VarHandle")
    {W9 : Nat} {Pre : Pt → Array Value → Prop} {Post : Pt → Array Value → Option Value → Pt → Prop} {PostX : Pt → Array Value → Addr → Pt → Prop} (hK : vx_Back l R p e below s args y 3 W9 Pre Post PostX)
    {b : Addr} {cellB : Cell} (hcell : T.heap[b]? = some cellB) (hobj : cellB.vm.isStatics = false) (hcls : s.vm.findClass C = some cellB.cls)
    {g : JFrame} (hg : g.method = m) (hsize : g.locals.size = c.maxLocals) {argsL rest : List Value} (hlen : ∀ sig, parseMethodDescriptor y.desc = some sig → argsL.length = sig.parameters.length)
    (hstack : g.stack = argsL.reverse ++ .ref b :: rest) (hW : 2 * g.monitorRoom + (rest.map fun v => v.category).sum ≤ W9) (hdg : decode c.code g.pc = .ok (.invokevirtual index, 3))
    (hpre : ∀ vm₁, s.WarmedH vm₁ → Pre ⟨T.setVm vm₁, locs, cells, slots⟩ (Value.ref b :: argsL).toArray) :
    (∃ (v : Option Value) (vm₁ : Vm) (B : Pt), s.WarmedH vm₁ ∧ Stand p l e R s m args below meth c B.U B.locs B.cells B.slots ∧ Post ⟨T.setVm vm₁, locs, cells, slots⟩ (Value.ref b :: argsL).toArray v B ∧
      ∀ target, Steps p.tables e below (B.U.setTop { g with pc := g.pc + 3, stack := v.toList ++ rest }) target → Steps p.tables e below (T.setTop g) target) ∨
    (∃ (q : Addr) (vm₁ : Vm) (B : Pt), s.WarmedH vm₁ ∧ Stand p l e R s m args below meth c B.U B.locs B.cells B.slots ∧ PostX ⟨T.setVm vm₁, locs, cells, slots⟩ (Value.ref b :: argsL).toArray q B ∧
      Steps p.tables e below (T.setTop g) ((B.U.setTop { g with stack := rest }).pushFrame (.throwing q))) := by
  obtain ⟨mk, methM, hnamed, hmethM, hstM, habM⟩ := Cond.instanceMethod_spec hinst
  obtain ⟨m8, methM', cM, hn8, hmethM', -, -, -, -, -, -, hsigM⟩ := Cond.codeWith_spec hcode
  cases Option.some.inj (hn8.symm.trans hnamed)
  cases hmethM.symm.trans hmethM'
  obtain ⟨c2, r2, m2, q1, q2, q3, q4, kP, hkP, hkPi⟩ := Cond.selects_spec hsel
  cases hcls.symm.trans q1
  cases (State.methodFound?_of_named hnamed hy).symm.trans q2
  cases hnamed.symm.trans q3
  have hselP : selectMethod e.platform s.vm cellB.cls mk = .method mk := by rw [Launch.admits_selectMethod X.admits]; exact q4
  obtain ⟨vm₁, X₁, hstep₁⟩ := X.invokevirtual hexec hown hlink hnamed hmethM hstM hkP hkPi hy (a := b) (cell := cellB) hcell
    (fun z h => by rw [h] at hobj; cases hobj) hselP hmethM habM hkP hkPi (g := g) hg (argsL := argsL) (rest := rest) (hlen _ hsigM) hstack hdg
  rcases hK m meth c ⟨T.setVm vm₁, locs, cells, slots⟩ { g with stack := rest } (.invokevirtual index) mk (Value.ref b :: argsL).toArray X₁ hg hsize hdg hW (X₁.named hnamed) (hpre vm₁ X₁.warmed) with ⟨v, B, X', hpost, hsteps⟩ | ⟨q, B, X', hpost, hsteps⟩
  · exact Or.inl ⟨v, vm₁, B, X₁.warmed, X', hpost, fun target h => hstep₁ _ fun acts => by rw [doInvoke_state]; exact hsteps.trans h⟩
  · exact Or.inr ⟨q, vm₁, B, X₁.warmed, X', hpost, hstep₁ _ fun acts => by rw [doInvoke_state]; exact hsteps⟩
theorem vx_callSX (X : Stand p l e R s m args below meth c T locs cells slots) (hexec : p.tables.exec = Jvm.exec) {own : String} {index : Nat} {y : MethodName} {bytes : ByteArray} {maxL : Nat} {ret : Option FieldType} {hh : List (Nat × Nat × Nat × Nat)}
    (hown : s.vm.findClass own = some m.cls) (hlink : (Cond.methodLink own index y).before args s = true) (hstat : (Cond.static y).before args s = true) (hinit : (Cond.initialized y.cls).before args s = true)
    (hcode : (Cond.codeWith y bytes maxL ret hh).before args s = true) (hy : y.cls ≠ "java/lang/invoke/MethodHandle" ∧ y.cls ≠ "java/lang/invoke/VarHandle")
    {W9 : Nat} {Pre : Pt → Array Value → Prop} {Post : Pt → Array Value → Option Value → Pt → Prop} {PostX : Pt → Array Value → Addr → Pt → Prop} (hK : vx_Back l R p e below s args y 3 W9 Pre Post PostX)
    {g : JFrame} (hg : g.method = m) (hsize : g.locals.size = c.maxLocals) {argsL rest : List Value} (hlen : ∀ sig, parseMethodDescriptor y.desc = some sig → argsL.length = sig.parameters.length)
    (hstack : g.stack = argsL.reverse ++ rest) (hW : 2 * g.monitorRoom + (rest.map fun v => v.category).sum ≤ W9) (hdg : decode c.code g.pc = .ok (.invokestatic index, 3))
    (hpre : ∀ vm₁, s.WarmedH vm₁ → Pre ⟨T.setVm vm₁, locs, cells, slots⟩ argsL.toArray) :
    (∃ (v : Option Value) (vm₁ : Vm) (B : Pt), s.WarmedH vm₁ ∧ Stand p l e R s m args below meth c B.U B.locs B.cells B.slots ∧ Post ⟨T.setVm vm₁, locs, cells, slots⟩ argsL.toArray v B ∧
      ∀ target, Steps p.tables e below (B.U.setTop { g with pc := g.pc + 3, stack := v.toList ++ rest }) target → Steps p.tables e below (T.setTop g) target) ∨
    (∃ (q : Addr) (vm₁ : Vm) (B : Pt), s.WarmedH vm₁ ∧ Stand p l e R s m args below meth c B.U B.locs B.cells B.slots ∧ PostX ⟨T.setVm vm₁, locs, cells, slots⟩ argsL.toArray q B ∧
      Steps p.tables e below (T.setTop g) ((B.U.setTop { g with stack := rest }).pushFrame (.throwing q))) := by
  obtain ⟨mk, methM, cM, hnamed, hmethM, -, -, -, -, -, -, hsigM⟩ := Cond.codeWith_spec hcode
  have hstatic : methM.isStatic = true := Cond.static_spec hnamed hmethM hstat
  obtain ⟨kP, hkP, -⟩ := className_of_methodNamed hnamed
  have hinitP : kP.init = .initialized := Cond.initialized_spec (findClass_of_methodNamed hnamed) hkP hinit
  obtain ⟨vm₁, X₁, hstep₁⟩ := X.invokestatic hexec hown hlink hnamed hmethM hstatic hkP hinitP hy (g := g) hg (argsL := argsL) (rest := rest) (hlen _ hsigM) hstack hdg
  rcases hK m meth c ⟨T.setVm vm₁, locs, cells, slots⟩ { g with stack := rest } (.invokestatic index) mk argsL.toArray X₁ hg hsize hdg hW (X₁.named hnamed) (hpre vm₁ X₁.warmed) with ⟨v, B, X', hpost, hsteps⟩ | ⟨q, B, X', hpost, hsteps⟩
  · exact Or.inl ⟨v, vm₁, B, X₁.warmed, X', hpost, fun target h => hstep₁ _ fun acts => by rw [doInvoke_state]; exact hsteps.trans h⟩
  · exact Or.inr ⟨q, vm₁, B, X₁.warmed, X', hpost, hstep₁ _ fun acts => by rw [doInvoke_state]; exact hsteps⟩
theorem vx_callVW (X : Stand p l e R s m args below meth c T locs cells slots) (hexec : p.tables.exec = Jvm.exec) {own C : String} {index : Nat} {y : MethodName} {bytes : ByteArray} {maxL : Nat} {ret : Option FieldType} {hh : List (Nat × Nat × Nat × Nat)}
    (hown : s.vm.findClass own = some m.cls) (hlink : (Cond.methodLink own index y).before args s = true) (hinst : (Cond.instanceMethod y).before args s = true) (hsel : (Cond.selects C y y).before args s = true)
    (hcode : (Cond.codeWith y bytes maxL ret hh).before args s = true) (hy : y.cls ≠ "java/lang/invoke/MethodHandle" ∧ y.cls ≠ "java/lang/invoke/VarHandle")
    {W9 : Nat} {Pre : Pt → Array Value → Prop} {Post : Pt → Array Value → Option Value → Pt → Prop} (hK : Back l R p e below s args y 3 W9 Pre Post)
    {b : Addr} {cellB : Cell} (hcell : T.heap[b]? = some cellB) (hobj : cellB.vm.isStatics = false) (hcls : s.vm.findClass C = some cellB.cls)
    {g : JFrame} (hg : g.method = m) (hsize : g.locals.size = c.maxLocals) {argsL rest : List Value} (hlen : ∀ sig, parseMethodDescriptor y.desc = some sig → argsL.length = sig.parameters.length)
    (hstack : g.stack = argsL.reverse ++ .ref b :: rest) (hW : 2 * g.monitorRoom + (rest.map fun v => v.category).sum ≤ W9) (hdg : decode c.code g.pc = .ok (.invokevirtual index, 3))
    (hpre : ∀ vm₁, s.WarmedH vm₁ → Pre ⟨T.setVm vm₁, locs, cells, slots⟩ (Value.ref b :: argsL).toArray) :
    ∃ (v : Option Value) (vm₁ : Vm) (B : Pt), s.WarmedH vm₁ ∧ Stand p l e R s m args below meth c B.U B.locs B.cells B.slots ∧ Post ⟨T.setVm vm₁, locs, cells, slots⟩ (Value.ref b :: argsL).toArray v B ∧
      ∀ target, Steps p.tables e below (B.U.setTop { g with pc := g.pc + 3, stack := v.toList ++ rest }) target → Steps p.tables e below (T.setTop g) target := by
  obtain ⟨mk, methM, hnamed, hmethM, hstM, habM⟩ := Cond.instanceMethod_spec hinst
  obtain ⟨m8, methM', cM, hn8, hmethM', -, -, -, -, -, -, hsigM⟩ := Cond.codeWith_spec hcode
  cases Option.some.inj (hn8.symm.trans hnamed)
  cases hmethM.symm.trans hmethM'
  obtain ⟨c2, r2, m2, q1, q2, q3, q4, kP, hkP, hkPi⟩ := Cond.selects_spec hsel
  cases hcls.symm.trans q1
  cases (State.methodFound?_of_named hnamed hy).symm.trans q2
  cases hnamed.symm.trans q3
  have hselP : selectMethod e.platform s.vm cellB.cls mk = .method mk := by rw [Launch.admits_selectMethod X.admits]; exact q4
  obtain ⟨vm₁, X₁, hstep₁⟩ := X.invokevirtual hexec hown hlink hnamed hmethM hstM hkP hkPi hy (a := b) (cell := cellB) hcell
    (fun z h => by rw [h] at hobj; cases hobj) hselP hmethM habM hkP hkPi (g := g) hg (argsL := argsL) (rest := rest) (hlen _ hsigM) hstack hdg
  obtain ⟨v, B, X', hpost, hsteps⟩ := hK m meth c ⟨T.setVm vm₁, locs, cells, slots⟩ { g with stack := rest } (.invokevirtual index) mk (Value.ref b :: argsL).toArray X₁ hg hsize hdg hW (X₁.named hnamed) (hpre vm₁ X₁.warmed)
  exact ⟨v, vm₁, B, X₁.warmed, X', hpost, fun target h => hstep₁ _ fun acts => by rw [doInvoke_state]; exact hsteps.trans h⟩
abbrev vx_CVW (R : Room) (s : State) (args : Array Value) (own C : String) (index : Nat) (y : MethodName) (bytes : ByteArray) (maxL : Nat) (ret : Option FieldType) (hh : List (Nat × Nat × Nat × Nat)) (ws : List Cond) (rm : Room) (mc ms n : Nat) : Prop :=
  (rm.cells = mc ∧ rm.slots = ms ∧ rm.frames + 1 ≤ R.frames ∧ 8 + (maxL + 11) + rm.locals ≤ R.locals ∧ (∀ w ∈ ws, ∀ (a' : Array Value) (U : State), s.WarmedH U.vm → w.before a' U = true) ∧ Cond.codeWith y bytes maxL ret hh ∈ ws) ∧
  (Cond.codeWith y bytes maxL ret hh).before args s = true ∧ (Cond.initialized y.cls).before args s = true ∧ (y.cls ≠ "java/lang/invoke/MethodHandle" ∧ y.cls ≠ "java/lang/invoke/VarHandle") ∧
  (∀ sig, parseMethodDescriptor y.desc = some sig → n = sig.parameters.length) ∧ (Cond.methodLink own index y).before args s = true ∧ (Cond.instanceMethod y).before args s = true ∧ (Cond.selects C y y).before args s = true
theorem vx_cwVW {own C : String} {index maxL mc ms : Nat} {y : MethodName} {bytes : ByteArray} {ret : Option FieldType} {hh : List (Nat × Nat × Nat × Nat)} {Ts ws ws' : List Cond} {rm : Room} (n : Nat) (ht : ∀ w ∈ Ts, w.before args s = true) (hT : GoodIn Ts (wsV own index C y ws)) (hw : ws = Cond.codeWith y bytes maxL ret hh :: ws') (hrc : rm.cells = mc) (hrs : rm.slots = ms)
    (hd : y.cls = C ∧ y.cls ≠ "java/lang/invoke/MethodHandle" ∧ y.cls ≠ "java/lang/invoke/VarHandle" ∧ (parseMethodDescriptor y.desc).map (fun d => d.parameters.length) = some n) (hR : rm.frames + 1 ≤ R.frames ∧ 8 + (maxL + 11) + rm.locals ≤ R.locals) :
    vx_CVW R s args own C index y bytes maxL ret hh ws rm mc ms n := by
  obtain ⟨hC, hd⟩ := hd
  subst hC
  have ok : ∀ w ∈ wsV own index y.cls y ws, w.before args s = true := fun w h => ht w (hT w h).1
  have hG : GoodIn Ts ws := fun w h => hT w (by unfold wsV; exact List.mem_append_right _ h)
  have hc : Cond.codeWith y bytes maxL ret hh ∈ ws := by rw [hw]; exact List.mem_cons_self
  refine ⟨⟨hrc, hrs, hR.1, hR.2, pay_in ht hG, hc⟩, ht _ (hG _ hc).1, ok _ (by simp [wsV]), ⟨hd.1, hd.2.1⟩, fun sig h => ?_, ok _ (by simp [wsV]), ok _ (by simp [wsV]), ok _ (by simp [wsV])⟩
  have h2 := hd.2.2
  rw [h] at h2
  exact (Option.some.inj h2).symm
theorem vx_runVW {y : MethodName} {bytes cc : ByteArray} {maxL nL mc ms n index : Nat} {ret : Option FieldType} {hh : List (Nat × Nat × Nat × Nat)} {ws : List Cond} {rm : Room} {Pc : Array Value → State → Prop} {Qc : Array Value → State → Outcome → State → Prop} {free : Addr → Prop} {Ts : List Cond} {own C : String} {b : Addr} {As rest : List Value} {g : JFrame}
    (S : CallFix p m c cc nL s args Ts own) (hM : Met l y ws rm Pc Qc mc ms free) (cw : vx_CVW R s args own C index y bytes maxL ret hh ws rm mc ms n) (hp : PreV s H C b Pc As)
    (hg : g.method = m) (hn : As.length = n) (hsize : g.locals.size = nL) (hstack : g.stack = As.reverse ++ .ref b :: rest) (hW : 2 * g.monitorRoom + (rest.map fun v => v.category).sum ≤ 8) (hdg : decode cc g.pc = .ok (.invokevirtual index, 3)) (hf : cells + mc ≤ R.cells ∧ slots + ms ≤ R.slots) :
    va_Run p l e R s m args below meth c H locs cells slots mc ms g rest (Qc (Value.ref b :: As).toArray) free := by
  obtain ⟨⟨hrc, hrs, hfr, hlo, hws, hcw⟩, hcode, hini, hy, hlen, hl, hin, hse⟩ := cw
  have hK : Back l R p e below s args y 3 8 (PreOf R mc ms Pc) (PostOf Qc mc ms free) := va_backW (hh := hh) (bytes := bytes) (maxL := maxL) (ret := ret) hM hp.1 hrc hrs hfr hlo hws hcw (fun a' U hW => word_at hW (Or.inl (by first | rfl | simp [Cond.onTables, Cond.keeps, Cond.steady])) hini)
  obtain ⟨hx, hb, hml, ho, -⟩ := S
  obtain ⟨-, ⟨cellB, hcB, hoB, hclB⟩, hPc⟩ := hp
  intro T hT X
  obtain ⟨v, vm₁, ⟨U', l2, c2, s2⟩, hW₁, X', ⟨g', mk, t, L, e1, e2, hq, h1, hL, h2, h3⟩, st⟩ := vx_callVW X hx (C := C) (hh := hh) (bytes := bytes) (maxL := maxL) (ret := ret) ho hl hin hse hcode hy hK (by rw [hT]; exact hcB) hoB hclB hg (hsize.trans hml.symm) (argsL := As) (rest := rest) (fun sig h => hn.trans (hlen sig h)) hstack hW (by rw [hb]; exact hdg)
    (fun vm₁ hW₁ => ⟨hf.1, hf.2, hPc (T.setVm vm₁) hT hW₁⟩)
  dsimp only [Pt.U, Pt.locs, Pt.cells, Pt.slots] at X' e1 e2 h1 h2 h3 st
  subst h1; subst h2; subst h3
  exact ⟨v, (T.setVm vm₁).calling g' mk (Value.ref b :: As).toArray, t, U', L, hT, X', hL, e1, e2, hq, st⟩
section
variable {y : MethodName} {bytes cc : ByteArray} {maxL nL mc ms n index : Nat} {ret : Option FieldType} {ws : List Cond} {rm : Room} {Pc : Array Value → State → Prop} {Qc : Array Value → State → Outcome → State → Prop} {XC : String → State → State → Prop} {free : Addr → Prop} {Ts : List Cond} {own C : String} {b : Addr} {As rest : List Value} {g : JFrame}
theorem vx_runVX {hh : List (Nat × Nat × Nat × Nat)} (S : CallFix p m c cc nL s args Ts own) (hM : vx_Met l y ws rm Pc Qc XC mc ms free) (cw : vx_CVW R s args own C index y bytes maxL ret hh ws rm mc ms n) (hp : PreV s H C b Pc As)
    (hg : g.method = m) (hn : As.length = n) (hsize : g.locals.size = nL) (hstack : g.stack = As.reverse ++ .ref b :: rest) (hW : 2 * g.monitorRoom + (rest.map fun v => v.category).sum ≤ 8) (hdg : decode cc g.pc = .ok (.invokevirtual index, 3)) (hf : cells + mc ≤ R.cells ∧ slots + ms ≤ R.slots) :
    vx_Run p l e R s m args below meth c H locs cells slots mc ms g rest (Qc (Value.ref b :: As).toArray) XC free := by
  obtain ⟨⟨hrc, hrs, hfr, hlo, hws, hcw⟩, hcode, hini, hy, hlen, hl, hin, hse⟩ := cw
  have hK : vx_Back l R p e below s args y 3 8 (PreOf R mc ms Pc) (PostOf Qc mc ms free) (vx_Post XC mc ms free) := vx_backW (hh := hh) (bytes := bytes) (maxL := maxL) (ret := ret) hM hp.1 hrc hrs hfr hlo hws hcw (fun a' U hW => word_at hW (Or.inl (by first | rfl | simp [Cond.onTables, Cond.keeps, Cond.steady])) hini)
  obtain ⟨hx, hb, hml, ho, -⟩ := S
  obtain ⟨-, ⟨cellB, hcB, hoB, hclB⟩, hPc⟩ := hp
  intro T hT X
  rcases vx_callVX X hx (C := C) (hh := hh) (bytes := bytes) (maxL := maxL) (ret := ret) ho hl hin hse hcode hy hK (by rw [hT]; exact hcB) hoB hclB hg (hsize.trans hml.symm) (argsL := As) (rest := rest) (fun sig h => hn.trans (hlen sig h)) hstack hW (by rw [hb]; exact hdg)
    (fun vm₁ hW₁ => ⟨hf.1, hf.2, hPc (T.setVm vm₁) hT hW₁⟩) with ⟨v, vm₁, ⟨U', l2, c2, s2⟩, hW₁, X', ⟨g', mk, t, L, e1, e2, hq, h1, hL, h2, h3⟩, st⟩ | ⟨q, vm₁, ⟨U', l2, c2, s2⟩, hW₁, X', ⟨g', mk, t, L, E, ce, e1, e2, hq, hce, hcv, hcl, h1, hL, h2, h3⟩, st⟩
  · dsimp only [Pt.U, Pt.locs, Pt.cells, Pt.slots] at X' e1 e2 h1 h2 h3 st
    subst h1; subst h2; subst h3
    exact Or.inl ⟨v, (T.setVm vm₁).calling g' mk (Value.ref b :: As).toArray, t, U', L, hT, X', hL, e1, e2, hq, st⟩
  · dsimp only [Pt.U, Pt.locs, Pt.cells, Pt.slots] at X' e1 e2 h1 h2 h3 st hcl
    subst h1; subst h2; subst h3
    exact Or.inr ⟨q, (T.setVm vm₁).calling g' mk (Value.ref b :: As).toArray, t, U', L, E, ce, hT, X', hL, e1, e2, hq, hce, hcv, vx_cls hW₁ hcl, st⟩
theorem vx_runSX {hh : List (Nat × Nat × Nat × Nat)} (S : CallFix p m c cc nL s args Ts own) (hM : vx_Met l y ws rm Pc Qc XC mc ms free) (cw : vx_CSW R s args own index y bytes maxL ret hh ws rm mc ms n) (hp : PreS s H Pc As)
    (hg : g.method = m) (hn : As.length = n) (hsize : g.locals.size = nL) (hstack : g.stack = As.reverse ++ rest) (hW : 2 * g.monitorRoom + (rest.map fun v => v.category).sum ≤ 8) (hdg : decode cc g.pc = .ok (.invokestatic index, 3)) (hf : cells + mc ≤ R.cells ∧ slots + ms ≤ R.slots) :
    vx_Run p l e R s m args below meth c H locs cells slots mc ms g rest (Qc As.toArray) XC free := by
  obtain ⟨⟨hrc, hrs, hfr, hlo, hws, hcw⟩, hcode, hini, hy, hlen, hl, hstt⟩ := cw
  have hK : vx_Back l R p e below s args y 3 8 (PreOf R mc ms Pc) (PostOf Qc mc ms free) (vx_Post XC mc ms free) := vx_backW (hh := hh) (bytes := bytes) (maxL := maxL) (ret := ret) hM hp.1 hrc hrs hfr hlo hws hcw (fun a' U hW => word_at hW (Or.inl (by first | rfl | simp [Cond.onTables, Cond.keeps, Cond.steady])) hini)
  obtain ⟨hx, hb, hml, ho, -⟩ := S
  intro T hT X
  rcases vx_callSX X hx (hh := hh) (bytes := bytes) (maxL := maxL) (ret := ret) ho hl hstt hini hcode hy hK hg (hsize.trans hml.symm) (argsL := As) (rest := rest) (fun sig h => hn.trans (hlen sig h)) hstack hW (by rw [hb]; exact hdg)
    (fun vm₁ hW₁ => ⟨hf.1, hf.2, hp.2 (T.setVm vm₁) hT hW₁⟩) with ⟨v, vm₁, ⟨U', l2, c2, s2⟩, hW₁, X', ⟨g', mk, t, L, e1, e2, hq, h1, hL, h2, h3⟩, st⟩ | ⟨q, vm₁, ⟨U', l2, c2, s2⟩, hW₁, X', ⟨g', mk, t, L, E, ce, e1, e2, hq, hce, hcv, hcl, h1, hL, h2, h3⟩, st⟩
  · dsimp only [Pt.U, Pt.locs, Pt.cells, Pt.slots] at X' e1 e2 h1 h2 h3 st
    subst h1; subst h2; subst h3
    exact Or.inl ⟨v, (T.setVm vm₁).calling g' mk As.toArray, t, U', L, hT, X', hL, e1, e2, hq, st⟩
  · dsimp only [Pt.U, Pt.locs, Pt.cells, Pt.slots] at X' e1 e2 h1 h2 h3 st hcl
    subst h1; subst h2; subst h3
    exact Or.inr ⟨q, (T.setVm vm₁).calling g' mk As.toArray, t, U', L, E, ce, hT, X', hL, e1, e2, hq, hce, hcv, vx_cls hW₁ hcl, st⟩
end
end VXH
theorem vx_ofWH {l : Launch} {y : MethodName} {ws ws' : List Cond} {rm : Room} {Pc : Array Value → State → Prop} {Qc : Array Value → State → Outcome → State → Prop} {XC : String → State → State → Prop} {mc ms : Nat} {free : Addr → Prop} {cc : ByteArray} {maxL : Nat} {ret : Option FieldType} {hh : List (Nat × Nat × Nat × Nat)}
    (hy : plainName y.cls = true) (hw : ws = Cond.codeWith y cc maxL ret hh :: ws')
    (body : ∀ p e s m args below meth c s₁, BodyLoose p l y (headSpec ws rm) cc maxL ret e s m args below meth c s₁ → c.maxLocals = maxL → Pc args s →
      W p l e (headSpec ws rm).room s m args below meth c s.heap [] 0 0 (vx_MQ below Qc XC args s mc ms free) (entryFrame m args maxL)) : vx_Met l y ws rm Pc Qc XC mc ms free := by
  refine MetFree.of_bodyS (code := cc) (maxLocals := maxL) (ret := ret) hy ?_ ?_
  · intro args s m h hn
    obtain ⟨m9, meth, c, hn9, h1, h2, h3, h4, -, h5, h6, -⟩ := Cond.codeWith_spec (atoms_spec (ws := ws) h _ (by rw [hw]; exact List.mem_cons_self))
    cases hn.symm.trans hn9
    exact ⟨meth, c, h1, h2, h3, h4, h5, h6⟩
  · intro p e s m args below meth c s₁ B hml hP _
    have hh0 : s₁.heap = s.heap := by rw [B.state]; rfl
    obtain ⟨t, a1, o, b1, b2, b3⟩ := body p e s m args below meth c s₁ B hml hP s₁ hh0 (Stand.of_body B)
    exact ⟨t, o, a1, b1, b2, b3⟩
/-! ===== END ===== -/

/-! ===== BEGIN printed: names, fields, word lists, decode rows ===== -/
def RX0 : String := "ReuseHouse$Arms"
def TX0 : u_T := fun k => match k with
  | 0 => ("ReuseHouse$Arms", "kind", "[I", true)
  | 1 => ("ReuseHouse$Arms", "next", "[I", true)
  | 2 => ("ReuseHouse$Arms", "before", "[I", true)
  | 3 => ("ReuseHouse$Arms", "leave", "[I", true)
  | 4 => ("ReuseHouse$Arms", "firstSlot", "[I", true)
  | 5 => ("ReuseHouse$Arms", "builds", "[I", true)
  | _ => ("ReuseHouse$Arms", "size", "I", false)
def tyX0 : Nat → FieldType := fun k => match k with
  | 0 => .array .int
  | 1 => .array .int
  | 2 => .array .int
  | 3 => .array .int
  | 4 => .array .int
  | 5 => .array .int
  | _ => .int
abbrev wsX00 : List Cond := u_ws RX0 TX0 7
theorem nmX0 : ∀ a, a < 7 → ∀ b, b < 7 → a ≠ b → (TX0 a).2.1 ≠ (TX0 b).2.1 := by decide +kernel
theorem tyX0_ok : ∀ k, k < 7 → parseFieldDescriptor (TX0 k).2.2.1 = some (tyX0 k) := by decide +kernel
abbrev cX0_init : ByteArray := prog_2_method_1_code
def yX0_init : MethodName := ⟨RX0, "<init>", "()V"⟩
abbrev cX0_add : ByteArray := prog_2_method_2_code
def yX0_add : MethodName := ⟨RX0, "add", "(II)I"⟩
def RX1 : String := "ReuseHouse$Cells"
def TX1 : u_T := fun k => match k with
  | 0 => ("ReuseHouse$Cells", "kind", "[I", true)
  | 1 => ("ReuseHouse$Cells", "count", "[I", true)
  | 2 => ("ReuseHouse$Cells", "fields", "[J", true)
  | 3 => ("ReuseHouse$Cells", "kinds", "LReuseHouse$Kinds;", false)
  | 4 => ("ReuseHouse$Cells", "limit", "I", false)
  | 5 => ("ReuseHouse$Cells", "fresh", "I", false)
  | 6 => ("ReuseHouse$Cells", "firstFree", "I", false)
  | 7 => ("ReuseHouse$Cells", "held", "I", false)
  | 8 => ("ReuseHouse$Cells", "mostHeld", "I", false)
  | 9 => ("ReuseHouse$Cells", "made", "I", false)
  | 10 => ("ReuseHouse$Cells", "reused", "I", false)
  | 11 => ("ReuseHouse$Cells", "freed", "I", false)
  | _ => ("ReuseHouse$Cells", "doubled", "I", false)
def tyX1 : Nat → FieldType := fun k => match k with
  | 0 => .array .int
  | 1 => .array .int
  | 2 => .array .long
  | 3 => .object "ReuseHouse$Kinds"
  | 4 => .int
  | 5 => .int
  | 6 => .int
  | 7 => .int
  | 8 => .int
  | 9 => .int
  | 10 => .int
  | 11 => .int
  | _ => .int
abbrev wsX10 : List Cond := u_ws RX1 TX1 13
theorem nmX1 : ∀ a, a < 13 → ∀ b, b < 13 → a ≠ b → (TX1 a).2.1 ≠ (TX1 b).2.1 := by decide +kernel
theorem tyX1_ok : ∀ k, k < 13 → parseFieldDescriptor (TX1 k).2.2.1 = some (tyX1 k) := by decide +kernel
abbrev cX1_init : ByteArray := prog_3_method_1_code
def yX1_init : MethodName := ⟨RX1, "<init>", "(I)V"⟩
abbrev cX1_begin : ByteArray := prog_3_method_2_code
def yX1_begin : MethodName := ⟨RX1, "begin", "(LReuseHouse$Kinds;I)V"⟩
abbrev cX1_ofInt : ByteArray := prog_3_method_3_code
def yX1_ofInt : MethodName := ⟨RX1, "ofInt", "(I)J"⟩
abbrev cX1_ofKind : ByteArray := prog_3_method_4_code
def yX1_ofKind : MethodName := ⟨RX1, "ofKind", "(I)J"⟩
abbrev cX1_ofCell : ByteArray := prog_3_method_5_code
def yX1_ofCell : MethodName := ⟨RX1, "ofCell", "(I)J"⟩
abbrev cX1_isInt : ByteArray := prog_3_method_6_code
def yX1_isInt : MethodName := ⟨RX1, "isInt", "(J)Z"⟩
abbrev cX1_isCell : ByteArray := prog_3_method_7_code
def yX1_isCell : MethodName := ⟨RX1, "isCell", "(J)Z"⟩
abbrev cX1_kindOf : ByteArray := prog_3_method_8_code
def yX1_kindOf : MethodName := ⟨RX1, "kindOf", "(J)I"⟩
abbrev cX1_width : ByteArray := prog_3_method_9_code
def yX1_width : MethodName := ⟨RX1, "width", "(I)I"⟩
abbrev cX1_field : ByteArray := prog_3_method_10_code
def yX1_field : MethodName := ⟨RX1, "field", "(II)J"⟩
abbrev cX1_take : ByteArray := prog_3_method_11_code
def yX1_take : MethodName := ⟨RX1, "take", "()I"⟩
abbrev cX1_fill : ByteArray := prog_3_method_12_code
def yX1_fill : MethodName := ⟨RX1, "fill", "(II[JI)V"⟩
abbrev cX1_copy : ByteArray := prog_3_method_13_code
def yX1_copy : MethodName := ⟨RX1, "copy", "(J)V"⟩
abbrev cX1_free : ByteArray := prog_3_method_14_code
def yX1_free : MethodName := ⟨RX1, "free", "(I)V"⟩
abbrev cX1_drop : ByteArray := prog_3_method_15_code
def yX1_drop : MethodName := ⟨RX1, "drop", "(J)V"⟩
abbrev cX1_lower : ByteArray := prog_3_method_16_code
def yX1_lower : MethodName := ⟨RX1, "lower", "(JI)I"⟩
def RX2 : String := "ReuseHouse$Code"
def TX2 : u_T := fun k => match k with
  | 0 => ("ReuseHouse$Code", "op", "[I", true)
  | 1 => ("ReuseHouse$Code", "a", "[I", true)
  | 2 => ("ReuseHouse$Code", "b", "[I", true)
  | 3 => ("ReuseHouse$Code", "place", "[I", true)
  | 4 => ("ReuseHouse$Code", "next", "[I", true)
  | 5 => ("ReuseHouse$Code", "needed", "[I", true)
  | 6 => ("ReuseHouse$Code", "size", "I", false)
  | _ => ("ReuseHouse$Code", "tail", "I", false)
def tyX2 : Nat → FieldType := fun k => match k with
  | 0 => .array .int
  | 1 => .array .int
  | 2 => .array .int
  | 3 => .array .int
  | 4 => .array .int
  | 5 => .array .int
  | 6 => .int
  | _ => .int
abbrev wsX20 : List Cond := u_ws RX2 TX2 8
theorem nmX2 : ∀ a, a < 8 → ∀ b, b < 8 → a ≠ b → (TX2 a).2.1 ≠ (TX2 b).2.1 := by decide +kernel
theorem tyX2_ok : ∀ k, k < 8 → parseFieldDescriptor (TX2 k).2.2.1 = some (tyX2 k) := by decide +kernel
abbrev cX2_init : ByteArray := prog_4_method_1_code
def yX2_init : MethodName := ⟨RX2, "<init>", "()V"⟩
abbrev cX2_clear : ByteArray := prog_4_method_2_code
def yX2_clear : MethodName := ⟨RX2, "clear", "()V"⟩
abbrev cX2_append : ByteArray := prog_4_method_3_code
def yX2_append : MethodName := ⟨RX2, "append", "(III)I"⟩
abbrev cX2_appendStep : ByteArray := prog_4_method_4_code
def yX2_appendStep : MethodName := ⟨RX2, "appendStep", "(I)V"⟩
abbrev cX2_insertBehind : ByteArray := prog_4_method_5_code
def yX2_insertBehind : MethodName := ⟨RX2, "insertBehind", "(III)I"⟩
abbrev cX2_neededBehind : ByteArray := prog_4_method_6_code
def yX2_neededBehind : MethodName := ⟨RX2, "neededBehind", "(I)I"⟩
def RX3 : String := "ReuseHouse$Functions"
def TX3 : u_T := fun k => match k with
  | 0 => ("ReuseHouse$Functions", "word", "[J", true)
  | 1 => ("ReuseHouse$Functions", "enter", "[I", true)
  | 2 => ("ReuseHouse$Functions", "facts", "[I", true)
  | _ => ("ReuseHouse$Functions", "size", "I", false)
def tyX3 : Nat → FieldType := fun k => match k with
  | 0 => .array .long
  | 1 => .array .int
  | 2 => .array .int
  | _ => .int
abbrev wsX30 : List Cond := u_ws RX3 TX3 4
theorem nmX3 : ∀ a, a < 4 → ∀ b, b < 4 → a ≠ b → (TX3 a).2.1 ≠ (TX3 b).2.1 := by decide +kernel
theorem tyX3_ok : ∀ k, k < 4 → parseFieldDescriptor (TX3 k).2.2.1 = some (tyX3 k) := by decide +kernel
abbrev cX3_init : ByteArray := prog_5_method_1_code
def yX3_init : MethodName := ⟨RX3, "<init>", "()V"⟩
abbrev cX3_has : ByteArray := prog_5_method_2_code
def yX3_has : MethodName := ⟨RX3, "has", "(I)Z"⟩
abbrev cX3_find : ByteArray := prog_5_method_3_code
def yX3_find : MethodName := ⟨RX3, "find", "(J)I"⟩
abbrev cX3_add : ByteArray := prog_5_method_4_code
def yX3_add : MethodName := ⟨RX3, "add", "(J)I"⟩
abbrev cX3_fact : ByteArray := prog_5_method_5_code
def yX3_fact : MethodName := ⟨RX3, "fact", "(II)I"⟩
abbrev cX3_oneMore : ByteArray := prog_5_method_6_code
def yX3_oneMore : MethodName := ⟨RX3, "oneMore", "(II)V"⟩
def RX4 : String := "ReuseHouse$Kinds"
def TX4 : u_T := fun k => match k with
  | 0 => ("ReuseHouse$Kinds", "word", "[J", true)
  | 1 => ("ReuseHouse$Kinds", "fields", "[I", true)
  | _ => ("ReuseHouse$Kinds", "size", "I", false)
def tyX4 : Nat → FieldType := fun k => match k with
  | 0 => .array .long
  | 1 => .array .int
  | _ => .int
abbrev wsX40 : List Cond := u_ws RX4 TX4 3
theorem nmX4 : ∀ a, a < 3 → ∀ b, b < 3 → a ≠ b → (TX4 a).2.1 ≠ (TX4 b).2.1 := by decide +kernel
theorem tyX4_ok : ∀ k, k < 3 → parseFieldDescriptor (TX4 k).2.2.1 = some (tyX4 k) := by decide +kernel
abbrev cX4_init : ByteArray := prog_6_method_1_code
def yX4_init : MethodName := ⟨RX4, "<init>", "()V"⟩
abbrev cX4_find : ByteArray := prog_6_method_2_code
def yX4_find : MethodName := ⟨RX4, "find", "(J)I"⟩
abbrev cX4_add : ByteArray := prog_6_method_3_code
def yX4_add : MethodName := ⟨RX4, "add", "(J)I"⟩
abbrev cX4_fieldsOf : ByteArray := prog_6_method_4_code
def yX4_fieldsOf : MethodName := ⟨RX4, "fieldsOf", "(I)I"⟩
abbrev cX4_wordOf : ByteArray := prog_6_method_5_code
def yX4_wordOf : MethodName := ⟨RX4, "wordOf", "(I)J"⟩
def RX5 : String := "ReuseHouse$Machine"
def TX5 : u_T := fun k => match k with
  | 0 => ("ReuseHouse$Machine", "program", "LReuseHouse$Program;", false)
  | 1 => ("ReuseHouse$Machine", "code", "LReuseHouse$Code;", false)
  | 2 => ("ReuseHouse$Machine", "cells", "LReuseHouse$Cells;", false)
  | 3 => ("ReuseHouse$Machine", "counted", "Z", false)
  | 4 => ("ReuseHouse$Machine", "stack", "[J", true)
  | 5 => ("ReuseHouse$Machine", "top", "I", false)
  | 6 => ("ReuseHouse$Machine", "base", "I", false)
  | 7 => ("ReuseHouse$Machine", "callBase", "[I", true)
  | 8 => ("ReuseHouse$Machine", "callBack", "[I", true)
  | 9 => ("ReuseHouse$Machine", "callShells", "[I", true)
  | 10 => ("ReuseHouse$Machine", "open", "I", false)
  | 11 => ("ReuseHouse$Machine", "shells", "[I", true)
  | 12 => ("ReuseHouse$Machine", "shellTop", "I", false)
  | 13 => ("ReuseHouse$Machine", "at", "I", false)
  | 14 => ("ReuseHouse$Machine", "allowed", "I", false)
  | 15 => ("ReuseHouse$Machine", "steps", "I", false)
  | 16 => ("ReuseHouse$Machine", "mostOpen", "I", false)
  | 17 => ("ReuseHouse$Machine", "how", "I", false)
  | 18 => ("ReuseHouse$Machine", "stopPlace", "I", false)
  | _ => ("ReuseHouse$Machine", "result", "J", false)
def tyX5 : Nat → FieldType := fun k => match k with
  | 0 => .object "ReuseHouse$Program"
  | 1 => .object "ReuseHouse$Code"
  | 2 => .object "ReuseHouse$Cells"
  | 3 => .boolean
  | 4 => .array .long
  | 5 => .int
  | 6 => .int
  | 7 => .array .int
  | 8 => .array .int
  | 9 => .array .int
  | 10 => .int
  | 11 => .array .int
  | 12 => .int
  | 13 => .int
  | 14 => .int
  | 15 => .int
  | 16 => .int
  | 17 => .int
  | 18 => .int
  | _ => .long
abbrev wsX50 : List Cond := u_ws RX5 TX5 20
theorem nmX5 : ∀ a, a < 20 → ∀ b, b < 20 → a ≠ b → (TX5 a).2.1 ≠ (TX5 b).2.1 := by decide +kernel
theorem tyX5_ok : ∀ k, k < 20 → parseFieldDescriptor (TX5 k).2.2.1 = some (tyX5 k) := by decide +kernel
abbrev cX5_init : ByteArray := prog_7_method_1_code
def yX5_init : MethodName := ⟨RX5, "<init>", "(LReuseHouse$Program;)V"⟩
abbrev cX5_begin : ByteArray := prog_7_method_2_code
def yX5_begin : MethodName := ⟨RX5, "begin", "(LReuseHouse$Program;LReuseHouse$Cells;ZI)V"⟩
abbrev cX5_work : ByteArray := prog_7_method_3_code
def yX5_work : MethodName := ⟨RX5, "work", "(I)V"⟩
abbrev cX5_turn : ByteArray := prog_7_method_4_code
def yX5_turn : MethodName := ⟨RX5, "turn", "(I)V"⟩
abbrev cX5_push : ByteArray := prog_7_method_5_code
def yX5_push : MethodName := ⟨RX5, "push", "(J)V"⟩
abbrev cX5_pop : ByteArray := prog_7_method_6_code
def yX5_pop : MethodName := ⟨RX5, "pop", "()J"⟩
abbrev cX5_stop : ByteArray := prog_7_method_7_code
def yX5_stop : MethodName := ⟨RX5, "stop", "(II)V"⟩
abbrev cX5_step : ByteArray := prog_7_method_8_code
def yX5_step : MethodName := ⟨RX5, "step", "(I)Z"⟩
abbrev cX5_goBehind : ByteArray := prog_7_method_9_code
def yX5_goBehind : MethodName := ⟨RX5, "goBehind", "(I)V"⟩
abbrev cX5_has : ByteArray := prog_7_method_10_code
def yX5_has : MethodName := ⟨RX5, "has", "(II)Z"⟩
abbrev cX5_toldBits : ByteArray := prog_7_method_11_code
def yX5_toldBits : MethodName := ⟨RX5, "toldBits", "(I)I"⟩
abbrev cX5_dropNames : ByteArray := prog_7_method_12_code
def yX5_dropNames : MethodName := ⟨RX5, "dropNames", "(I)V"⟩
abbrev cX5_number : ByteArray := prog_7_method_13_code
def yX5_number : MethodName := ⟨RX5, "number", "(I)V"⟩
abbrev cX5_kindAlone : ByteArray := prog_7_method_14_code
def yX5_kindAlone : MethodName := ⟨RX5, "kindAlone", "(I)V"⟩
abbrev cX5_callAlone : ByteArray := prog_7_method_15_code
def yX5_callAlone : MethodName := ⟨RX5, "callAlone", "(I)V"⟩
abbrev cX5_useName : ByteArray := prog_7_method_16_code
def yX5_useName : MethodName := ⟨RX5, "useName", "(I)V"⟩
abbrev cX5_bind : ByteArray := prog_7_method_17_code
def yX5_bind : MethodName := ⟨RX5, "bind", "(I)V"⟩
abbrev cX5_choose : ByteArray := prog_7_method_18_code
def yX5_choose : MethodName := ⟨RX5, "choose", "(I)V"⟩
abbrev cX5_sign : ByteArray := prog_7_method_19_code
def yX5_sign : MethodName := ⟨RX5, "sign", "(I)V"⟩
abbrev cX5_reckon : ByteArray := prog_7_method_20_code
def yX5_reckon : MethodName := ⟨RX5, "reckon", "(III)I"⟩
abbrev cX5_call : ByteArray := prog_7_method_21_code
def yX5_call : MethodName := ⟨RX5, "call", "(I)V"⟩
abbrev cX5_openCall : ByteArray := prog_7_method_22_code
def yX5_openCall : MethodName := ⟨RX5, "openCall", "(II)V"⟩
abbrev cX5_closeCall : ByteArray := prog_7_method_23_code
def yX5_closeCall : MethodName := ⟨RX5, "closeCall", "()V"⟩
abbrev cX5_build : ByteArray := prog_7_method_24_code
def yX5_build : MethodName := ⟨RX5, "build", "(I)V"⟩
abbrev cX5_takeShell : ByteArray := prog_7_method_25_code
def yX5_takeShell : MethodName := ⟨RX5, "takeShell", "(I)I"⟩
abbrev cX5_match : ByteArray := prog_7_method_26_code
def yX5_match : MethodName := ⟨RX5, "match", "(I)V"⟩
abbrev cX5_fittingArm : ByteArray := prog_7_method_27_code
def yX5_fittingArm : MethodName := ⟨RX5, "fittingArm", "(II)I"⟩
abbrev cX5_bindPlainly : ByteArray := prog_7_method_28_code
def yX5_bindPlainly : MethodName := ⟨RX5, "bindPlainly", "(IJ)V"⟩
abbrev cX5_takeApart : ByteArray := prog_7_method_29_code
def yX5_takeApart : MethodName := ⟨RX5, "takeApart", "(IIIZ)I"⟩
abbrev cX5_keepShell : ByteArray := prog_7_method_30_code
def yX5_keepShell : MethodName := ⟨RX5, "keepShell", "(I)V"⟩
abbrev cX5_leaveArm : ByteArray := prog_7_method_31_code
def yX5_leaveArm : MethodName := ⟨RX5, "leaveArm", "(I)V"⟩
def RX6 : String := "ReuseHouse$Needs"
def TX6 : u_T := fun k => match k with
  | _ => ("ReuseHouse$Needs", "order", "[I", true)
def tyX6 : Nat → FieldType := fun k => match k with
  | _ => .array .int
abbrev wsX60 : List Cond := u_ws RX6 TX6 1
theorem nmX6 : ∀ a, a < 1 → ∀ b, b < 1 → a ≠ b → (TX6 a).2.1 ≠ (TX6 b).2.1 := by decide +kernel
theorem tyX6_ok : ∀ k, k < 1 → parseFieldDescriptor (TX6 k).2.2.1 = some (tyX6 k) := by decide +kernel
abbrev cX6_init : ByteArray := prog_8_method_1_code
def yX6_init : MethodName := ⟨RX6, "<init>", "()V"⟩
abbrev cX6_mark : ByteArray := prog_8_method_2_code
def yX6_mark : MethodName := ⟨RX6, "mark", "(LReuseHouse$Program;)V"⟩
abbrev cX6_neededAt : ByteArray := prog_8_method_3_code
def yX6_neededAt : MethodName := ⟨RX6, "neededAt", "(LReuseHouse$Program;I)I"⟩
abbrev cX6_neededInArms : ByteArray := prog_8_method_4_code
def yX6_neededInArms : MethodName := ⟨RX6, "neededInArms", "(LReuseHouse$Program;I)I"⟩
abbrev cX6_countShells : ByteArray := prog_8_method_5_code
def yX6_countShells : MethodName := ⟨RX6, "countShells", "(LReuseHouse$Program;II)V"⟩
def RX7 : String := "ReuseHouse$Parser"
def TX7 : u_T := fun k => match k with
  | 0 => ("ReuseHouse$Parser", "tokens", "LReuseHouse$Tokens;", true)
  | 1 => ("ReuseHouse$Parser", "needs", "LReuseHouse$Needs;", true)
  | 2 => ("ReuseHouse$Parser", "names", "[J", true)
  | 3 => ("ReuseHouse$Parser", "around", "I", false)
  | 4 => ("ReuseHouse$Parser", "built", "[I", true)
  | 5 => ("ReuseHouse$Parser", "draft", "LReuseHouse$Program;", false)
  | 6 => ("ReuseHouse$Parser", "function", "I", false)
  | 7 => ("ReuseHouse$Parser", "faultNumber", "I", false)
  | _ => ("ReuseHouse$Parser", "faultPlace", "I", false)
def tyX7 : Nat → FieldType := fun k => match k with
  | 0 => .object "ReuseHouse$Tokens"
  | 1 => .object "ReuseHouse$Needs"
  | 2 => .array .long
  | 3 => .int
  | 4 => .array .int
  | 5 => .object "ReuseHouse$Program"
  | 6 => .int
  | 7 => .int
  | _ => .int
abbrev wsX70 : List Cond := u_ws RX7 TX7 9
theorem nmX7 : ∀ a, a < 9 → ∀ b, b < 9 → a ≠ b → (TX7 a).2.1 ≠ (TX7 b).2.1 := by decide +kernel
theorem tyX7_ok : ∀ k, k < 9 → parseFieldDescriptor (TX7 k).2.2.1 = some (tyX7 k) := by decide +kernel
abbrev cX7_init : ByteArray := prog_9_method_1_code
def yX7_init : MethodName := ⟨RX7, "<init>", "()V"⟩
abbrev cX7_reads : ByteArray := prog_9_method_2_code
def yX7_reads : MethodName := ⟨RX7, "reads", "([BI)Z"⟩
abbrev cX7_fail : ByteArray := prog_9_method_3_code
def yX7_fail : MethodName := ⟨RX7, "fail", "(II)V"⟩
abbrev cX7_failForm : ByteArray := prog_9_method_4_code
def yX7_failForm : MethodName := ⟨RX7, "failForm", "()V"⟩
abbrev cX7_failMany : ByteArray := prog_9_method_5_code
def yX7_failMany : MethodName := ⟨RX7, "failMany", "()V"⟩
abbrev cX7_expect : ByteArray := prog_9_method_6_code
def yX7_expect : MethodName := ⟨RX7, "expect", "(I)V"⟩
abbrev cX7_definition : ByteArray := prog_9_method_7_code
def yX7_definition : MethodName := ⟨RX7, "definition", "()V"⟩
abbrev cX7_toldNames : ByteArray := prog_9_method_8_code
def yX7_toldNames : MethodName := ⟨RX7, "toldNames", "()V"⟩
abbrev cX7_slotOf : ByteArray := prog_9_method_9_code
def yX7_slotOf : MethodName := ⟨RX7, "slotOf", "(J)I"⟩
abbrev cX7_newName : ByteArray := prog_9_method_10_code
def yX7_newName : MethodName := ⟨RX7, "newName", "()V"⟩
abbrev cX7_tell : ByteArray := prog_9_method_11_code
def yX7_tell : MethodName := ⟨RX7, "tell", "(J)I"⟩
abbrev cX7_mustBeginExpression : ByteArray := prog_9_method_12_code
def yX7_mustBeginExpression : MethodName := ⟨RX7, "mustBeginExpression", "()V"⟩
abbrev cX7_expression : ByteArray := prog_9_method_13_code
def yX7_expression : MethodName := ⟨RX7, "expression", "(I)V"⟩
abbrev cX7_letExpression : ByteArray := prog_9_method_14_code
def yX7_letExpression : MethodName := ⟨RX7, "letExpression", "(I)V"⟩
abbrev cX7_ifExpression : ByteArray := prog_9_method_15_code
def yX7_ifExpression : MethodName := ⟨RX7, "ifExpression", "(I)V"⟩
abbrev cX7_matchExpression : ByteArray := prog_9_method_16_code
def yX7_matchExpression : MethodName := ⟨RX7, "matchExpression", "(I)V"⟩
abbrev cX7_joinArms : ByteArray := prog_9_method_17_code
def yX7_joinArms : MethodName := ⟨RX7, "joinArms", "(I)V"⟩
abbrev cX7_arm : ByteArray := prog_9_method_18_code
def yX7_arm : MethodName := ⟨RX7, "arm", "(IIII)I"⟩
abbrev cX7_armBody : ByteArray := prog_9_method_19_code
def yX7_armBody : MethodName := ⟨RX7, "armBody", "(II)V"⟩
abbrev cX7_refuseKindTwice : ByteArray := prog_9_method_20_code
def yX7_refuseKindTwice : MethodName := ⟨RX7, "refuseKindTwice", "(I)V"⟩
abbrev cX7_pattern : ByteArray := prog_9_method_21_code
def yX7_pattern : MethodName := ⟨RX7, "pattern", "(I)V"⟩
abbrev cX7_kindAtHand : ByteArray := prog_9_method_22_code
def yX7_kindAtHand : MethodName := ⟨RX7, "kindAtHand", "()I"⟩
abbrev cX7_toldToEnd : ByteArray := prog_9_method_23_code
def yX7_toldToEnd : MethodName := ⟨RX7, "toldToEnd", "(III)V"⟩
abbrev cX7_comparison : ByteArray := prog_9_method_24_code
def yX7_comparison : MethodName := ⟨RX7, "comparison", "(I)V"⟩
abbrev cX7_sum : ByteArray := prog_9_method_25_code
def yX7_sum : MethodName := ⟨RX7, "sum", "(I)V"⟩
abbrev cX7_part : ByteArray := prog_9_method_26_code
def yX7_part : MethodName := ⟨RX7, "part", "(I)V"⟩
abbrev cX7_atom : ByteArray := prog_9_method_27_code
def yX7_atom : MethodName := ⟨RX7, "atom", "(I)V"⟩
abbrev cX7_nameAtom : ByteArray := prog_9_method_28_code
def yX7_nameAtom : MethodName := ⟨RX7, "nameAtom", "(I)V"⟩
abbrev cX7_writeCall : ByteArray := prog_9_method_29_code
def yX7_writeCall : MethodName := ⟨RX7, "writeCall", "(IIII)V"⟩
abbrev cX7_kindAtom : ByteArray := prog_9_method_30_code
def yX7_kindAtom : MethodName := ⟨RX7, "kindAtom", "(I)V"⟩
abbrev cX7_arguments : ByteArray := prog_9_method_31_code
def yX7_arguments : MethodName := ⟨RX7, "arguments", "(II)I"⟩
abbrev cX7_resolveCalls : ByteArray := prog_9_method_32_code
def yX7_resolveCalls : MethodName := ⟨RX7, "resolveCalls", "()V"⟩
abbrev cX7_isCall : ByteArray := prog_9_method_33_code
def yX7_isCall : MethodName := ⟨RX7, "isCall", "(I)Z"⟩
abbrev cX7_resolveCall : ByteArray := prog_9_method_34_code
def yX7_resolveCall : MethodName := ⟨RX7, "resolveCall", "(I)I"⟩
def RX8 : String := "ReuseHouse$Printer"
def TX8 : u_T := fun k => match k with
  | 0 => ("ReuseHouse$Printer", "bytes", "[B", false)
  | 1 => ("ReuseHouse$Printer", "size", "I", false)
  | 2 => ("ReuseHouse$Printer", "spare", "[B", false)
  | 3 => ("ReuseHouse$Printer", "spareSize", "I", false)
  | 4 => ("ReuseHouse$Printer", "tooLong", "Z", false)
  | 5 => ("ReuseHouse$Printer", "openCell", "[I", true)
  | 6 => ("ReuseHouse$Printer", "openField", "[I", true)
  | _ => ("ReuseHouse$Printer", "open", "I", false)
def tyX8 : Nat → FieldType := fun k => match k with
  | 0 => .array .byte
  | 1 => .int
  | 2 => .array .byte
  | 3 => .int
  | 4 => .boolean
  | 5 => .array .int
  | 6 => .array .int
  | _ => .int
abbrev wsX80 : List Cond := u_ws RX8 TX8 8
theorem nmX8 : ∀ a, a < 8 → ∀ b, b < 8 → a ≠ b → (TX8 a).2.1 ≠ (TX8 b).2.1 := by decide +kernel
theorem tyX8_ok : ∀ k, k < 8 → parseFieldDescriptor (TX8 k).2.2.1 = some (tyX8 k) := by decide +kernel
abbrev cX8_init : ByteArray := prog_10_method_1_code
def yX8_init : MethodName := ⟨RX8, "<init>", "()V"⟩
abbrev cX8_has : ByteArray := prog_10_method_2_code
def yX8_has : MethodName := ⟨RX8, "has", "(I)Z"⟩
abbrev cX8_print : ByteArray := prog_10_method_3_code
def yX8_print : MethodName := ⟨RX8, "print", "(JLReuseHouse$Cells;)I"⟩
abbrev cX8_putNextField : ByteArray := prog_10_method_4_code
def yX8_putNextField : MethodName := ⟨RX8, "putNextField", "(LReuseHouse$Cells;)V"⟩
abbrev cX8_putValue : ByteArray := prog_10_method_5_code
def yX8_putValue : MethodName := ⟨RX8, "putValue", "(JLReuseHouse$Cells;)V"⟩
abbrev cX8_openFields : ByteArray := prog_10_method_6_code
def yX8_openFields : MethodName := ⟨RX8, "openFields", "(I)V"⟩
abbrev cX8_putKind : ByteArray := prog_10_method_7_code
def yX8_putKind : MethodName := ⟨RX8, "putKind", "(J)V"⟩
abbrev cX8_putInt : ByteArray := prog_10_method_8_code
def yX8_putInt : MethodName := ⟨RX8, "putInt", "(I)V"⟩
abbrev cX8_put : ByteArray := prog_10_method_9_code
def yX8_put : MethodName := ⟨RX8, "put", "(I)V"⟩
def RX9 : String := "ReuseHouse$Program"
def TX9 : u_T := fun k => match k with
  | 0 => ("ReuseHouse$Program", "code", "LReuseHouse$Code;", true)
  | 1 => ("ReuseHouse$Program", "arms", "LReuseHouse$Arms;", true)
  | 2 => ("ReuseHouse$Program", "kinds", "LReuseHouse$Kinds;", true)
  | _ => ("ReuseHouse$Program", "functions", "LReuseHouse$Functions;", true)
def tyX9 : Nat → FieldType := fun k => match k with
  | 0 => .object "ReuseHouse$Code"
  | 1 => .object "ReuseHouse$Arms"
  | 2 => .object "ReuseHouse$Kinds"
  | _ => .object "ReuseHouse$Functions"
abbrev wsX90 : List Cond := u_ws RX9 TX9 4
theorem nmX9 : ∀ a, a < 4 → ∀ b, b < 4 → a ≠ b → (TX9 a).2.1 ≠ (TX9 b).2.1 := by decide +kernel
theorem tyX9_ok : ∀ k, k < 4 → parseFieldDescriptor (TX9 k).2.2.1 = some (tyX9 k) := by decide +kernel
abbrev cX9_init : ByteArray := prog_11_method_1_code
def yX9_init : MethodName := ⟨RX9, "<init>", "()V"⟩
abbrev cX9_clear : ByteArray := prog_11_method_2_code
def yX9_clear : MethodName := ⟨RX9, "clear", "()V"⟩
abbrev cX9_armFields : ByteArray := prog_11_method_3_code
def yX9_armFields : MethodName := ⟨RX9, "armFields", "(I)I"⟩
abbrev cX9_buildsAsMany : ByteArray := prog_11_method_4_code
def yX9_buildsAsMany : MethodName := ⟨RX9, "buildsAsMany", "(I)Z"⟩
def RX10 : String := "ReuseHouse$Tokens"
def TX10 : u_T := fun k => match k with
  | 0 => ("ReuseHouse$Tokens", "sorts", "[I", true)
  | 1 => ("ReuseHouse$Tokens", "places", "[I", true)
  | 2 => ("ReuseHouse$Tokens", "words", "[J", true)
  | 3 => ("ReuseHouse$Tokens", "size", "I", false)
  | 4 => ("ReuseHouse$Tokens", "at", "I", false)
  | 5 => ("ReuseHouse$Tokens", "sort", "I", false)
  | 6 => ("ReuseHouse$Tokens", "place", "I", false)
  | _ => ("ReuseHouse$Tokens", "word", "J", false)
def tyX10 : Nat → FieldType := fun k => match k with
  | 0 => .array .int
  | 1 => .array .int
  | 2 => .array .long
  | 3 => .int
  | 4 => .int
  | 5 => .int
  | 6 => .int
  | _ => .long
abbrev wsX100 : List Cond := u_ws RX10 TX10 8
theorem nmX10 : ∀ a, a < 8 → ∀ b, b < 8 → a ≠ b → (TX10 a).2.1 ≠ (TX10 b).2.1 := by decide +kernel
theorem tyX10_ok : ∀ k, k < 8 → parseFieldDescriptor (TX10 k).2.2.1 = some (tyX10 k) := by decide +kernel
abbrev cX10_init : ByteArray := prog_12_method_1_code
def yX10_init : MethodName := ⟨RX10, "<init>", "()V"⟩
abbrev cX10_read : ByteArray := prog_12_method_2_code
def yX10_read : MethodName := ⟨RX10, "read", "([BI)V"⟩
abbrev cX10_advance : ByteArray := prog_12_method_3_code
def yX10_advance : MethodName := ⟨RX10, "advance", "()V"⟩
abbrev cX10_opensBracketNext : ByteArray := prog_12_method_4_code
def yX10_opensBracketNext : MethodName := ⟨RX10, "opensBracketNext", "()Z"⟩
abbrev cX10_wordOf : ByteArray := prog_12_method_5_code
def yX10_wordOf : MethodName := ⟨RX10, "wordOf", "(I)J"⟩
abbrev cX10_readWord : ByteArray := prog_12_method_6_code
def yX10_readWord : MethodName := ⟨RX10, "readWord", "([BII)I"⟩
abbrev cX10_sortOfSmall : ByteArray := prog_12_method_7_code
def yX10_sortOfSmall : MethodName := ⟨RX10, "sortOfSmall", "(J)I"⟩
abbrev cX10_readSign : ByteArray := prog_12_method_8_code
def yX10_readSign : MethodName := ⟨RX10, "readSign", "([BII)I"⟩
abbrev cX10_isWordByte : ByteArray := prog_12_method_9_code
def yX10_isWordByte : MethodName := ⟨RX10, "isWordByte", "(I)Z"⟩
abbrev cX10_isSmall : ByteArray := prog_12_method_10_code
def yX10_isSmall : MethodName := ⟨RX10, "isSmall", "(I)Z"⟩
abbrev cX10_isGreat : ByteArray := prog_12_method_11_code
def yX10_isGreat : MethodName := ⟨RX10, "isGreat", "(I)Z"⟩
abbrev cX10_isDigit : ByteArray := prog_12_method_12_code
def yX10_isDigit : MethodName := ⟨RX10, "isDigit", "(I)Z"⟩
def RX11 : String := "ReuseHouse"
def TX11 : u_T := fun k => match k with
  | 0 => ("ReuseHouse", "tape", "[B", true)
  | 1 => ("ReuseHouse", "fed", "I", false)
  | 2 => ("ReuseHouse", "taken", "LReuseHouse$Program;", false)
  | 3 => ("ReuseHouse", "parser", "LReuseHouse$Parser;", true)
  | 4 => ("ReuseHouse", "machine", "LReuseHouse$Machine;", true)
  | 5 => ("ReuseHouse", "countedCells", "LReuseHouse$Cells;", true)
  | 6 => ("ReuseHouse", "plainCells", "LReuseHouse$Cells;", true)
  | 7 => ("ReuseHouse", "printer", "LReuseHouse$Printer;", true)
  | 8 => ("ReuseHouse", "faultNumber", "I", false)
  | 9 => ("ReuseHouse", "stopPlace", "I", false)
  | 10 => ("ReuseHouse", "wasRun", "Z", false)
  | 11 => ("ReuseHouse", "runSteps", "I", false)
  | 12 => ("ReuseHouse", "runCalls", "I", false)
  | 13 => ("ReuseHouse", "hasValue", "Z", false)
  | 14 => ("ReuseHouse", "value", "J", false)
  | 15 => ("ReuseHouse", "hasOther", "Z", false)
  | _ => ("ReuseHouse", "otherValue", "J", false)
def tyX11 : Nat → FieldType := fun k => match k with
  | 0 => .array .byte
  | 1 => .int
  | 2 => .object "ReuseHouse$Program"
  | 3 => .object "ReuseHouse$Parser"
  | 4 => .object "ReuseHouse$Machine"
  | 5 => .object "ReuseHouse$Cells"
  | 6 => .object "ReuseHouse$Cells"
  | 7 => .object "ReuseHouse$Printer"
  | 8 => .int
  | 9 => .int
  | 10 => .boolean
  | 11 => .int
  | 12 => .int
  | 13 => .boolean
  | 14 => .long
  | 15 => .boolean
  | _ => .long
abbrev wsX110 : List Cond := u_ws RX11 TX11 17
theorem nmX11 : ∀ a, a < 17 → ∀ b, b < 17 → a ≠ b → (TX11 a).2.1 ≠ (TX11 b).2.1 := by decide +kernel
theorem tyX11_ok : ∀ k, k < 17 → parseFieldDescriptor (TX11 k).2.2.1 = some (tyX11 k) := by decide +kernel
abbrev cX11_init : ByteArray := prog_1_method_1_code
def yX11_init : MethodName := ⟨RX11, "<init>", "()V"⟩
abbrev cX11_feed : ByteArray := prog_1_method_2_code
def yX11_feed : MethodName := ⟨RX11, "feed", "(IIIII)I"⟩
abbrev cX11_putFour : ByteArray := prog_1_method_3_code
def yX11_putFour : MethodName := ⟨RX11, "putFour", "(I)V"⟩
abbrev cX11_program : ByteArray := prog_1_method_4_code
def yX11_program : MethodName := ⟨RX11, "program", "(I)I"⟩
abbrev cX11_fault : ByteArray := prog_1_method_5_code
def yX11_fault : MethodName := ⟨RX11, "fault", "()I"⟩
abbrev cX11_where : ByteArray := prog_1_method_6_code
def yX11_where : MethodName := ⟨RX11, "where", "()I"⟩
abbrev cX11_about : ByteArray := prog_1_method_7_code
def yX11_about : MethodName := ⟨RX11, "about", "(II)I"⟩
abbrev cX11_run : ByteArray := prog_1_method_8_code
def yX11_run : MethodName := ⟨RX11, "run", "(IIIIIII)I"⟩
abbrev cX11_plain : ByteArray := prog_1_method_9_code
def yX11_plain : MethodName := ⟨RX11, "plain", "(IIIIII)I"⟩
abbrev cX11_mayWork : ByteArray := prog_1_method_10_code
def yX11_mayWork : MethodName := ⟨RX11, "mayWork", "(II)Z"⟩
abbrev cX11_tellInts : ByteArray := prog_1_method_11_code
def yX11_tellInts : MethodName := ⟨RX11, "tellInts", "(IIIII)V"⟩
abbrev cX11_show : ByteArray := prog_1_method_12_code
def yX11_show : MethodName := ⟨RX11, "show", "(Z)I"⟩
abbrev cX11_out : ByteArray := prog_1_method_13_code
def yX11_out : MethodName := ⟨RX11, "out", "(I)I"⟩
abbrev cX11_release : ByteArray := prog_1_method_14_code
def yX11_release : MethodName := ⟨RX11, "release", "()I"⟩
abbrev cX11_count : ByteArray := prog_1_method_15_code
def yX11_count : MethodName := ⟨RX11, "count", "(I)I"⟩
def RX12 : String := "ReuseHouseModel$Program"
def TX12 : u_T := fun k => match k with
  | 0 => ("ReuseHouseModel$Program", "what", "[B", true)
  | 1 => ("ReuseHouseModel$Program", "place", "[I", true)
  | 2 => ("ReuseHouseModel$Program", "own", "[I", true)
  | 3 => ("ReuseHouseModel$Program", "one", "[I", true)
  | 4 => ("ReuseHouseModel$Program", "two", "[I", true)
  | 5 => ("ReuseHouseModel$Program", "three", "[I", true)
  | 6 => ("ReuseHouseModel$Program", "beside", "[I", true)
  | 7 => ("ReuseHouseModel$Program", "many", "[I", true)
  | 8 => ("ReuseHouseModel$Program", "uses", "[I", true)
  | 9 => ("ReuseHouseModel$Program", "behind", "[I", true)
  | 10 => ("ReuseHouseModel$Program", "name", "[J", true)
  | 11 => ("ReuseHouseModel$Program", "makes", "[B", true)
  | 12 => ("ReuseHouseModel$Program", "parts", "I", false)
  | 13 => ("ReuseHouseModel$Program", "functionName", "[J", true)
  | 14 => ("ReuseHouseModel$Program", "kindName", "[J", true)
  | 15 => ("ReuseHouseModel$Program", "told", "[I", true)
  | 16 => ("ReuseHouseModel$Program", "body", "[I", true)
  | 17 => ("ReuseHouseModel$Program", "first", "[I", true)
  | 18 => ("ReuseHouseModel$Program", "widest", "[I", true)
  | 19 => ("ReuseHouseModel$Program", "fields", "[I", true)
  | 20 => ("ReuseHouseModel$Program", "functions", "I", false)
  | _ => ("ReuseHouseModel$Program", "kinds", "I", false)
def tyX12 : Nat → FieldType := fun k => match k with
  | 0 => .array .byte
  | 1 => .array .int
  | 2 => .array .int
  | 3 => .array .int
  | 4 => .array .int
  | 5 => .array .int
  | 6 => .array .int
  | 7 => .array .int
  | 8 => .array .int
  | 9 => .array .int
  | 10 => .array .long
  | 11 => .array .byte
  | 12 => .int
  | 13 => .array .long
  | 14 => .array .long
  | 15 => .array .int
  | 16 => .array .int
  | 17 => .array .int
  | 18 => .array .int
  | 19 => .array .int
  | 20 => .int
  | _ => .int
abbrev wsX120 : List Cond := u_ws RX12 TX12 22
theorem nmX12 : ∀ a, a < 22 → ∀ b, b < 22 → a ≠ b → (TX12 a).2.1 ≠ (TX12 b).2.1 := by decide +kernel
theorem tyX12_ok : ∀ k, k < 22 → parseFieldDescriptor (TX12 k).2.2.1 = some (tyX12 k) := by decide +kernel
abbrev cX12_init : ByteArray := prog_15_method_1_code
def yX12_init : MethodName := ⟨RX12, "<init>", "()V"⟩
def RX13 : String := "ReuseHouseModel$Stop"
def TX13 : u_T := fun k => match k with
  | 0 => ("java/lang/Throwable", "cause", "Ljava/lang/Throwable;", false)
  | 1 => ("java/lang/Throwable", "stackTrace", "[Ljava/lang/StackTraceElement;", false)
  | 2 => ("java/lang/Throwable", "suppressedExceptions", "Ljava/util/List;", false)
  | 3 => ("java/lang/Throwable", "detailMessage", "Ljava/lang/String;", false)
  | 4 => ("java/lang/Throwable", "backtrace", "Ljava/lang/Object;", false)
  | 5 => ("java/lang/Throwable", "depth", "I", false)
  | 6 => ("ReuseHouseModel$Stop", "kind", "I", false)
  | _ => ("ReuseHouseModel$Stop", "place", "I", false)
def tyX13 : Nat → FieldType := fun k => match k with
  | 0 => .object "java/lang/Throwable"
  | 1 => .array (.object "java/lang/StackTraceElement")
  | 2 => .object "java/util/List"
  | 3 => .object "java/lang/String"
  | 4 => .object "java/lang/Object"
  | 5 => .int
  | 6 => .int
  | _ => .int
abbrev wsX130 : List Cond := u_ws RX13 TX13 8
theorem nmX13 : ∀ a, a < 8 → ∀ b, b < 8 → a ≠ b → (TX13 a).2.1 ≠ (TX13 b).2.1 := by decide +kernel
theorem tyX13_ok : ∀ k, k < 8 → parseFieldDescriptor (TX13 k).2.2.1 = some (tyX13 k) := by decide +kernel
abbrev cX13_init : ByteArray := prog_16_method_1_code
def yX13_init : MethodName := ⟨RX13, "<init>", "()V"⟩
def RX14 : String := "ReuseHouseModel"
def TX14 : u_T := fun k => match k with
  | 0 => ("ReuseHouseModel", "thrown", "I", false)
  | 1 => ("ReuseHouseModel", "stop", "LReuseHouseModel$Stop;", true)
  | 2 => ("ReuseHouseModel", "tape", "[B", true)
  | 3 => ("ReuseHouseModel", "taped", "I", false)
  | 4 => ("ReuseHouseModel", "length", "I", false)
  | 5 => ("ReuseHouseModel", "at", "I", false)
  | 6 => ("ReuseHouseModel", "sort", "I", false)
  | 7 => ("ReuseHouseModel", "place", "I", false)
  | 8 => ("ReuseHouseModel", "sign", "I", false)
  | 9 => ("ReuseHouseModel", "letters", "J", false)
  | 10 => ("ReuseHouseModel", "p", "LReuseHouseModel$Program;", false)
  | 11 => ("ReuseHouseModel", "spare", "LReuseHouseModel$Program;", false)
  | 12 => ("ReuseHouseModel", "isTaken", "Z", false)
  | 13 => ("ReuseHouseModel", "scope", "[J", true)
  | 14 => ("ReuseHouseModel", "scoped", "I", false)
  | 15 => ("ReuseHouseModel", "deep", "I", false)
  | 16 => ("ReuseHouseModel", "counted", "I", false)
  | 17 => ("ReuseHouseModel", "fault", "I", false)
  | 18 => ("ReuseHouseModel", "where", "I", false)
  | 19 => ("ReuseHouseModel", "cellKind", "[I", true)
  | 20 => ("ReuseHouseModel", "cellCount", "[I", true)
  | 21 => ("ReuseHouseModel", "free", "[I", true)
  | 22 => ("ReuseHouseModel", "pile", "[I", true)
  | 23 => ("ReuseHouseModel", "cellField", "[J", true)
  | 24 => ("ReuseHouseModel", "freeCount", "I", false)
  | 25 => ("ReuseHouseModel", "given", "I", false)
  | 26 => ("ReuseHouseModel", "nextPlain", "I", false)
  | 27 => ("ReuseHouseModel", "otherKind", "[I", true)
  | 28 => ("ReuseHouseModel", "otherField", "[J", true)
  | 29 => ("ReuseHouseModel", "isPlain", "Z", false)
  | 30 => ("ReuseHouseModel", "hasRun", "Z", false)
  | 31 => ("ReuseHouseModel", "hasValue", "Z", false)
  | 32 => ("ReuseHouseModel", "hasOther", "Z", false)
  | 33 => ("ReuseHouseModel", "value", "J", false)
  | 34 => ("ReuseHouseModel", "other", "J", false)
  | 35 => ("ReuseHouseModel", "steps", "I", false)
  | 36 => ("ReuseHouseModel", "made", "I", false)
  | 37 => ("ReuseHouseModel", "reused", "I", false)
  | 38 => ("ReuseHouseModel", "freed", "I", false)
  | 39 => ("ReuseHouseModel", "most", "I", false)
  | 40 => ("ReuseHouseModel", "doubled", "I", false)
  | 41 => ("ReuseHouseModel", "openMost", "I", false)
  | 42 => ("ReuseHouseModel", "taskWhat", "[B", false)
  | 43 => ("ReuseHouseModel", "taskPart", "[I", false)
  | 44 => ("ReuseHouseModel", "values", "[J", false)
  | 45 => ("ReuseHouseModel", "tasks", "I", false)
  | 46 => ("ReuseHouseModel", "valued", "I", false)
  | 47 => ("ReuseHouseModel", "open", "I", false)
  | 48 => ("ReuseHouseModel", "slots", "[J", true)
  | 49 => ("ReuseHouseModel", "present", "[I", true)
  | 50 => ("ReuseHouseModel", "shell", "[I", true)
  | 51 => ("ReuseHouseModel", "shellArm", "[I", true)
  | 52 => ("ReuseHouseModel", "shellCall", "[I", true)
  | 53 => ("ReuseHouseModel", "shells", "I", false)
  | 54 => ("ReuseHouseModel", "keptCounts", "[I", true)
  | 55 => ("ReuseHouseModel", "asideKind", "[I", true)
  | 56 => ("ReuseHouseModel", "asideCount", "[I", true)
  | 57 => ("ReuseHouseModel", "asideField", "[J", true)
  | 58 => ("ReuseHouseModel", "out", "[B", true)
  | 59 => ("ReuseHouseModel", "side", "[B", true)
  | 60 => ("ReuseHouseModel", "outs", "I", false)
  | 61 => ("ReuseHouseModel", "sides", "I", false)
  | _ => ("ReuseHouseModel", "saying", "[J", true)
def tyX14 : Nat → FieldType := fun k => match k with
  | 0 => .int
  | 1 => .object "ReuseHouseModel$Stop"
  | 2 => .array .byte
  | 3 => .int
  | 4 => .int
  | 5 => .int
  | 6 => .int
  | 7 => .int
  | 8 => .int
  | 9 => .long
  | 10 => .object "ReuseHouseModel$Program"
  | 11 => .object "ReuseHouseModel$Program"
  | 12 => .boolean
  | 13 => .array .long
  | 14 => .int
  | 15 => .int
  | 16 => .int
  | 17 => .int
  | 18 => .int
  | 19 => .array .int
  | 20 => .array .int
  | 21 => .array .int
  | 22 => .array .int
  | 23 => .array .long
  | 24 => .int
  | 25 => .int
  | 26 => .int
  | 27 => .array .int
  | 28 => .array .long
  | 29 => .boolean
  | 30 => .boolean
  | 31 => .boolean
  | 32 => .boolean
  | 33 => .long
  | 34 => .long
  | 35 => .int
  | 36 => .int
  | 37 => .int
  | 38 => .int
  | 39 => .int
  | 40 => .int
  | 41 => .int
  | 42 => .array .byte
  | 43 => .array .int
  | 44 => .array .long
  | 45 => .int
  | 46 => .int
  | 47 => .int
  | 48 => .array .long
  | 49 => .array .int
  | 50 => .array .int
  | 51 => .array .int
  | 52 => .array .int
  | 53 => .int
  | 54 => .array .int
  | 55 => .array .int
  | 56 => .array .int
  | 57 => .array .long
  | 58 => .array .byte
  | 59 => .array .byte
  | 60 => .int
  | 61 => .int
  | _ => .array .long
abbrev wsX140 : List Cond := u_ws RX14 TX14 63
theorem nmX14 : ∀ a, a < 63 → ∀ b, b < 63 → a ≠ b → (TX14 a).2.1 ≠ (TX14 b).2.1 := by decide +kernel
theorem tyX14_ok : ∀ k, k < 63 → parseFieldDescriptor (TX14 k).2.2.1 = some (tyX14 k) := by decide +kernel
abbrev cX14_init : ByteArray := prog_14_method_1_code
def yX14_init : MethodName := ⟨RX14, "<init>", "()V"⟩
abbrev cX14_thrown : ByteArray := prog_14_method_2_code
def yX14_thrown : MethodName := ⟨RX14, "thrown", "()I"⟩
abbrev cX14_stop : ByteArray := prog_14_method_3_code
def yX14_stop : MethodName := ⟨RX14, "stop", "(II)LReuseHouseModel$Stop;"⟩
abbrev cX14_byteAt : ByteArray := prog_14_method_4_code
def yX14_byteAt : MethodName := ⟨RX14, "byteAt", "(I)I"⟩
abbrev cX14_isSmall : ByteArray := prog_14_method_5_code
def yX14_isSmall : MethodName := ⟨RX14, "isSmall", "(I)Z"⟩
abbrev cX14_isGreat : ByteArray := prog_14_method_6_code
def yX14_isGreat : MethodName := ⟨RX14, "isGreat", "(I)Z"⟩
abbrev cX14_isDigit : ByteArray := prog_14_method_7_code
def yX14_isDigit : MethodName := ⟨RX14, "isDigit", "(I)Z"⟩
abbrev cX14_lettersOf : ByteArray := prog_14_method_8_code
def yX14_lettersOf : MethodName := ⟨RX14, "lettersOf", "(Ljava/lang/String;)J"⟩
abbrev cX14_isKept : ByteArray := prog_14_method_9_code
def yX14_isKept : MethodName := ⟨RX14, "isKept", "(J)Z"⟩
abbrev cX14_next : ByteArray := prog_14_method_10_code
def yX14_next : MethodName := ⟨RX14, "next", "()V"⟩
abbrev cX14_is : ByteArray := prog_14_method_11_code
def yX14_is : MethodName := ⟨RX14, "is", "(I)Z"⟩
abbrev cX14_isWord : ByteArray := prog_14_method_12_code
def yX14_isWord : MethodName := ⟨RX14, "isWord", "(Ljava/lang/String;)Z"⟩
abbrev cX14_need : ByteArray := prog_14_method_13_code
def yX14_need : MethodName := ⟨RX14, "need", "(I)V"⟩
abbrev cX14_needWord : ByteArray := prog_14_method_14_code
def yX14_needWord : MethodName := ⟨RX14, "needWord", "(Ljava/lang/String;)V"⟩
abbrev cX14_part : ByteArray := prog_14_method_15_code
def yX14_part : MethodName := ⟨RX14, "part", "(II)I"⟩
abbrev cX14_slotOf : ByteArray := prog_14_method_16_code
def yX14_slotOf : MethodName := ⟨RX14, "slotOf", "(J)I"⟩
abbrev cX14_tells : ByteArray := prog_14_method_17_code
def yX14_tells : MethodName := ⟨RX14, "tells", "()I"⟩
abbrev cX14_kind : ByteArray := prog_14_method_18_code
def yX14_kind : MethodName := ⟨RX14, "kind", "()I"⟩
abbrev cX14_has : ByteArray := prog_14_method_19_code
def yX14_has : MethodName := ⟨RX14, "has", "(III)V"⟩
abbrev cX14_begins : ByteArray := prog_14_method_20_code
def yX14_begins : MethodName := ⟨RX14, "begins", "()Z"⟩
abbrev cX14_expr : ByteArray := prog_14_method_21_code
def yX14_expr : MethodName := ⟨RX14, "expr", "()I"⟩
abbrev cX14_let : ByteArray := prog_14_method_22_code
def yX14_let : MethodName := ⟨RX14, "let", "()I"⟩
abbrev cX14_ifs : ByteArray := prog_14_method_23_code
def yX14_ifs : MethodName := ⟨RX14, "ifs", "()I"⟩
abbrev cX14_match : ByteArray := prog_14_method_24_code
def yX14_match : MethodName := ⟨RX14, "match", "()I"⟩
abbrev cX14_isSeen : ByteArray := prog_14_method_25_code
def yX14_isSeen : MethodName := ⟨RX14, "isSeen", "(I)Z"⟩
abbrev cX14_fields : ByteArray := prog_14_method_26_code
def yX14_fields : MethodName := ⟨RX14, "fields", "()I"⟩
abbrev cX14_compared : ByteArray := prog_14_method_27_code
def yX14_compared : MethodName := ⟨RX14, "compared", "()I"⟩
abbrev cX14_both : ByteArray := prog_14_method_28_code
def yX14_both : MethodName := ⟨RX14, "both", "(IIII)I"⟩
abbrev cX14_sum : ByteArray := prog_14_method_29_code
def yX14_sum : MethodName := ⟨RX14, "sum", "()I"⟩
abbrev cX14_product : ByteArray := prog_14_method_30_code
def yX14_product : MethodName := ⟨RX14, "product", "()I"⟩
abbrev cX14_atom : ByteArray := prog_14_method_31_code
def yX14_atom : MethodName := ⟨RX14, "atom", "()I"⟩
abbrev cX14_arguments : ByteArray := prog_14_method_32_code
def yX14_arguments : MethodName := ⟨RX14, "arguments", "(I)I"⟩
abbrev cX14_named : ByteArray := prog_14_method_33_code
def yX14_named : MethodName := ⟨RX14, "named", "(I)I"⟩
abbrev cX14_functionOf : ByteArray := prog_14_method_34_code
def yX14_functionOf : MethodName := ⟨RX14, "functionOf", "(LReuseHouseModel$Program;J)I"⟩
abbrev cX14_reads : ByteArray := prog_14_method_35_code
def yX14_reads : MethodName := ⟨RX14, "reads", "()V"⟩
abbrev cX14_bit : ByteArray := prog_14_method_36_code
def yX14_bit : MethodName := ⟨RX14, "bit", "(I)I"⟩
abbrev cX14_ofArm : ByteArray := prog_14_method_37_code
def yX14_ofArm : MethodName := ⟨RX14, "ofArm", "(LReuseHouseModel$Program;I)I"⟩
abbrev cX14_needed : ByteArray := prog_14_method_38_code
def yX14_needed : MethodName := ⟨RX14, "needed", "(I)V"⟩
abbrev cX14_feed : ByteArray := prog_14_method_39_code
def yX14_feed : MethodName := ⟨RX14, "feed", "(IIIII)I"⟩
abbrev cX14_program : ByteArray := prog_14_method_40_code
def yX14_program : MethodName := ⟨RX14, "program", "(I)I"⟩
abbrev cX14_fault : ByteArray := prog_14_method_41_code
def yX14_fault : MethodName := ⟨RX14, "fault", "()I"⟩
abbrev cX14_where : ByteArray := prog_14_method_42_code
def yX14_where : MethodName := ⟨RX14, "where", "()I"⟩
abbrev cX14_about : ByteArray := prog_14_method_43_code
def yX14_about : MethodName := ⟨RX14, "about", "(II)I"⟩
abbrev cX14_isNeeded : ByteArray := prog_14_method_44_code
def yX14_isNeeded : MethodName := ⟨RX14, "isNeeded", "(II)Z"⟩
abbrev cX14_isMade : ByteArray := prog_14_method_45_code
def yX14_isMade : MethodName := ⟨RX14, "isMade", "(I)Z"⟩
abbrev cX14_isInt : ByteArray := prog_14_method_46_code
def yX14_isInt : MethodName := ⟨RX14, "isInt", "(J)Z"⟩
abbrev cX14_isCell : ByteArray := prog_14_method_47_code
def yX14_isCell : MethodName := ⟨RX14, "isCell", "(J)Z"⟩
abbrev cX14_ofInt : ByteArray := prog_14_method_48_code
def yX14_ofInt : MethodName := ⟨RX14, "ofInt", "(I)J"⟩
abbrev cX14_held : ByteArray := prog_14_method_49_code
def yX14_held : MethodName := ⟨RX14, "held", "()I"⟩
abbrev cX14_frees : ByteArray := prog_14_method_50_code
def yX14_frees : MethodName := ⟨RX14, "frees", "(I)V"⟩
abbrev cX14_doubles : ByteArray := prog_14_method_51_code
def yX14_doubles : MethodName := ⟨RX14, "doubles", "(J)V"⟩
abbrev cX14_drops : ByteArray := prog_14_method_52_code
def yX14_drops : MethodName := ⟨RX14, "drops", "(J)V"⟩
abbrev cX14_task : ByteArray := prog_14_method_53_code
def yX14_task : MethodName := ⟨RX14, "task", "(II)V"⟩
abbrev cX14_push : ByteArray := prog_14_method_54_code
def yX14_push : MethodName := ⟨RX14, "push", "(J)V"⟩
abbrev cX14_pop : ByteArray := prog_14_method_55_code
def yX14_pop : MethodName := ⟨RX14, "pop", "()J"⟩
abbrev cX14_call : ByteArray := prog_14_method_56_code
def yX14_call : MethodName := ⟨RX14, "call", "()I"⟩
abbrev cX14_gets : ByteArray := prog_14_method_57_code
def yX14_gets : MethodName := ⟨RX14, "gets", "(IJZ)V"⟩
abbrev cX14_wayBegins : ByteArray := prog_14_method_58_code
def yX14_wayBegins : MethodName := ⟨RX14, "wayBegins", "(I)V"⟩
abbrev cX14_enters : ByteArray := prog_14_method_59_code
def yX14_enters : MethodName := ⟨RX14, "enters", "(II)V"⟩
abbrev cX14_works : ByteArray := prog_14_method_60_code
def yX14_works : MethodName := ⟨RX14, "works", "(II)V"⟩
abbrev cX14_puts : ByteArray := prog_14_method_61_code
def yX14_puts : MethodName := ⟨RX14, "puts", "(I)V"⟩
abbrev cX14_does : ByteArray := prog_14_method_62_code
def yX14_does : MethodName := ⟨RX14, "does", "(I)V"⟩
abbrev cX14_makes : ByteArray := prog_14_method_63_code
def yX14_makes : MethodName := ⟨RX14, "makes", "(I)V"⟩
abbrev cX14_plainCell : ByteArray := prog_14_method_64_code
def yX14_plainCell : MethodName := ⟨RX14, "plainCell", "(I)I"⟩
abbrev cX14_cell : ByteArray := prog_14_method_65_code
def yX14_cell : MethodName := ⟨RX14, "cell", "(II)I"⟩
abbrev cX14_takesShell : ByteArray := prog_14_method_66_code
def yX14_takesShell : MethodName := ⟨RX14, "takesShell", "(I)V"⟩
abbrev cX14_matches : ByteArray := prog_14_method_67_code
def yX14_matches : MethodName := ⟨RX14, "matches", "(I)V"⟩
abbrev cX14_ends : ByteArray := prog_14_method_68_code
def yX14_ends : MethodName := ⟨RX14, "ends", "(I)V"⟩
abbrev cX14_worked : ByteArray := prog_14_method_69_code
def yX14_worked : MethodName := ⟨RX14, "worked", "(IIIIII)I"⟩
abbrev cX14_isGood : ByteArray := prog_14_method_70_code
def yX14_isGood : MethodName := ⟨RX14, "isGood", "(II)Z"⟩
abbrev cX14_run : ByteArray := prog_14_method_71_code
def yX14_run : MethodName := ⟨RX14, "run", "(IIIIIII)I"⟩
abbrev cX14_plain : ByteArray := prog_14_method_72_code
def yX14_plain : MethodName := ⟨RX14, "plain", "(IIIIII)I"⟩
abbrev cX14_say : ByteArray := prog_14_method_73_code
def yX14_say : MethodName := ⟨RX14, "say", "(I)V"⟩
abbrev cX14_sayInt : ByteArray := prog_14_method_74_code
def yX14_sayInt : MethodName := ⟨RX14, "sayInt", "(I)V"⟩
abbrev cX14_sayKind : ByteArray := prog_14_method_75_code
def yX14_sayKind : MethodName := ⟨RX14, "sayKind", "(I)V"⟩
abbrev cX14_says : ByteArray := prog_14_method_76_code
def yX14_says : MethodName := ⟨RX14, "says", "(JZ)V"⟩
abbrev cX14_show : ByteArray := prog_14_method_77_code
def yX14_show : MethodName := ⟨RX14, "show", "(Z)I"⟩
abbrev cX14_out : ByteArray := prog_14_method_78_code
def yX14_out : MethodName := ⟨RX14, "out", "(I)I"⟩
abbrev cX14_release : ByteArray := prog_14_method_79_code
def yX14_release : MethodName := ⟨RX14, "release", "()I"⟩
abbrev cX14_count : ByteArray := prog_14_method_80_code
def yX14_count : MethodName := ⟨RX14, "count", "(I)I"⟩
def RJ11 : String := "java/lang/Character"
def TJ11 : u_T := fun k => match k with
  | _ => ("", "", "", false)
def tyJ11 : Nat → FieldType := fun k => match k with
  | _ => .int
abbrev wsJ110 : List Cond := u_ws RJ11 TJ11 0
theorem nmJ11 : ∀ a, a < 0 → ∀ b, b < 0 → a ≠ b → (TJ11 a).2.1 ≠ (TJ11 b).2.1 := by decide +kernel
theorem tyJ11_ok : ∀ k, k < 0 → parseFieldDescriptor (TJ11 k).2.2.1 = some (tyJ11 k) := by decide +kernel
abbrev cJ11_isValidCodePoint_9a6ad : ByteArray := prog_17_method_11_code
def yJ11_isValidCodePoint_9a6ad : MethodName := ⟨RJ11, "isValidCodePoint", "(I)Z"⟩
abbrev cJ11_highSurrogate_5068e : ByteArray := prog_17_method_28_code
def yJ11_highSurrogate_5068e : MethodName := ⟨RJ11, "highSurrogate", "(I)C"⟩
abbrev cJ11_lowSurrogate_5068e : ByteArray := prog_17_method_29_code
def yJ11_lowSurrogate_5068e : MethodName := ⟨RJ11, "lowSurrogate", "(I)C"⟩
def RJ9 : String := "java/lang/Math"
def TJ9 : u_T := fun k => match k with
  | _ => ("", "", "", false)
def tyJ9 : Nat → FieldType := fun k => match k with
  | _ => .int
abbrev wsJ90 : List Cond := u_ws RJ9 TJ9 0
theorem nmJ9 : ∀ a, a < 0 → ∀ b, b < 0 → a ≠ b → (TJ9 a).2.1 ≠ (TJ9 b).2.1 := by decide +kernel
theorem tyJ9_ok : ∀ k, k < 0 → parseFieldDescriptor (TJ9 k).2.2.1 = some (tyJ9 k) := by decide +kernel
abbrev cJ9_max_7cf53 : ByteArray := prog_20_method_65_code
def yJ9_max_7cf53 : MethodName := ⟨RJ9, "max", "(II)I"⟩
abbrev cJ9_min_7cf53 : ByteArray := prog_20_method_69_code
def yJ9_min_7cf53 : MethodName := ⟨RJ9, "min", "(II)I"⟩
def RJ0 : String := "java/lang/String"
def TJ0 : u_T := fun k => match k with
  | _ => ("", "", "", false)
def tyJ0 : Nat → FieldType := fun k => match k with
  | _ => .int
abbrev wsJ00 : List Cond := u_ws RJ0 TJ0 0
theorem nmJ0 : ∀ a, a < 0 → ∀ b, b < 0 → a ≠ b → (TJ0 a).2.1 ≠ (TJ0 b).2.1 := by decide +kernel
theorem tyJ0_ok : ∀ k, k < 0 → parseFieldDescriptor (TJ0 k).2.2.1 = some (tyJ0 k) := by decide +kernel
abbrev cJ0_length_8abf5 : ByteArray := prog_22_method_54_code
def yJ0_length_8abf5 : MethodName := ⟨RJ0, "length", "()I"⟩
abbrev cJ0_charAt_5068e : ByteArray := prog_22_method_56_code
def yJ0_charAt_5068e : MethodName := ⟨RJ0, "charAt", "(I)C"⟩
abbrev cJ0_indexOf_0f7a4 : ByteArray := prog_22_method_79_code
def yJ0_indexOf_0f7a4 : MethodName := ⟨RJ0, "indexOf", "(I)I"⟩
abbrev cJ0_indexOf_7cf53 : ByteArray := prog_22_method_80_code
def yJ0_indexOf_7cf53 : MethodName := ⟨RJ0, "indexOf", "(II)I"⟩
abbrev cJ0_coder_7d493 : ByteArray := prog_22_method_152_code
def yJ0_coder_7d493 : MethodName := ⟨RJ0, "coder", "()B"⟩
abbrev cJ0_isLatin1_aae02 : ByteArray := prog_22_method_154_code
def yJ0_isLatin1_aae02 : MethodName := ⟨RJ0, "isLatin1", "()Z"⟩
abbrev cJ0_checkIndex_df160 : ByteArray := prog_22_method_155_code
def yJ0_checkIndex_df160 : MethodName := ⟨RJ0, "checkIndex", "(II)V"⟩
abbrev cJ0_checkBoundsBeginEnd_23922 : ByteArray := prog_22_method_158_code
def yJ0_checkBoundsBeginEnd_23922 : MethodName := ⟨RJ0, "checkBoundsBeginEnd", "(III)V"⟩
def RJ1 : String := "java/lang/StringLatin1"
def TJ1 : u_T := fun k => match k with
  | _ => ("", "", "", false)
def tyJ1 : Nat → FieldType := fun k => match k with
  | _ => .int
abbrev wsJ10 : List Cond := u_ws RJ1 TJ1 0
theorem nmJ1 : ∀ a, a < 0 → ∀ b, b < 0 → a ≠ b → (TJ1 a).2.1 ≠ (TJ1 b).2.1 := by decide +kernel
theorem tyJ1_ok : ∀ k, k < 0 → parseFieldDescriptor (TJ1 k).2.2.1 = some (tyJ1 k) := by decide +kernel
abbrev cJ1_charAt_3b067 : ByteArray := prog_23_method_2_code
def yJ1_charAt_3b067 : MethodName := ⟨RJ1, "charAt", "([BI)C"⟩
abbrev cJ1_canEncode_9a6ad : ByteArray := prog_23_method_4_code
def yJ1_canEncode_9a6ad : MethodName := ⟨RJ1, "canEncode", "(I)Z"⟩
abbrev cJ1_indexOf_4cfef : ByteArray := prog_23_method_22_code
def yJ1_indexOf_4cfef : MethodName := ⟨RJ1, "indexOf", "([BIII)I"⟩
abbrev cJ1_indexOfChar_4cfef : ByteArray := prog_23_method_23_code
def yJ1_indexOfChar_4cfef : MethodName := ⟨RJ1, "indexOfChar", "([BIII)I"⟩
def RJ2 : String := "java/lang/StringUTF16"
def TJ2 : u_T := fun k => match k with
  | _ => ("", "", "", false)
def tyJ2 : Nat → FieldType := fun k => match k with
  | _ => .int
abbrev wsJ20 : List Cond := u_ws RJ2 TJ2 0
theorem nmJ2 : ∀ a, a < 0 → ∀ b, b < 0 → a ≠ b → (TJ2 a).2.1 ≠ (TJ2 b).2.1 := by decide +kernel
theorem tyJ2_ok : ∀ k, k < 0 → parseFieldDescriptor (TJ2 k).2.2.1 = some (tyJ2 k) := by decide +kernel
abbrev cJ2_getChar_3b067 : ByteArray := prog_24_method_5_code
def yJ2_getChar_3b067 : MethodName := ⟨RJ2, "getChar", "([BI)C"⟩
abbrev cJ2_length_9d52b : ByteArray := prog_24_method_6_code
def yJ2_length_9d52b : MethodName := ⟨RJ2, "length", "([B)I"⟩
abbrev cJ2_indexOf_4cfef : ByteArray := prog_24_method_40_code
def yJ2_indexOf_4cfef : MethodName := ⟨RJ2, "indexOf", "([BIII)I"⟩
abbrev cJ2_indexOfChar_4cfef : ByteArray := prog_24_method_47_code
def yJ2_indexOfChar_4cfef : MethodName := ⟨RJ2, "indexOfChar", "([BIII)I"⟩
abbrev cJ2_indexOfCharUnsafe_4cfef : ByteArray := prog_24_method_48_code
def yJ2_indexOfCharUnsafe_4cfef : MethodName := ⟨RJ2, "indexOfCharUnsafe", "([BIII)I"⟩
abbrev cJ2_indexOfSupplementary_4cfef : ByteArray := prog_24_method_49_code
def yJ2_indexOfSupplementary_4cfef : MethodName := ⟨RJ2, "indexOfSupplementary", "([BIII)I"⟩
abbrev cJ2_charAt_3b067 : ByteArray := prog_24_method_83_code
def yJ2_charAt_3b067 : MethodName := ⟨RJ2, "charAt", "([BI)C"⟩
abbrev cJ2_checkIndex_2214a : ByteArray := prog_24_method_91_code
def yJ2_checkIndex_2214a : MethodName := ⟨RJ2, "checkIndex", "(I[B)V"⟩
abbrev cJ2_checkBoundsBeginEnd_d044e : ByteArray := prog_24_method_93_code
def yJ2_checkBoundsBeginEnd_d044e : MethodName := ⟨RJ2, "checkBoundsBeginEnd", "(II[B)V"⟩
def RJ3 : String := "jdk/internal/util/Preconditions"
def TJ3 : u_T := fun k => match k with
  | _ => ("", "", "", false)
def tyJ3 : Nat → FieldType := fun k => match k with
  | _ => .int
abbrev wsJ30 : List Cond := u_ws RJ3 TJ3 0
theorem nmJ3 : ∀ a, a < 0 → ∀ b, b < 0 → a ≠ b → (TJ3 a).2.1 ≠ (TJ3 b).2.1 := by decide +kernel
theorem tyJ3_ok : ∀ k, k < 0 → parseFieldDescriptor (TJ3 k).2.2.1 = some (tyJ3 k) := by decide +kernel
abbrev cJ3_checkIndex_8e157 : ByteArray := prog_27_method_11_code
def yJ3_checkIndex_8e157 : MethodName := ⟨RJ3, "checkIndex", "(IILjava/util/function/BiFunction;)I"⟩
abbrev cJ3_checkFromToIndex_8c36e : ByteArray := prog_27_method_12_code
def yJ3_checkFromToIndex_8c36e : MethodName := ⟨RJ3, "checkFromToIndex", "(IIILjava/util/function/BiFunction;)I"⟩
def RL : String := "ReuseHouseLaw"
abbrev cL_out : ByteArray := method_3_code
def yL_out : MethodName := ⟨RL, "out", "(LReuseHouse;I[J)I"⟩
abbrev cL_law : ByteArray := code
def yL_law : MethodName := ⟨RL, "law", "([I)Z"⟩
def wsJ0_isLatin1_aae02 : List Cond := .code yJ0_isLatin1_aae02 cJ0_isLatin1_aae02 1 (some .boolean) :: ([.fieldLink RJ0 38 "java/lang/String" "COMPACT_STRINGS" "Z", .fieldLink RJ0 15 "java/lang/String" "coder" "B"])
theorem dJ0_isLatin1_aae02_0 : decode cJ0_isLatin1_aae02 0 = .ok (.getstatic 38, 3) := by decide +kernel
theorem dJ0_isLatin1_aae02_3 : decode cJ0_isLatin1_aae02 3 = .ok (.ifCond .eq 14, 3) := by decide +kernel
theorem dJ0_isLatin1_aae02_6 : decode cJ0_isLatin1_aae02 6 = .ok (.aload_n 0, 1) := by decide +kernel
theorem dJ0_isLatin1_aae02_7 : decode cJ0_isLatin1_aae02 7 = .ok (.getfield 15, 3) := by decide +kernel
theorem dJ0_isLatin1_aae02_10 : decode cJ0_isLatin1_aae02 10 = .ok (.ifCond .ne 7, 3) := by decide +kernel
theorem dJ0_isLatin1_aae02_13 : decode cJ0_isLatin1_aae02 13 = .ok (.iconst 1, 1) := by decide +kernel
theorem dJ0_isLatin1_aae02_14 : decode cJ0_isLatin1_aae02 14 = .ok (.goto 4, 3) := by decide +kernel
theorem dJ0_isLatin1_aae02_17 : decode cJ0_isLatin1_aae02 17 = .ok (.iconst 0, 1) := by decide +kernel
theorem dJ0_isLatin1_aae02_18 : decode cJ0_isLatin1_aae02 18 = .ok (.ireturn, 1) := by decide +kernel
abbrev vwCl : List vw_C := [(RX0, TX0, 7), (RX1, TX1, 13), (RX2, TX2, 8), (RX3, TX3, 4), (RX4, TX4, 3), (RX5, TX5, 20), (RX6, TX6, 1), (RX7, TX7, 9), (RX8, TX8, 8), (RX9, TX9, 4), (RX10, TX10, 8), (RX11, TX11, 17), (RX12, TX12, 22), (RX13, TX13, 8), (RX14, TX14, 63)]
end
section
def wsX0_init : List Cond := .code yX0_init cX0_init 1 none :: ([.methodLink RX0 3 objectInit, .instanceMethod objectInit, .code objectInit ⟨#[0xb1]⟩ 1 none, .arrayClass .int, .fieldLink RX0 9 "ReuseHouse$Arms" "kind" "[I", .fieldLink RX0 15 "ReuseHouse$Arms" "next" "[I", .fieldLink RX0 18 "ReuseHouse$Arms" "before" "[I", .fieldLink RX0 21 "ReuseHouse$Arms" "leave" "[I", .fieldLink RX0 24 "ReuseHouse$Arms" "firstSlot" "[I", .fieldLink RX0 27 "ReuseHouse$Arms" "builds" "[I", .fieldLink RX0 30 "ReuseHouse$Arms" "size" "I"] ++ wsX00)
def wsX4_init : List Cond := .code yX4_init cX4_init 1 none :: ([.methodLink RX4 3 objectInit, .instanceMethod objectInit, .code objectInit ⟨#[0xb1]⟩ 1 none, .arrayClass .long, .fieldLink RX4 9 "ReuseHouse$Kinds" "word" "[J", .arrayClass .int, .fieldLink RX4 15 "ReuseHouse$Kinds" "fields" "[I", .fieldLink RX4 19 "ReuseHouse$Kinds" "size" "I"] ++ wsX40)
def wsX1_init_r1 : List Cond := [Cond.methodLink RX1 3 objectInit, Cond.instanceMethod objectInit, Cond.code objectInit ⟨#[0xb1]⟩ 1 none, Cond.fieldLink RX1 9 "ReuseHouse$Cells" "limit" "I", Cond.fieldLink RX1 15 "ReuseHouse$Cells" "fresh" "I", Cond.fieldLink RX1 18 "ReuseHouse$Cells" "firstFree" "I", Cond.fieldLink RX1 21 "ReuseHouse$Cells" "held" "I", Cond.fieldLink RX1 24 "ReuseHouse$Cells" "mostHeld" "I", Cond.fieldLink RX1 27 "ReuseHouse$Cells" "made" "I", Cond.fieldLink RX1 30 "ReuseHouse$Cells" "reused" "I", Cond.fieldLink RX1 33 "ReuseHouse$Cells" "freed" "I", Cond.fieldLink RX1 36 "ReuseHouse$Cells" "doubled" "I", Cond.methodLink RX1 39 Lib.Math.max.name, Cond.static Lib.Math.max.name, Cond.initialized "java/lang/Math", Cond.code Lib.Math.max.name Lib.Math.max.code 2 (some .int), Cond.arrayClass .int, Cond.fieldLink RX1 45 "ReuseHouse$Cells" "kind" "[I", Cond.fieldLink RX1 49 "ReuseHouse$Cells" "count" "[I", Cond.arrayClass .long, Cond.fieldLink RX1 52 "ReuseHouse$Cells" "fields" "[J", Cond.classLink RX1 56 RX4, Cond.instantiable RX4 3, Cond.initialized RX4]
def wsX1_init_r2 : List Cond := [Cond.fieldLink RX1 59 "ReuseHouse$Cells" "kinds" "LReuseHouse$Kinds;", Cond.instanceMethod yX4_init, Cond.code yX4_init cX4_init 1 none, Cond.methodLink RX4 3 objectInit, Cond.fieldLink RX4 9 "ReuseHouse$Kinds" "word" "[J", Cond.fieldLink RX4 15 "ReuseHouse$Kinds" "fields" "[I", Cond.fieldLink RX4 19 "ReuseHouse$Kinds" "size" "I"]
def wsX1_init : List Cond := .code yX1_init cX1_init 3 none :: ((wsX1_init_r1 ++ wsX1_init_r2) ++ wsX10 ++ wsX40)
def wsX2_init : List Cond := .code yX2_init cX2_init 1 none :: ([.methodLink RX2 3 objectInit, .instanceMethod objectInit, .code objectInit ⟨#[0xb1]⟩ 1 none, .arrayClass .int, .fieldLink RX2 9 "ReuseHouse$Code" "op" "[I", .fieldLink RX2 15 "ReuseHouse$Code" "a" "[I", .fieldLink RX2 18 "ReuseHouse$Code" "b" "[I", .fieldLink RX2 21 "ReuseHouse$Code" "place" "[I", .fieldLink RX2 24 "ReuseHouse$Code" "next" "[I", .fieldLink RX2 27 "ReuseHouse$Code" "needed" "[I", .fieldLink RX2 30 "ReuseHouse$Code" "size" "I", .fieldLink RX2 34 "ReuseHouse$Code" "tail" "I"] ++ wsX20)
def wsX2_clear : List Cond := .code yX2_clear cX2_clear 1 none :: ([.fieldLink RX2 30 "ReuseHouse$Code" "size" "I", .fieldLink RX2 34 "ReuseHouse$Code" "tail" "I"] ++ wsX20)
def wsX3_init : List Cond := .code yX3_init cX3_init 1 none :: ([.methodLink RX3 3 objectInit, .instanceMethod objectInit, .code objectInit ⟨#[0xb1]⟩ 1 none, .arrayClass .long, .fieldLink RX3 9 "ReuseHouse$Functions" "word" "[J", .arrayClass .int, .fieldLink RX3 15 "ReuseHouse$Functions" "enter" "[I", .fieldLink RX3 19 "ReuseHouse$Functions" "facts" "[I", .fieldLink RX3 22 "ReuseHouse$Functions" "size" "I"] ++ wsX30)
def wsX3_has : List Cond := .code yX3_has cX3_has 2 (some .boolean) :: ([.fieldLink RX3 22 "ReuseHouse$Functions" "size" "I"] ++ wsX30)
def wsX5_init_r1 : List Cond := [Cond.methodLink RX5 3 objectInit, Cond.instanceMethod objectInit, Cond.code objectInit ⟨#[0xb1]⟩ 1 none, Cond.fieldLink RX5 9 "ReuseHouse$Machine" "counted" "Z", Cond.arrayClass .long, Cond.fieldLink RX5 15 "ReuseHouse$Machine" "stack" "[J", Cond.fieldLink RX5 19 "ReuseHouse$Machine" "top" "I", Cond.fieldLink RX5 23 "ReuseHouse$Machine" "base" "I", Cond.arrayClass .int, Cond.fieldLink RX5 26 "ReuseHouse$Machine" "callBase" "[I", Cond.fieldLink RX5 30 "ReuseHouse$Machine" "callBack" "[I", Cond.fieldLink RX5 33 "ReuseHouse$Machine" "callShells" "[I", Cond.fieldLink RX5 36 "ReuseHouse$Machine" "open" "I", Cond.fieldLink RX5 39 "ReuseHouse$Machine" "shells" "[I", Cond.fieldLink RX5 42 "ReuseHouse$Machine" "shellTop" "I", Cond.fieldLink RX5 45 "ReuseHouse$Machine" "at" "I", Cond.fieldLink RX5 48 "ReuseHouse$Machine" "allowed" "I", Cond.fieldLink RX5 51 "ReuseHouse$Machine" "steps" "I", Cond.fieldLink RX5 54 "ReuseHouse$Machine" "mostOpen" "I", Cond.fieldLink RX5 57 "ReuseHouse$Machine" "how" "I", Cond.fieldLink RX5 60 "ReuseHouse$Machine" "stopPlace" "I", Cond.fieldLink RX5 63 "ReuseHouse$Machine" "result" "J", Cond.fieldLink RX5 67 "ReuseHouse$Machine" "program" "LReuseHouse$Program;", Cond.fieldLink RX5 71 "ReuseHouse$Program" "code" "LReuseHouse$Code;"]
def wsX5_init_r2 : List Cond := [Cond.fieldLink RX5 77 "ReuseHouse$Machine" "code" "LReuseHouse$Code;", Cond.classLink RX5 78 RX1, Cond.instantiable RX1 13, Cond.initialized RX1, Cond.fieldLink RX5 83 "ReuseHouse$Machine" "cells" "LReuseHouse$Cells;", Cond.methodLink RX5 80 yX1_init, Cond.instanceMethod yX1_init, Cond.code yX1_init cX1_init 3 none, Cond.methodLink RX1 3 objectInit, Cond.fieldLink RX1 9 "ReuseHouse$Cells" "limit" "I", Cond.fieldLink RX1 15 "ReuseHouse$Cells" "fresh" "I", Cond.fieldLink RX1 18 "ReuseHouse$Cells" "firstFree" "I", Cond.fieldLink RX1 21 "ReuseHouse$Cells" "held" "I", Cond.fieldLink RX1 24 "ReuseHouse$Cells" "mostHeld" "I", Cond.fieldLink RX1 27 "ReuseHouse$Cells" "made" "I", Cond.fieldLink RX1 30 "ReuseHouse$Cells" "reused" "I", Cond.fieldLink RX1 33 "ReuseHouse$Cells" "freed" "I", Cond.fieldLink RX1 36 "ReuseHouse$Cells" "doubled" "I", Cond.methodLink RX1 39 Lib.Math.max.name, Cond.static Lib.Math.max.name, Cond.initialized "java/lang/Math", Cond.code Lib.Math.max.name Lib.Math.max.code 2 (some .int), Cond.fieldLink RX1 45 "ReuseHouse$Cells" "kind" "[I", Cond.fieldLink RX1 49 "ReuseHouse$Cells" "count" "[I"]
def wsX5_init_r3 : List Cond := [Cond.fieldLink RX1 52 "ReuseHouse$Cells" "fields" "[J", Cond.classLink RX1 56 RX4, Cond.instantiable RX4 3, Cond.initialized RX4, Cond.fieldLink RX1 59 "ReuseHouse$Cells" "kinds" "LReuseHouse$Kinds;", Cond.instanceMethod yX4_init, Cond.code yX4_init cX4_init 1 none, Cond.methodLink RX4 3 objectInit, Cond.fieldLink RX4 9 "ReuseHouse$Kinds" "word" "[J", Cond.fieldLink RX4 15 "ReuseHouse$Kinds" "fields" "[I", Cond.fieldLink RX4 19 "ReuseHouse$Kinds" "size" "I"]
def wsX5_init : List Cond := .code yX5_init cX5_init 2 none :: ((wsX5_init_r1 ++ (wsX5_init_r2 ++ wsX5_init_r3)) ++ wsX50 ++ wsX90 ++ wsX10 ++ wsX40)
def wsX6_init : List Cond := .code yX6_init cX6_init 1 none :: ([.methodLink RX6 3 objectInit, .instanceMethod objectInit, .code objectInit ⟨#[0xb1]⟩ 1 none, .arrayClass .int, .fieldLink RX6 9 "ReuseHouse$Needs" "order" "[I"] ++ wsX60)
def wsX10_init : List Cond := .code yX10_init cX10_init 1 none :: ([.methodLink RX10 3 objectInit, .instanceMethod objectInit, .code objectInit ⟨#[0xb1]⟩ 1 none, .arrayClass .int, .fieldLink RX10 9 "ReuseHouse$Tokens" "sorts" "[I", .fieldLink RX10 15 "ReuseHouse$Tokens" "places" "[I", .arrayClass .long, .fieldLink RX10 18 "ReuseHouse$Tokens" "words" "[J", .fieldLink RX10 22 "ReuseHouse$Tokens" "size" "I", .fieldLink RX10 26 "ReuseHouse$Tokens" "at" "I", .fieldLink RX10 29 "ReuseHouse$Tokens" "sort" "I", .fieldLink RX10 32 "ReuseHouse$Tokens" "place" "I", .fieldLink RX10 35 "ReuseHouse$Tokens" "word" "J"] ++ wsX100)
def wsX9_init_r1 : List Cond := [Cond.methodLink RX9 1 objectInit, Cond.instanceMethod objectInit, Cond.code objectInit ⟨#[0xb1]⟩ 1 none, Cond.classLink RX9 7 RX2, Cond.instantiable RX2 8, Cond.initialized RX2, Cond.fieldLink RX9 10 "ReuseHouse$Program" "code" "LReuseHouse$Code;", Cond.classLink RX9 16 RX0, Cond.instantiable RX0 7, Cond.initialized RX0, Cond.fieldLink RX9 19 "ReuseHouse$Program" "arms" "LReuseHouse$Arms;", Cond.classLink RX9 23 RX4, Cond.instantiable RX4 3, Cond.initialized RX4, Cond.fieldLink RX9 26 "ReuseHouse$Program" "kinds" "LReuseHouse$Kinds;", Cond.classLink RX9 30 RX3, Cond.instantiable RX3 4, Cond.initialized RX3, Cond.fieldLink RX9 33 "ReuseHouse$Program" "functions" "LReuseHouse$Functions;", Cond.instanceMethod yX2_init, Cond.code yX2_init cX2_init 1 none, Cond.methodLink RX2 3 objectInit, Cond.arrayClass .int, Cond.fieldLink RX2 9 "ReuseHouse$Code" "op" "[I"]
def wsX9_init_r2 : List Cond := [Cond.fieldLink RX2 15 "ReuseHouse$Code" "a" "[I", Cond.fieldLink RX2 18 "ReuseHouse$Code" "b" "[I", Cond.fieldLink RX2 21 "ReuseHouse$Code" "place" "[I", Cond.fieldLink RX2 24 "ReuseHouse$Code" "next" "[I", Cond.fieldLink RX2 27 "ReuseHouse$Code" "needed" "[I", Cond.fieldLink RX2 30 "ReuseHouse$Code" "size" "I", Cond.fieldLink RX2 34 "ReuseHouse$Code" "tail" "I", Cond.instanceMethod yX0_init, Cond.code yX0_init cX0_init 1 none, Cond.methodLink RX0 3 objectInit, Cond.fieldLink RX0 9 "ReuseHouse$Arms" "kind" "[I", Cond.fieldLink RX0 15 "ReuseHouse$Arms" "next" "[I", Cond.fieldLink RX0 18 "ReuseHouse$Arms" "before" "[I", Cond.fieldLink RX0 21 "ReuseHouse$Arms" "leave" "[I", Cond.fieldLink RX0 24 "ReuseHouse$Arms" "firstSlot" "[I", Cond.fieldLink RX0 27 "ReuseHouse$Arms" "builds" "[I", Cond.fieldLink RX0 30 "ReuseHouse$Arms" "size" "I", Cond.instanceMethod yX4_init, Cond.code yX4_init cX4_init 1 none, Cond.methodLink RX4 3 objectInit, Cond.arrayClass .long, Cond.fieldLink RX4 9 "ReuseHouse$Kinds" "word" "[J", Cond.fieldLink RX4 15 "ReuseHouse$Kinds" "fields" "[I", Cond.fieldLink RX4 19 "ReuseHouse$Kinds" "size" "I"]
def wsX9_init_r3 : List Cond := [Cond.instanceMethod yX3_init, Cond.code yX3_init cX3_init 1 none, Cond.methodLink RX3 3 objectInit, Cond.fieldLink RX3 9 "ReuseHouse$Functions" "word" "[J", Cond.fieldLink RX3 15 "ReuseHouse$Functions" "enter" "[I", Cond.fieldLink RX3 19 "ReuseHouse$Functions" "facts" "[I", Cond.fieldLink RX3 22 "ReuseHouse$Functions" "size" "I"]
def wsX9_init : List Cond := .code yX9_init cX9_init 1 none :: ((wsX9_init_r1 ++ (wsX9_init_r2 ++ wsX9_init_r3)) ++ wsX20 ++ wsX90 ++ wsX00 ++ wsX40 ++ wsX30)
def wsX7_init_r1 : List Cond := [Cond.methodLink RX7 3 objectInit, Cond.instanceMethod objectInit, Cond.code objectInit ⟨#[0xb1]⟩ 1 none, Cond.classLink RX7 9 RX10, Cond.instantiable RX10 8, Cond.initialized RX10, Cond.fieldLink RX7 12 "ReuseHouse$Parser" "tokens" "LReuseHouse$Tokens;", Cond.classLink RX7 18 RX6, Cond.instantiable RX6 1, Cond.initialized RX6, Cond.fieldLink RX7 21 "ReuseHouse$Parser" "needs" "LReuseHouse$Needs;", Cond.arrayClass .long, Cond.fieldLink RX7 25 "ReuseHouse$Parser" "names" "[J", Cond.fieldLink RX7 29 "ReuseHouse$Parser" "around" "I", Cond.arrayClass .int, Cond.fieldLink RX7 33 "ReuseHouse$Parser" "built" "[I", Cond.classLink RX7 37 RX9, Cond.instantiable RX9 4, Cond.initialized RX9, Cond.fieldLink RX7 40 "ReuseHouse$Parser" "draft" "LReuseHouse$Program;", Cond.fieldLink RX7 44 "ReuseHouse$Parser" "function" "I", Cond.fieldLink RX7 47 "ReuseHouse$Parser" "faultNumber" "I", Cond.fieldLink RX7 50 "ReuseHouse$Parser" "faultPlace" "I", Cond.instanceMethod yX10_init]
def wsX7_init_r2 : List Cond := [Cond.code yX10_init cX10_init 1 none, Cond.methodLink RX10 3 objectInit, Cond.fieldLink RX10 9 "ReuseHouse$Tokens" "sorts" "[I", Cond.fieldLink RX10 15 "ReuseHouse$Tokens" "places" "[I", Cond.fieldLink RX10 18 "ReuseHouse$Tokens" "words" "[J", Cond.fieldLink RX10 22 "ReuseHouse$Tokens" "size" "I", Cond.fieldLink RX10 26 "ReuseHouse$Tokens" "at" "I", Cond.fieldLink RX10 29 "ReuseHouse$Tokens" "sort" "I", Cond.fieldLink RX10 32 "ReuseHouse$Tokens" "place" "I", Cond.fieldLink RX10 35 "ReuseHouse$Tokens" "word" "J", Cond.instanceMethod yX6_init, Cond.code yX6_init cX6_init 1 none, Cond.methodLink RX6 3 objectInit, Cond.fieldLink RX6 9 "ReuseHouse$Needs" "order" "[I", Cond.instanceMethod yX9_init, Cond.code yX9_init cX9_init 1 none, Cond.methodLink RX9 1 objectInit, Cond.classLink RX9 7 RX2, Cond.instantiable RX2 8, Cond.initialized RX2, Cond.fieldLink RX9 10 "ReuseHouse$Program" "code" "LReuseHouse$Code;", Cond.classLink RX9 16 RX0, Cond.instantiable RX0 7, Cond.initialized RX0]
def wsX7_init_r3 : List Cond := [Cond.fieldLink RX9 19 "ReuseHouse$Program" "arms" "LReuseHouse$Arms;", Cond.classLink RX9 23 RX4, Cond.instantiable RX4 3, Cond.initialized RX4, Cond.fieldLink RX9 26 "ReuseHouse$Program" "kinds" "LReuseHouse$Kinds;", Cond.classLink RX9 30 RX3, Cond.instantiable RX3 4, Cond.initialized RX3, Cond.fieldLink RX9 33 "ReuseHouse$Program" "functions" "LReuseHouse$Functions;", Cond.instanceMethod yX2_init, Cond.code yX2_init cX2_init 1 none, Cond.methodLink RX2 3 objectInit, Cond.fieldLink RX2 9 "ReuseHouse$Code" "op" "[I", Cond.fieldLink RX2 15 "ReuseHouse$Code" "a" "[I", Cond.fieldLink RX2 18 "ReuseHouse$Code" "b" "[I", Cond.fieldLink RX2 21 "ReuseHouse$Code" "place" "[I", Cond.fieldLink RX2 24 "ReuseHouse$Code" "next" "[I", Cond.fieldLink RX2 27 "ReuseHouse$Code" "needed" "[I", Cond.fieldLink RX2 30 "ReuseHouse$Code" "size" "I", Cond.fieldLink RX2 34 "ReuseHouse$Code" "tail" "I", Cond.instanceMethod yX0_init, Cond.code yX0_init cX0_init 1 none, Cond.methodLink RX0 3 objectInit, Cond.fieldLink RX0 9 "ReuseHouse$Arms" "kind" "[I"]
def wsX7_init_r4 : List Cond := [Cond.fieldLink RX0 15 "ReuseHouse$Arms" "next" "[I", Cond.fieldLink RX0 18 "ReuseHouse$Arms" "before" "[I", Cond.fieldLink RX0 21 "ReuseHouse$Arms" "leave" "[I", Cond.fieldLink RX0 24 "ReuseHouse$Arms" "firstSlot" "[I", Cond.fieldLink RX0 27 "ReuseHouse$Arms" "builds" "[I", Cond.fieldLink RX0 30 "ReuseHouse$Arms" "size" "I", Cond.instanceMethod yX4_init, Cond.code yX4_init cX4_init 1 none, Cond.methodLink RX4 3 objectInit, Cond.fieldLink RX4 9 "ReuseHouse$Kinds" "word" "[J", Cond.fieldLink RX4 15 "ReuseHouse$Kinds" "fields" "[I", Cond.fieldLink RX4 19 "ReuseHouse$Kinds" "size" "I", Cond.instanceMethod yX3_init, Cond.code yX3_init cX3_init 1 none, Cond.methodLink RX3 3 objectInit, Cond.fieldLink RX3 9 "ReuseHouse$Functions" "word" "[J", Cond.fieldLink RX3 15 "ReuseHouse$Functions" "enter" "[I", Cond.fieldLink RX3 19 "ReuseHouse$Functions" "facts" "[I", Cond.fieldLink RX3 22 "ReuseHouse$Functions" "size" "I"]
def wsX7_init : List Cond := .code yX7_init cX7_init 1 none :: ((wsX7_init_r1 ++ (wsX7_init_r2 ++ (wsX7_init_r3 ++ wsX7_init_r4))) ++ wsX100 ++ wsX70 ++ wsX60 ++ wsX90 ++ wsX20 ++ wsX00 ++ wsX40 ++ wsX30)
def wsX10_advance : List Cond := .code yX10_advance cX10_advance 1 none :: ([.fieldLink RX10 26 "ReuseHouse$Tokens" "at" "I", .fieldLink RX10 22 "ReuseHouse$Tokens" "size" "I", .methodLink RX10 39 Lib.Math.min.name, .static Lib.Math.min.name, .initialized "java/lang/Math", .code Lib.Math.min.name Lib.Math.min.code 2 (some .int), .fieldLink RX10 9 "ReuseHouse$Tokens" "sorts" "[I", .fieldLink RX10 29 "ReuseHouse$Tokens" "sort" "I", .fieldLink RX10 15 "ReuseHouse$Tokens" "places" "[I", .fieldLink RX10 32 "ReuseHouse$Tokens" "place" "I", .fieldLink RX10 18 "ReuseHouse$Tokens" "words" "[J", .fieldLink RX10 35 "ReuseHouse$Tokens" "word" "J"] ++ wsX100)
def wsX10_read_r1 : List Cond := [Cond.methodLink RX10 39 Lib.Math.min.name, Cond.static Lib.Math.min.name, Cond.initialized "java/lang/Math", Cond.code Lib.Math.min.name Lib.Math.min.code 2 (some .int), Cond.methodLink RX10 45 Lib.Math.max.name, Cond.static Lib.Math.max.name, Cond.code Lib.Math.max.name Lib.Math.max.code 2 (some .int), Cond.fieldLink RX10 22 "ReuseHouse$Tokens" "size" "I", Cond.fieldLink RX10 15 "ReuseHouse$Tokens" "places" "[I", Cond.fieldLink RX10 9 "ReuseHouse$Tokens" "sorts" "[I", Cond.fieldLink RX10 18 "ReuseHouse$Tokens" "words" "[J", Cond.fieldLink RX10 26 "ReuseHouse$Tokens" "at" "I", Cond.methodLink RX10 48 yX10_isWordByte, Cond.static yX10_isWordByte, Cond.initialized RX10, Cond.code yX10_isWordByte cX10_isWordByte 1 (some .boolean), Cond.methodLink RX10 62 yX10_isSmall, Cond.static yX10_isSmall, Cond.code yX10_isSmall cX10_isSmall 1 (some .boolean), Cond.methodLink RX10 72 yX10_isGreat, Cond.static yX10_isGreat, Cond.code yX10_isGreat cX10_isGreat 1 (some .boolean), Cond.methodLink RX10 65 yX10_isDigit, Cond.static yX10_isDigit]
def wsX10_read_r2 : List Cond := [Cond.code yX10_isDigit cX10_isDigit 1 (some .boolean), Cond.methodLink RX10 52 yX10_readWord, Cond.instanceMethod yX10_readWord, Cond.selects RX10 yX10_readWord yX10_readWord, Cond.code yX10_readWord cX10_readWord 11 (some .int), Cond.methodLink RX10 68 yX10_sortOfSmall, Cond.static yX10_sortOfSmall, Cond.code yX10_sortOfSmall cX10_sortOfSmall 2 (some .int), Cond.constantLong RX10 75 (7103860), Cond.constantLong RX10 77 (26990), Cond.constantLong RX10 79 (26982), Cond.constantLong RX10 81 (1952998766), Cond.constantLong RX10 83 (1701606245), Cond.constantLong RX10 85 (469786452840), Cond.constantLong RX10 87 (6714734), Cond.methodLink RX10 56 yX10_readSign, Cond.instanceMethod yX10_readSign, Cond.selects RX10 yX10_readSign yX10_readSign, Cond.code yX10_readSign cX10_readSign 5 (some .int), Cond.methodLink RX10 91 yJ0_indexOf_0f7a4, Cond.instanceMethod yJ0_indexOf_0f7a4, Cond.selects RJ0 yJ0_indexOf_0f7a4 yJ0_indexOf_0f7a4, Cond.initialized RJ0, Cond.code yJ0_indexOf_0f7a4 cJ0_indexOf_0f7a4 2 (some .int)]
def wsX10_read_r3 : List Cond := [Cond.methodLink RJ0 633 yJ0_indexOf_7cf53, Cond.instanceMethod yJ0_indexOf_7cf53, Cond.selects RJ0 yJ0_indexOf_7cf53 yJ0_indexOf_7cf53, Cond.code yJ0_indexOf_7cf53 cJ0_indexOf_7cf53 3 (some .int), Cond.fieldLink RJ0 9 "java/lang/String" "value" "[B", Cond.methodLink RJ0 492 yJ0_isLatin1_aae02, Cond.instanceMethod yJ0_isLatin1_aae02, Cond.selects RJ0 yJ0_isLatin1_aae02 yJ0_isLatin1_aae02, Cond.code yJ0_isLatin1_aae02 cJ0_isLatin1_aae02 1 (some .boolean), Cond.fieldLink RJ0 38 "java/lang/String" "COMPACT_STRINGS" "Z", Cond.fieldLink RJ0 15 "java/lang/String" "coder" "B", Cond.methodLink RJ0 505 yJ0_length_8abf5, Cond.instanceMethod yJ0_length_8abf5, Cond.selects RJ0 yJ0_length_8abf5 yJ0_length_8abf5, Cond.code yJ0_length_8abf5 cJ0_length_8abf5 1 (some .int), Cond.methodLink RJ0 335 yJ0_coder_7d493, Cond.instanceMethod yJ0_coder_7d493, Cond.selects RJ0 yJ0_coder_7d493 yJ0_coder_7d493, Cond.code yJ0_coder_7d493 cJ0_coder_7d493 1 (some .byte), Cond.methodLink RJ0 637 yJ1_indexOf_4cfef, Cond.static yJ1_indexOf_4cfef, Cond.initialized RJ1, Cond.code yJ1_indexOf_4cfef cJ1_indexOf_4cfef 4 (some .int), Cond.methodLink RJ1 92 Lib.Math.max.name]
def wsX10_read_r4 : List Cond := [Cond.methodLink RJ1 38 Lib.Math.min.name, Cond.methodLink RJ1 88 yJ1_canEncode_9a6ad, Cond.static yJ1_canEncode_9a6ad, Cond.code yJ1_canEncode_9a6ad cJ1_canEncode_9a6ad 1 (some .boolean), Cond.methodLink RJ1 95 yJ1_indexOfChar_4cfef, Cond.static yJ1_indexOfChar_4cfef, Cond.code yJ1_indexOfChar_4cfef cJ1_indexOfChar_4cfef 6 (some .int), Cond.methodLink RJ0 640 yJ2_indexOf_4cfef, Cond.static yJ2_indexOf_4cfef, Cond.initialized RJ2, Cond.code yJ2_indexOf_4cfef cJ2_indexOf_4cfef 4 (some .int), Cond.methodLink RJ2 224 Lib.Math.max.name, Cond.methodLink RJ2 183 Lib.Math.min.name, Cond.constant RJ2 227 (65536), Cond.methodLink RJ2 228 yJ2_indexOfChar_4cfef, Cond.static yJ2_indexOfChar_4cfef, Cond.code yJ2_indexOfChar_4cfef cJ2_indexOfChar_4cfef 4 (some .int), Cond.methodLink RJ2 96 yJ2_checkBoundsBeginEnd_d044e, Cond.static yJ2_checkBoundsBeginEnd_d044e, Cond.code yJ2_checkBoundsBeginEnd_d044e cJ2_checkBoundsBeginEnd_d044e 3 none, Cond.methodLink RJ2 48 yJ2_length_9d52b, Cond.static yJ2_length_9d52b, Cond.code yJ2_length_9d52b cJ2_length_9d52b 1 (some .int), Cond.methodLink RJ2 241 yJ0_checkBoundsBeginEnd_23922]
def wsX10_read_r5 : List Cond := [Cond.static yJ0_checkBoundsBeginEnd_23922, Cond.code yJ0_checkBoundsBeginEnd_23922 cJ0_checkBoundsBeginEnd_23922 3 none, Cond.fieldLink RJ0 1053 "jdk/internal/util/Preconditions" "SIOOBE_FORMATTER" "Ljava/util/function/BiFunction;", Cond.methodLink RJ0 1062 yJ3_checkFromToIndex_8c36e, Cond.static yJ3_checkFromToIndex_8c36e, Cond.initialized RJ3, Cond.code yJ3_checkFromToIndex_8c36e cJ3_checkFromToIndex_8c36e 4 (some .int), Cond.methodLink RJ2 244 yJ2_indexOfCharUnsafe_4cfef, Cond.static yJ2_indexOfCharUnsafe_4cfef, Cond.code yJ2_indexOfCharUnsafe_4cfef cJ2_indexOfCharUnsafe_4cfef 5 (some .int), Cond.methodLink RJ2 71 yJ2_getChar_3b067, Cond.static yJ2_getChar_3b067, Cond.code yJ2_getChar_3b067 cJ2_getChar_3b067 2 (some .char), Cond.fieldLink RJ2 44 "java/lang/StringUTF16" "$assertionsDisabled" "Z", Cond.fieldLink RJ2 59 "java/lang/StringUTF16" "HI_BYTE_SHIFT" "I", Cond.fieldLink RJ2 63 "java/lang/StringUTF16" "LO_BYTE_SHIFT" "I", Cond.methodLink RJ2 232 yJ2_indexOfSupplementary_4cfef, Cond.static yJ2_indexOfSupplementary_4cfef, Cond.code yJ2_indexOfSupplementary_4cfef cJ2_indexOfSupplementary_4cfef 7 (some .int), Cond.methodLink RJ2 164 yJ11_isValidCodePoint_9a6ad, Cond.static yJ11_isValidCodePoint_9a6ad, Cond.initialized RJ11, Cond.code yJ11_isValidCodePoint_9a6ad cJ11_isValidCodePoint_9a6ad 2 (some .boolean), Cond.methodLink RJ2 157 yJ11_highSurrogate_5068e]
def wsX10_read_r6 : List Cond := [Cond.static yJ11_highSurrogate_5068e, Cond.code yJ11_highSurrogate_5068e cJ11_highSurrogate_5068e 1 (some .char), Cond.constant RJ11 110 (55232), Cond.methodLink RJ2 161 yJ11_lowSurrogate_5068e, Cond.static yJ11_lowSurrogate_5068e, Cond.code yJ11_lowSurrogate_5068e cJ11_lowSurrogate_5068e 1 (some .char), Cond.constant RJ11 76 (56320), Cond.methodLink RX10 59 yX10_advance, Cond.instanceMethod yX10_advance, Cond.selects RX10 yX10_advance yX10_advance, Cond.code yX10_advance cX10_advance 1 none, Cond.fieldLink RX10 29 "ReuseHouse$Tokens" "sort" "I", Cond.fieldLink RX10 32 "ReuseHouse$Tokens" "place" "I", Cond.fieldLink RX10 35 "ReuseHouse$Tokens" "word" "J"]
def wsX10_read : List Cond := .code yX10_read cX10_read 7 none :: ((wsX10_read_r1 ++ (wsX10_read_r2 ++ (wsX10_read_r3 ++ (wsX10_read_r4 ++ (wsX10_read_r5 ++ wsX10_read_r6))))) ++ wsX100)
def wsX9_clear : List Cond := .code yX9_clear cX9_clear 1 none :: ([.fieldLink RX9 10 "ReuseHouse$Program" "code" "LReuseHouse$Code;", .fieldLink RX9 19 "ReuseHouse$Program" "arms" "LReuseHouse$Arms;", .fieldLink RX9 40 "ReuseHouse$Arms" "size" "I", .fieldLink RX9 26 "ReuseHouse$Program" "kinds" "LReuseHouse$Kinds;", .fieldLink RX9 44 "ReuseHouse$Kinds" "size" "I", .fieldLink RX9 33 "ReuseHouse$Program" "functions" "LReuseHouse$Functions;", .fieldLink RX9 45 "ReuseHouse$Functions" "size" "I", .methodLink RX9 37 yX2_clear, .instanceMethod yX2_clear, .selects RX2 yX2_clear yX2_clear, .initialized RX2, .code yX2_clear cX2_clear 1 none, .fieldLink RX2 30 "ReuseHouse$Code" "size" "I", .fieldLink RX2 34 "ReuseHouse$Code" "tail" "I"] ++ wsX90 ++ wsX00 ++ wsX40 ++ wsX30 ++ wsX20)
def wsX7_fail : List Cond := .code yX7_fail cX7_fail 3 none :: ([.classLink RX7 73 "java/lang/IllegalStateException", .initialized "java/lang/IllegalStateException", .fieldLink RX7 47 "ReuseHouse$Parser" "faultNumber" "I", .fieldLink RX7 50 "ReuseHouse$Parser" "faultPlace" "I"] ++ wsX70 ++ (vx_at0 RX7 79 "java/lang/IllegalStateException" ["java/lang/RuntimeException", "java/lang/Exception"]).filter goodWord)
def wsX7_failForm : List Cond := .code yX7_failForm cX7_failForm 1 none :: ([.fieldLink RX7 12 "ReuseHouse$Parser" "tokens" "LReuseHouse$Tokens;", .fieldLink RX7 80 "ReuseHouse$Tokens" "place" "I", .methodLink RX7 83 yX7_fail, .instanceMethod yX7_fail, .selects RX7 yX7_fail yX7_fail, .initialized RX7, .code yX7_fail cX7_fail 3 none, .classLink RX7 73 "java/lang/IllegalStateException", .initialized "java/lang/IllegalStateException", .fieldLink RX7 47 "ReuseHouse$Parser" "faultNumber" "I", .fieldLink RX7 50 "ReuseHouse$Parser" "faultPlace" "I"] ++ wsX70 ++ wsX100 ++ (vx_at0 RX7 79 "java/lang/IllegalStateException" ["java/lang/RuntimeException", "java/lang/Exception"]).filter goodWord)
def wsX7_expect_r1 : List Cond := [Cond.fieldLink RX7 12 "ReuseHouse$Parser" "tokens" "LReuseHouse$Tokens;", Cond.fieldLink RX7 60 "ReuseHouse$Tokens" "sort" "I", Cond.methodLink RX7 109 yX7_failForm, Cond.instanceMethod yX7_failForm, Cond.selects RX7 yX7_failForm yX7_failForm, Cond.initialized RX7, Cond.code yX7_failForm cX7_failForm 1 none, Cond.fieldLink RX7 80 "ReuseHouse$Tokens" "place" "I", Cond.methodLink RX7 83 yX7_fail, Cond.instanceMethod yX7_fail, Cond.selects RX7 yX7_fail yX7_fail, Cond.code yX7_fail cX7_fail 3 none, Cond.classLink RX7 73 "java/lang/IllegalStateException", Cond.initialized "java/lang/IllegalStateException", Cond.fieldLink RX7 47 "ReuseHouse$Parser" "faultNumber" "I", Cond.fieldLink RX7 50 "ReuseHouse$Parser" "faultPlace" "I", Cond.methodLink RX7 112 yX10_advance, Cond.instanceMethod yX10_advance, Cond.selects RX10 yX10_advance yX10_advance, Cond.initialized RX10, Cond.code yX10_advance cX10_advance 1 none, Cond.fieldLink RX10 26 "ReuseHouse$Tokens" "at" "I", Cond.fieldLink RX10 22 "ReuseHouse$Tokens" "size" "I", Cond.methodLink RX10 39 Lib.Math.min.name]
def wsX7_expect_r2 : List Cond := [Cond.static Lib.Math.min.name, Cond.initialized "java/lang/Math", Cond.code Lib.Math.min.name Lib.Math.min.code 2 (some .int), Cond.fieldLink RX10 9 "ReuseHouse$Tokens" "sorts" "[I", Cond.fieldLink RX10 29 "ReuseHouse$Tokens" "sort" "I", Cond.fieldLink RX10 15 "ReuseHouse$Tokens" "places" "[I", Cond.fieldLink RX10 32 "ReuseHouse$Tokens" "place" "I", Cond.fieldLink RX10 18 "ReuseHouse$Tokens" "words" "[J", Cond.fieldLink RX10 35 "ReuseHouse$Tokens" "word" "J"]
def wsX7_expect : List Cond := .code yX7_expect cX7_expect 2 none :: ((wsX7_expect_r1 ++ wsX7_expect_r2) ++ wsX70 ++ wsX100 ++ (vx_at0 RX7 79 "java/lang/IllegalStateException" ["java/lang/RuntimeException", "java/lang/Exception"]).filter goodWord)
def wsX7_definition_r1 : List Cond := [Cond.fieldLink RX7 12 "ReuseHouse$Parser" "tokens" "LReuseHouse$Tokens;", Cond.fieldLink RX7 60 "ReuseHouse$Tokens" "sort" "I", Cond.fieldLink RX7 40 "ReuseHouse$Parser" "draft" "LReuseHouse$Program;", Cond.fieldLink RX7 115 "ReuseHouse$Program" "functions" "LReuseHouse$Functions;", Cond.fieldLink RX7 119 "ReuseHouse$Functions" "size" "I", Cond.fieldLink RX7 95 "ReuseHouse$Tokens" "word" "J", Cond.fieldLink RX7 80 "ReuseHouse$Tokens" "place" "I", Cond.fieldLink RX7 44 "ReuseHouse$Parser" "function" "I", Cond.fieldLink RX7 29 "ReuseHouse$Parser" "around" "I", Cond.fieldLink RX7 134 "ReuseHouse$Functions" "enter" "[I", Cond.fieldLink RX7 137 "ReuseHouse$Program" "code" "LReuseHouse$Code;", Cond.methodLink RX7 124 yX7_failMany, Cond.instanceMethod yX7_failMany, Cond.selects RX7 yX7_failMany yX7_failMany, Cond.initialized RX7, Cond.code yX7_failMany cX7_failMany 2 none, Cond.fieldLink RX7 91 "ReuseHouse$Program" "kinds" "LReuseHouse$Kinds;", Cond.methodLink RX7 87 yX10_opensBracketNext, Cond.instanceMethod yX10_opensBracketNext, Cond.selects RX10 yX10_opensBracketNext yX10_opensBracketNext, Cond.initialized RX10, Cond.code yX10_opensBracketNext cX10_opensBracketNext 1 (some .boolean), Cond.fieldLink RX10 26 "ReuseHouse$Tokens" "at" "I", Cond.fieldLink RX10 22 "ReuseHouse$Tokens" "size" "I"]
def wsX7_definition_r2 : List Cond := [Cond.fieldLink RX10 9 "ReuseHouse$Tokens" "sorts" "[I", Cond.methodLink RX7 99 yX4_find, Cond.instanceMethod yX4_find, Cond.selects RX4 yX4_find yX4_find, Cond.initialized RX4, Cond.code yX4_find cX4_find 4 (some .int), Cond.fieldLink RX4 19 "ReuseHouse$Kinds" "size" "I", Cond.fieldLink RX4 9 "ReuseHouse$Kinds" "word" "[J", Cond.methodLink RX7 105 yX4_fieldsOf, Cond.instanceMethod yX4_fieldsOf, Cond.selects RX4 yX4_fieldsOf yX4_fieldsOf, Cond.code yX4_fieldsOf cX4_fieldsOf 2 (some .int), Cond.fieldLink RX4 15 "ReuseHouse$Kinds" "fields" "[I", Cond.methodLink RX7 83 yX7_fail, Cond.instanceMethod yX7_fail, Cond.selects RX7 yX7_fail yX7_fail, Cond.code yX7_fail cX7_fail 3 none, Cond.classLink RX7 73 "java/lang/IllegalStateException", Cond.initialized "java/lang/IllegalStateException", Cond.fieldLink RX7 47 "ReuseHouse$Parser" "faultNumber" "I", Cond.fieldLink RX7 50 "ReuseHouse$Parser" "faultPlace" "I", Cond.methodLink RX7 66 yX7_expect, Cond.instanceMethod yX7_expect, Cond.selects RX7 yX7_expect yX7_expect]
def wsX7_definition_r3 : List Cond := [Cond.code yX7_expect cX7_expect 2 none, Cond.methodLink RX7 109 yX7_failForm, Cond.instanceMethod yX7_failForm, Cond.selects RX7 yX7_failForm yX7_failForm, Cond.code yX7_failForm cX7_failForm 1 none, Cond.methodLink RX7 112 yX10_advance, Cond.instanceMethod yX10_advance, Cond.selects RX10 yX10_advance yX10_advance, Cond.code yX10_advance cX10_advance 1 none, Cond.methodLink RX10 39 Lib.Math.min.name, Cond.static Lib.Math.min.name, Cond.initialized "java/lang/Math", Cond.code Lib.Math.min.name Lib.Math.min.code 2 (some .int), Cond.fieldLink RX10 29 "ReuseHouse$Tokens" "sort" "I", Cond.fieldLink RX10 15 "ReuseHouse$Tokens" "places" "[I", Cond.fieldLink RX10 32 "ReuseHouse$Tokens" "place" "I", Cond.fieldLink RX10 18 "ReuseHouse$Tokens" "words" "[J", Cond.fieldLink RX10 35 "ReuseHouse$Tokens" "word" "J", Cond.methodLink RX7 127 yX3_find, Cond.instanceMethod yX3_find, Cond.selects RX3 yX3_find yX3_find, Cond.initialized RX3, Cond.code yX3_find cX3_find 4 (some .int), Cond.fieldLink RX3 22 "ReuseHouse$Functions" "size" "I"]
def wsX7_definition_r4 : List Cond := [Cond.fieldLink RX3 9 "ReuseHouse$Functions" "word" "[J", Cond.methodLink RX7 128 yX3_add, Cond.instanceMethod yX3_add, Cond.selects RX3 yX3_add yX3_add, Cond.code yX3_add cX3_add 5 (some .int), Cond.fieldLink RX3 15 "ReuseHouse$Functions" "enter" "[I", Cond.fieldLink RX3 19 "ReuseHouse$Functions" "facts" "[I", Cond.methodLink RX7 131 yX7_toldNames, Cond.instanceMethod yX7_toldNames, Cond.selects RX7 yX7_toldNames yX7_toldNames, Cond.code yX7_toldNames cX7_toldNames 2 none, Cond.methodLink RX7 150 yX7_newName, Cond.instanceMethod yX7_newName, Cond.selects RX7 yX7_newName yX7_newName, Cond.code yX7_newName cX7_newName 1 none, Cond.methodLink RX7 159 yX7_slotOf, Cond.instanceMethod yX7_slotOf, Cond.selects RX7 yX7_slotOf yX7_slotOf, Cond.code yX7_slotOf cX7_slotOf 4 (some .int), Cond.fieldLink RX7 25 "ReuseHouse$Parser" "names" "[J", Cond.methodLink RX7 153 yX7_tell, Cond.instanceMethod yX7_tell, Cond.selects RX7 yX7_tell yX7_tell, Cond.code yX7_tell cX7_tell 3 (some .int)]
def wsX7_definition_r5 : List Cond := [Cond.methodLink RX7 162 yX3_fact, Cond.instanceMethod yX3_fact, Cond.selects RX3 yX3_fact yX3_fact, Cond.code yX3_fact cX3_fact 3 (some .int), Cond.methodLink RX3 26 yX3_has, Cond.instanceMethod yX3_has, Cond.selects RX3 yX3_has yX3_has, Cond.code yX3_has cX3_has 2 (some .boolean), Cond.methodLink RX7 156 yX3_oneMore, Cond.instanceMethod yX3_oneMore, Cond.selects RX3 yX3_oneMore yX3_oneMore, Cond.code yX3_oneMore cX3_oneMore 3 none, Cond.methodLink RX7 141 yX2_append, Cond.instanceMethod yX2_append, Cond.selects RX2 yX2_append yX2_append, Cond.initialized RX2, Cond.code yX2_append cX2_append 5 (some .int), Cond.fieldLink RX2 34 "ReuseHouse$Code" "tail" "I", Cond.fieldLink RX2 15 "ReuseHouse$Code" "a" "[I", Cond.methodLink RX2 37 yX2_insertBehind, Cond.instanceMethod yX2_insertBehind, Cond.selects RX2 yX2_insertBehind yX2_insertBehind, Cond.code yX2_insertBehind cX2_insertBehind 5 (some .int), Cond.fieldLink RX2 30 "ReuseHouse$Code" "size" "I"]
def wsX7_definition_r6 : List Cond := [Cond.fieldLink RX2 9 "ReuseHouse$Code" "op" "[I", Cond.fieldLink RX2 18 "ReuseHouse$Code" "b" "[I", Cond.fieldLink RX2 21 "ReuseHouse$Code" "place" "[I", Cond.fieldLink RX2 27 "ReuseHouse$Code" "needed" "[I", Cond.fieldLink RX2 24 "ReuseHouse$Code" "next" "[I", Cond.methodLink RX7 147 yX7_expression, Cond.instanceMethod yX7_expression, Cond.selects RX7 yX7_expression yX7_expression, Cond.code yX7_expression cX7_expression 2 none, Cond.methodLink RX7 166 yX7_mustBeginExpression, Cond.instanceMethod yX7_mustBeginExpression, Cond.selects RX7 yX7_mustBeginExpression yX7_mustBeginExpression, Cond.code yX7_mustBeginExpression cX7_mustBeginExpression 1 none, Cond.methodLink RX7 169 yX7_letExpression, Cond.instanceMethod yX7_letExpression, Cond.selects RX7 yX7_letExpression yX7_letExpression, Cond.methodLink RX7 172 yX7_ifExpression, Cond.instanceMethod yX7_ifExpression, Cond.selects RX7 yX7_ifExpression yX7_ifExpression, Cond.methodLink RX7 175 yX7_matchExpression, Cond.instanceMethod yX7_matchExpression, Cond.selects RX7 yX7_matchExpression yX7_matchExpression, Cond.methodLink RX7 178 yX7_comparison, Cond.instanceMethod yX7_comparison]
def wsX7_definition_r7 : List Cond := [Cond.selects RX7 yX7_comparison yX7_comparison, Cond.code yX7_arguments cX7_arguments 5 (some .int), Cond.code yX7_arm cX7_arm 8 (some .int), Cond.fieldLink RX7 194 "ReuseHouse$Program" "arms" "LReuseHouse$Arms;", Cond.fieldLink RX7 206 "ReuseHouse$Code" "b" "[I", Cond.fieldLink RX7 212 "ReuseHouse$Arms" "next" "[I", Cond.fieldLink RX7 198 "ReuseHouse$Arms" "kind" "[I", Cond.methodLink RX7 215 yX7_refuseKindTwice, Cond.instanceMethod yX7_refuseKindTwice, Cond.selects RX7 yX7_refuseKindTwice yX7_refuseKindTwice, Cond.code yX7_refuseKindTwice cX7_refuseKindTwice 5 none, Cond.methodLink RX7 218 yX7_kindAtHand, Cond.instanceMethod yX7_kindAtHand, Cond.selects RX7 yX7_kindAtHand yX7_kindAtHand, Cond.code yX7_kindAtHand cX7_kindAtHand 2 (some .int), Cond.fieldLink RX7 240 "ReuseHouse$Kinds" "size" "I", Cond.methodLink RX7 241 yX4_add, Cond.instanceMethod yX4_add, Cond.selects RX4 yX4_add yX4_add, Cond.code yX4_add cX4_add 3 (some .int), Cond.methodLink RX7 222 yX0_add, Cond.instanceMethod yX0_add, Cond.selects RX0 yX0_add yX0_add, Cond.initialized RX0]
def wsX7_definition_r8 : List Cond := [Cond.code yX0_add cX0_add 4 (some .int), Cond.fieldLink RX0 30 "ReuseHouse$Arms" "size" "I", Cond.fieldLink RX0 9 "ReuseHouse$Arms" "kind" "[I", Cond.fieldLink RX0 15 "ReuseHouse$Arms" "next" "[I", Cond.fieldLink RX0 18 "ReuseHouse$Arms" "before" "[I", Cond.fieldLink RX0 21 "ReuseHouse$Arms" "leave" "[I", Cond.fieldLink RX0 24 "ReuseHouse$Arms" "firstSlot" "[I", Cond.fieldLink RX0 27 "ReuseHouse$Arms" "builds" "[I", Cond.methodLink RX7 224 yX7_pattern, Cond.instanceMethod yX7_pattern, Cond.selects RX7 yX7_pattern yX7_pattern, Cond.code yX7_pattern cX7_pattern 5 none, Cond.methodLink RX7 236 yX7_toldToEnd, Cond.instanceMethod yX7_toldToEnd, Cond.selects RX7 yX7_toldToEnd yX7_toldToEnd, Cond.code yX7_toldToEnd cX7_toldToEnd 4 none, Cond.fieldLink RX7 242 "ReuseHouse$Kinds" "fields" "[I", Cond.methodLink RX7 227 yX7_armBody, Cond.instanceMethod yX7_armBody, Cond.selects RX7 yX7_armBody yX7_armBody, Cond.code yX7_armBody cX7_armBody 6 none, Cond.fieldLink RX7 33 "ReuseHouse$Parser" "built" "[I", Cond.fieldLink RX7 230 "ReuseHouse$Arms" "before" "[I", Cond.fieldLink RX7 187 "ReuseHouse$Code" "tail" "I"]
def wsX7_definition_r9 : List Cond := [Cond.fieldLink RX7 233 "ReuseHouse$Arms" "builds" "[I", Cond.fieldLink RX7 209 "ReuseHouse$Arms" "leave" "[I", Cond.code yX7_atom cX7_atom 2 none, Cond.methodLink RX7 257 yX7_nameAtom, Cond.instanceMethod yX7_nameAtom, Cond.selects RX7 yX7_nameAtom yX7_nameAtom, Cond.methodLink RX7 260 yX7_kindAtom, Cond.instanceMethod yX7_kindAtom, Cond.selects RX7 yX7_kindAtom yX7_kindAtom, Cond.code yX7_comparison cX7_comparison 4 none, Cond.methodLink RX7 245 yX7_sum, Cond.instanceMethod yX7_sum, Cond.selects RX7 yX7_sum yX7_sum, Cond.methodLink RX7 248 yX2_insertBehind, Cond.code yX7_ifExpression cX7_ifExpression 5 none, Cond.fieldLink RX7 184 "ReuseHouse$Code" "a" "[I", Cond.methodLink RX7 181 yX2_appendStep, Cond.instanceMethod yX2_appendStep, Cond.selects RX2 yX2_appendStep yX2_appendStep, Cond.code yX2_appendStep cX2_appendStep 2 none, Cond.code yX7_kindAtom cX7_kindAtom 5 none, Cond.methodLink RX7 266 yX7_arguments, Cond.instanceMethod yX7_arguments, Cond.selects RX7 yX7_arguments yX7_arguments]
def wsX7_definition_r10 : List Cond := [Cond.code yX7_letExpression cX7_letExpression 4 none, Cond.code yX7_matchExpression cX7_matchExpression 8 none, Cond.methodLink RX7 190 yX7_arm, Cond.instanceMethod yX7_arm, Cond.selects RX7 yX7_arm yX7_arm, Cond.methodLink RX7 203 yX7_joinArms, Cond.instanceMethod yX7_joinArms, Cond.selects RX7 yX7_joinArms yX7_joinArms, Cond.code yX7_joinArms cX7_joinArms 4 none, Cond.code yX7_nameAtom cX7_nameAtom 6 none, Cond.fieldLink RX7 263 "ReuseHouse$Tokens" "at" "I", Cond.methodLink RX7 269 yX7_writeCall, Cond.instanceMethod yX7_writeCall, Cond.selects RX7 yX7_writeCall yX7_writeCall, Cond.code yX7_writeCall cX7_writeCall 5 none, Cond.code yX7_part cX7_part 5 none, Cond.methodLink RX7 254 yX7_atom, Cond.instanceMethod yX7_atom, Cond.selects RX7 yX7_atom yX7_atom, Cond.code yX7_sum cX7_sum 6 none, Cond.methodLink RX7 251 yX7_part, Cond.instanceMethod yX7_part, Cond.selects RX7 yX7_part yX7_part]
def wsX7_definition : List Cond := .code yX7_definition cX7_definition 1 none :: ((wsX7_definition_r1 ++ (wsX7_definition_r2 ++ (wsX7_definition_r3 ++ (wsX7_definition_r4 ++ (wsX7_definition_r5 ++ (wsX7_definition_r6 ++ (wsX7_definition_r7 ++ (wsX7_definition_r8 ++ (wsX7_definition_r9 ++ wsX7_definition_r10))))))))) ++ wsX70 ++ wsX100 ++ wsX90 ++ wsX30 ++ wsX40 ++ wsX20 ++ wsX00 ++ (vx_at0 RX7 79 "java/lang/IllegalStateException" ["java/lang/RuntimeException", "java/lang/Exception"]).filter goodWord)
def wsX7_reads_r1 : List Cond := [Cond.classLink RX7 73 "java/lang/IllegalStateException", Cond.fieldLink RX7 12 "ReuseHouse$Parser" "tokens" "LReuseHouse$Tokens;", Cond.fieldLink RX7 40 "ReuseHouse$Parser" "draft" "LReuseHouse$Program;", Cond.fieldLink RX7 47 "ReuseHouse$Parser" "faultNumber" "I", Cond.fieldLink RX7 50 "ReuseHouse$Parser" "faultPlace" "I", Cond.fieldLink RX7 60 "ReuseHouse$Tokens" "sort" "I", Cond.fieldLink RX7 21 "ReuseHouse$Parser" "needs" "LReuseHouse$Needs;", Cond.methodLink RX7 53 yX10_read, Cond.instanceMethod yX10_read, Cond.selects RX10 yX10_read yX10_read, Cond.initialized RX10, Cond.code yX10_read cX10_read 7 none, Cond.methodLink RX10 39 Lib.Math.min.name, Cond.static Lib.Math.min.name, Cond.initialized "java/lang/Math", Cond.code Lib.Math.min.name Lib.Math.min.code 2 (some .int), Cond.methodLink RX10 45 Lib.Math.max.name, Cond.static Lib.Math.max.name, Cond.code Lib.Math.max.name Lib.Math.max.code 2 (some .int), Cond.fieldLink RX10 22 "ReuseHouse$Tokens" "size" "I", Cond.fieldLink RX10 15 "ReuseHouse$Tokens" "places" "[I", Cond.fieldLink RX10 9 "ReuseHouse$Tokens" "sorts" "[I", Cond.fieldLink RX10 18 "ReuseHouse$Tokens" "words" "[J", Cond.fieldLink RX10 26 "ReuseHouse$Tokens" "at" "I"]
def wsX7_reads_r2 : List Cond := [Cond.methodLink RX10 48 yX10_isWordByte, Cond.static yX10_isWordByte, Cond.code yX10_isWordByte cX10_isWordByte 1 (some .boolean), Cond.methodLink RX10 62 yX10_isSmall, Cond.static yX10_isSmall, Cond.code yX10_isSmall cX10_isSmall 1 (some .boolean), Cond.methodLink RX10 72 yX10_isGreat, Cond.static yX10_isGreat, Cond.code yX10_isGreat cX10_isGreat 1 (some .boolean), Cond.methodLink RX10 65 yX10_isDigit, Cond.static yX10_isDigit, Cond.code yX10_isDigit cX10_isDigit 1 (some .boolean), Cond.methodLink RX10 52 yX10_readWord, Cond.instanceMethod yX10_readWord, Cond.selects RX10 yX10_readWord yX10_readWord, Cond.code yX10_readWord cX10_readWord 11 (some .int), Cond.methodLink RX10 68 yX10_sortOfSmall, Cond.static yX10_sortOfSmall, Cond.code yX10_sortOfSmall cX10_sortOfSmall 2 (some .int), Cond.constantLong RX10 75 (7103860), Cond.constantLong RX10 77 (26990), Cond.constantLong RX10 79 (26982), Cond.constantLong RX10 81 (1952998766), Cond.constantLong RX10 83 (1701606245)]
def wsX7_reads_r3 : List Cond := [Cond.constantLong RX10 85 (469786452840), Cond.constantLong RX10 87 (6714734), Cond.methodLink RX10 56 yX10_readSign, Cond.instanceMethod yX10_readSign, Cond.selects RX10 yX10_readSign yX10_readSign, Cond.code yX10_readSign cX10_readSign 5 (some .int), Cond.methodLink RX10 91 yJ0_indexOf_0f7a4, Cond.instanceMethod yJ0_indexOf_0f7a4, Cond.selects RJ0 yJ0_indexOf_0f7a4 yJ0_indexOf_0f7a4, Cond.initialized RJ0, Cond.code yJ0_indexOf_0f7a4 cJ0_indexOf_0f7a4 2 (some .int), Cond.methodLink RJ0 633 yJ0_indexOf_7cf53, Cond.instanceMethod yJ0_indexOf_7cf53, Cond.selects RJ0 yJ0_indexOf_7cf53 yJ0_indexOf_7cf53, Cond.code yJ0_indexOf_7cf53 cJ0_indexOf_7cf53 3 (some .int), Cond.fieldLink RJ0 9 "java/lang/String" "value" "[B", Cond.methodLink RJ0 492 yJ0_isLatin1_aae02, Cond.instanceMethod yJ0_isLatin1_aae02, Cond.selects RJ0 yJ0_isLatin1_aae02 yJ0_isLatin1_aae02, Cond.code yJ0_isLatin1_aae02 cJ0_isLatin1_aae02 1 (some .boolean), Cond.fieldLink RJ0 38 "java/lang/String" "COMPACT_STRINGS" "Z", Cond.fieldLink RJ0 15 "java/lang/String" "coder" "B", Cond.methodLink RJ0 505 yJ0_length_8abf5, Cond.instanceMethod yJ0_length_8abf5]
def wsX7_reads_r4 : List Cond := [Cond.selects RJ0 yJ0_length_8abf5 yJ0_length_8abf5, Cond.code yJ0_length_8abf5 cJ0_length_8abf5 1 (some .int), Cond.methodLink RJ0 335 yJ0_coder_7d493, Cond.instanceMethod yJ0_coder_7d493, Cond.selects RJ0 yJ0_coder_7d493 yJ0_coder_7d493, Cond.code yJ0_coder_7d493 cJ0_coder_7d493 1 (some .byte), Cond.methodLink RJ0 637 yJ1_indexOf_4cfef, Cond.static yJ1_indexOf_4cfef, Cond.initialized RJ1, Cond.code yJ1_indexOf_4cfef cJ1_indexOf_4cfef 4 (some .int), Cond.methodLink RJ1 92 Lib.Math.max.name, Cond.methodLink RJ1 38 Lib.Math.min.name, Cond.methodLink RJ1 88 yJ1_canEncode_9a6ad, Cond.static yJ1_canEncode_9a6ad, Cond.code yJ1_canEncode_9a6ad cJ1_canEncode_9a6ad 1 (some .boolean), Cond.methodLink RJ1 95 yJ1_indexOfChar_4cfef, Cond.static yJ1_indexOfChar_4cfef, Cond.code yJ1_indexOfChar_4cfef cJ1_indexOfChar_4cfef 6 (some .int), Cond.methodLink RJ0 640 yJ2_indexOf_4cfef, Cond.static yJ2_indexOf_4cfef, Cond.initialized RJ2, Cond.code yJ2_indexOf_4cfef cJ2_indexOf_4cfef 4 (some .int), Cond.methodLink RJ2 224 Lib.Math.max.name, Cond.methodLink RJ2 183 Lib.Math.min.name]
def wsX7_reads_r5 : List Cond := [Cond.constant RJ2 227 (65536), Cond.methodLink RJ2 228 yJ2_indexOfChar_4cfef, Cond.static yJ2_indexOfChar_4cfef, Cond.code yJ2_indexOfChar_4cfef cJ2_indexOfChar_4cfef 4 (some .int), Cond.methodLink RJ2 96 yJ2_checkBoundsBeginEnd_d044e, Cond.static yJ2_checkBoundsBeginEnd_d044e, Cond.code yJ2_checkBoundsBeginEnd_d044e cJ2_checkBoundsBeginEnd_d044e 3 none, Cond.methodLink RJ2 48 yJ2_length_9d52b, Cond.static yJ2_length_9d52b, Cond.code yJ2_length_9d52b cJ2_length_9d52b 1 (some .int), Cond.methodLink RJ2 241 yJ0_checkBoundsBeginEnd_23922, Cond.static yJ0_checkBoundsBeginEnd_23922, Cond.code yJ0_checkBoundsBeginEnd_23922 cJ0_checkBoundsBeginEnd_23922 3 none, Cond.fieldLink RJ0 1053 "jdk/internal/util/Preconditions" "SIOOBE_FORMATTER" "Ljava/util/function/BiFunction;", Cond.methodLink RJ0 1062 yJ3_checkFromToIndex_8c36e, Cond.static yJ3_checkFromToIndex_8c36e, Cond.initialized RJ3, Cond.code yJ3_checkFromToIndex_8c36e cJ3_checkFromToIndex_8c36e 4 (some .int), Cond.methodLink RJ2 244 yJ2_indexOfCharUnsafe_4cfef, Cond.static yJ2_indexOfCharUnsafe_4cfef, Cond.code yJ2_indexOfCharUnsafe_4cfef cJ2_indexOfCharUnsafe_4cfef 5 (some .int), Cond.methodLink RJ2 71 yJ2_getChar_3b067, Cond.static yJ2_getChar_3b067, Cond.code yJ2_getChar_3b067 cJ2_getChar_3b067 2 (some .char)]
def wsX7_reads_r6 : List Cond := [Cond.fieldLink RJ2 44 "java/lang/StringUTF16" "$assertionsDisabled" "Z", Cond.fieldLink RJ2 59 "java/lang/StringUTF16" "HI_BYTE_SHIFT" "I", Cond.fieldLink RJ2 63 "java/lang/StringUTF16" "LO_BYTE_SHIFT" "I", Cond.methodLink RJ2 232 yJ2_indexOfSupplementary_4cfef, Cond.static yJ2_indexOfSupplementary_4cfef, Cond.code yJ2_indexOfSupplementary_4cfef cJ2_indexOfSupplementary_4cfef 7 (some .int), Cond.methodLink RJ2 164 yJ11_isValidCodePoint_9a6ad, Cond.static yJ11_isValidCodePoint_9a6ad, Cond.initialized RJ11, Cond.code yJ11_isValidCodePoint_9a6ad cJ11_isValidCodePoint_9a6ad 2 (some .boolean), Cond.methodLink RJ2 157 yJ11_highSurrogate_5068e, Cond.static yJ11_highSurrogate_5068e, Cond.code yJ11_highSurrogate_5068e cJ11_highSurrogate_5068e 1 (some .char), Cond.constant RJ11 110 (55232), Cond.methodLink RJ2 161 yJ11_lowSurrogate_5068e, Cond.static yJ11_lowSurrogate_5068e, Cond.code yJ11_lowSurrogate_5068e cJ11_lowSurrogate_5068e 1 (some .char), Cond.constant RJ11 76 (56320), Cond.methodLink RX10 59 yX10_advance, Cond.instanceMethod yX10_advance, Cond.selects RX10 yX10_advance yX10_advance, Cond.code yX10_advance cX10_advance 1 none, Cond.fieldLink RX10 29 "ReuseHouse$Tokens" "sort" "I", Cond.fieldLink RX10 32 "ReuseHouse$Tokens" "place" "I"]
def wsX7_reads_r7 : List Cond := [Cond.fieldLink RX10 35 "ReuseHouse$Tokens" "word" "J", Cond.methodLink RX7 57 yX9_clear, Cond.instanceMethod yX9_clear, Cond.selects RX9 yX9_clear yX9_clear, Cond.initialized RX9, Cond.code yX9_clear cX9_clear 1 none, Cond.fieldLink RX9 10 "ReuseHouse$Program" "code" "LReuseHouse$Code;", Cond.fieldLink RX9 19 "ReuseHouse$Program" "arms" "LReuseHouse$Arms;", Cond.fieldLink RX9 40 "ReuseHouse$Arms" "size" "I", Cond.fieldLink RX9 26 "ReuseHouse$Program" "kinds" "LReuseHouse$Kinds;", Cond.fieldLink RX9 44 "ReuseHouse$Kinds" "size" "I", Cond.fieldLink RX9 33 "ReuseHouse$Program" "functions" "LReuseHouse$Functions;", Cond.fieldLink RX9 45 "ReuseHouse$Functions" "size" "I", Cond.methodLink RX9 37 yX2_clear, Cond.instanceMethod yX2_clear, Cond.selects RX2 yX2_clear yX2_clear, Cond.initialized RX2, Cond.code yX2_clear cX2_clear 1 none, Cond.fieldLink RX2 30 "ReuseHouse$Code" "size" "I", Cond.fieldLink RX2 34 "ReuseHouse$Code" "tail" "I", Cond.methodLink RX7 63 yX7_definition, Cond.instanceMethod yX7_definition, Cond.selects RX7 yX7_definition yX7_definition, Cond.initialized RX7]
def wsX7_reads_r8 : List Cond := [Cond.code yX7_definition cX7_definition 1 none, Cond.fieldLink RX7 115 "ReuseHouse$Program" "functions" "LReuseHouse$Functions;", Cond.fieldLink RX7 119 "ReuseHouse$Functions" "size" "I", Cond.fieldLink RX7 95 "ReuseHouse$Tokens" "word" "J", Cond.fieldLink RX7 80 "ReuseHouse$Tokens" "place" "I", Cond.fieldLink RX7 44 "ReuseHouse$Parser" "function" "I", Cond.fieldLink RX7 29 "ReuseHouse$Parser" "around" "I", Cond.fieldLink RX7 134 "ReuseHouse$Functions" "enter" "[I", Cond.fieldLink RX7 137 "ReuseHouse$Program" "code" "LReuseHouse$Code;", Cond.methodLink RX7 124 yX7_failMany, Cond.instanceMethod yX7_failMany, Cond.selects RX7 yX7_failMany yX7_failMany, Cond.code yX7_failMany cX7_failMany 2 none, Cond.fieldLink RX7 91 "ReuseHouse$Program" "kinds" "LReuseHouse$Kinds;", Cond.methodLink RX7 87 yX10_opensBracketNext, Cond.instanceMethod yX10_opensBracketNext, Cond.selects RX10 yX10_opensBracketNext yX10_opensBracketNext, Cond.code yX10_opensBracketNext cX10_opensBracketNext 1 (some .boolean), Cond.methodLink RX7 99 yX4_find, Cond.instanceMethod yX4_find, Cond.selects RX4 yX4_find yX4_find, Cond.initialized RX4, Cond.code yX4_find cX4_find 4 (some .int), Cond.fieldLink RX4 19 "ReuseHouse$Kinds" "size" "I"]
def wsX7_reads_r9 : List Cond := [Cond.fieldLink RX4 9 "ReuseHouse$Kinds" "word" "[J", Cond.methodLink RX7 105 yX4_fieldsOf, Cond.instanceMethod yX4_fieldsOf, Cond.selects RX4 yX4_fieldsOf yX4_fieldsOf, Cond.code yX4_fieldsOf cX4_fieldsOf 2 (some .int), Cond.fieldLink RX4 15 "ReuseHouse$Kinds" "fields" "[I", Cond.methodLink RX7 83 yX7_fail, Cond.instanceMethod yX7_fail, Cond.selects RX7 yX7_fail yX7_fail, Cond.code yX7_fail cX7_fail 3 none, Cond.initialized "java/lang/IllegalStateException", Cond.methodLink RX7 66 yX7_expect, Cond.instanceMethod yX7_expect, Cond.selects RX7 yX7_expect yX7_expect, Cond.code yX7_expect cX7_expect 2 none, Cond.methodLink RX7 109 yX7_failForm, Cond.instanceMethod yX7_failForm, Cond.selects RX7 yX7_failForm yX7_failForm, Cond.code yX7_failForm cX7_failForm 1 none, Cond.methodLink RX7 112 yX10_advance, Cond.methodLink RX7 127 yX3_find, Cond.instanceMethod yX3_find, Cond.selects RX3 yX3_find yX3_find, Cond.initialized RX3]
def wsX7_reads_r10 : List Cond := [Cond.code yX3_find cX3_find 4 (some .int), Cond.fieldLink RX3 22 "ReuseHouse$Functions" "size" "I", Cond.fieldLink RX3 9 "ReuseHouse$Functions" "word" "[J", Cond.methodLink RX7 128 yX3_add, Cond.instanceMethod yX3_add, Cond.selects RX3 yX3_add yX3_add, Cond.code yX3_add cX3_add 5 (some .int), Cond.fieldLink RX3 15 "ReuseHouse$Functions" "enter" "[I", Cond.fieldLink RX3 19 "ReuseHouse$Functions" "facts" "[I", Cond.methodLink RX7 131 yX7_toldNames, Cond.instanceMethod yX7_toldNames, Cond.selects RX7 yX7_toldNames yX7_toldNames, Cond.code yX7_toldNames cX7_toldNames 2 none, Cond.methodLink RX7 150 yX7_newName, Cond.instanceMethod yX7_newName, Cond.selects RX7 yX7_newName yX7_newName, Cond.code yX7_newName cX7_newName 1 none, Cond.methodLink RX7 159 yX7_slotOf, Cond.instanceMethod yX7_slotOf, Cond.selects RX7 yX7_slotOf yX7_slotOf, Cond.code yX7_slotOf cX7_slotOf 4 (some .int), Cond.fieldLink RX7 25 "ReuseHouse$Parser" "names" "[J", Cond.methodLink RX7 153 yX7_tell, Cond.instanceMethod yX7_tell]
def wsX7_reads_r11 : List Cond := [Cond.selects RX7 yX7_tell yX7_tell, Cond.code yX7_tell cX7_tell 3 (some .int), Cond.methodLink RX7 162 yX3_fact, Cond.instanceMethod yX3_fact, Cond.selects RX3 yX3_fact yX3_fact, Cond.code yX3_fact cX3_fact 3 (some .int), Cond.methodLink RX3 26 yX3_has, Cond.instanceMethod yX3_has, Cond.selects RX3 yX3_has yX3_has, Cond.code yX3_has cX3_has 2 (some .boolean), Cond.methodLink RX7 156 yX3_oneMore, Cond.instanceMethod yX3_oneMore, Cond.selects RX3 yX3_oneMore yX3_oneMore, Cond.code yX3_oneMore cX3_oneMore 3 none, Cond.methodLink RX7 141 yX2_append, Cond.instanceMethod yX2_append, Cond.selects RX2 yX2_append yX2_append, Cond.code yX2_append cX2_append 5 (some .int), Cond.fieldLink RX2 15 "ReuseHouse$Code" "a" "[I", Cond.methodLink RX2 37 yX2_insertBehind, Cond.instanceMethod yX2_insertBehind, Cond.selects RX2 yX2_insertBehind yX2_insertBehind, Cond.code yX2_insertBehind cX2_insertBehind 5 (some .int), Cond.fieldLink RX2 9 "ReuseHouse$Code" "op" "[I"]
def wsX7_reads_r12 : List Cond := [Cond.fieldLink RX2 18 "ReuseHouse$Code" "b" "[I", Cond.fieldLink RX2 21 "ReuseHouse$Code" "place" "[I", Cond.fieldLink RX2 27 "ReuseHouse$Code" "needed" "[I", Cond.fieldLink RX2 24 "ReuseHouse$Code" "next" "[I", Cond.methodLink RX7 147 yX7_expression, Cond.instanceMethod yX7_expression, Cond.selects RX7 yX7_expression yX7_expression, Cond.code yX7_expression cX7_expression 2 none, Cond.methodLink RX7 166 yX7_mustBeginExpression, Cond.instanceMethod yX7_mustBeginExpression, Cond.selects RX7 yX7_mustBeginExpression yX7_mustBeginExpression, Cond.code yX7_mustBeginExpression cX7_mustBeginExpression 1 none, Cond.methodLink RX7 169 yX7_letExpression, Cond.instanceMethod yX7_letExpression, Cond.selects RX7 yX7_letExpression yX7_letExpression, Cond.methodLink RX7 172 yX7_ifExpression, Cond.instanceMethod yX7_ifExpression, Cond.selects RX7 yX7_ifExpression yX7_ifExpression, Cond.methodLink RX7 175 yX7_matchExpression, Cond.instanceMethod yX7_matchExpression, Cond.selects RX7 yX7_matchExpression yX7_matchExpression, Cond.methodLink RX7 178 yX7_comparison, Cond.instanceMethod yX7_comparison, Cond.selects RX7 yX7_comparison yX7_comparison]
def wsX7_reads_r13 : List Cond := [Cond.code yX7_arguments cX7_arguments 5 (some .int), Cond.code yX7_arm cX7_arm 8 (some .int), Cond.fieldLink RX7 194 "ReuseHouse$Program" "arms" "LReuseHouse$Arms;", Cond.fieldLink RX7 206 "ReuseHouse$Code" "b" "[I", Cond.fieldLink RX7 212 "ReuseHouse$Arms" "next" "[I", Cond.fieldLink RX7 198 "ReuseHouse$Arms" "kind" "[I", Cond.methodLink RX7 215 yX7_refuseKindTwice, Cond.instanceMethod yX7_refuseKindTwice, Cond.selects RX7 yX7_refuseKindTwice yX7_refuseKindTwice, Cond.code yX7_refuseKindTwice cX7_refuseKindTwice 5 none, Cond.methodLink RX7 218 yX7_kindAtHand, Cond.instanceMethod yX7_kindAtHand, Cond.selects RX7 yX7_kindAtHand yX7_kindAtHand, Cond.code yX7_kindAtHand cX7_kindAtHand 2 (some .int), Cond.fieldLink RX7 240 "ReuseHouse$Kinds" "size" "I", Cond.methodLink RX7 241 yX4_add, Cond.instanceMethod yX4_add, Cond.selects RX4 yX4_add yX4_add, Cond.code yX4_add cX4_add 3 (some .int), Cond.methodLink RX7 222 yX0_add, Cond.instanceMethod yX0_add, Cond.selects RX0 yX0_add yX0_add, Cond.initialized RX0, Cond.code yX0_add cX0_add 4 (some .int)]
def wsX7_reads_r14 : List Cond := [Cond.fieldLink RX0 30 "ReuseHouse$Arms" "size" "I", Cond.fieldLink RX0 9 "ReuseHouse$Arms" "kind" "[I", Cond.fieldLink RX0 15 "ReuseHouse$Arms" "next" "[I", Cond.fieldLink RX0 18 "ReuseHouse$Arms" "before" "[I", Cond.fieldLink RX0 21 "ReuseHouse$Arms" "leave" "[I", Cond.fieldLink RX0 24 "ReuseHouse$Arms" "firstSlot" "[I", Cond.fieldLink RX0 27 "ReuseHouse$Arms" "builds" "[I", Cond.methodLink RX7 224 yX7_pattern, Cond.instanceMethod yX7_pattern, Cond.selects RX7 yX7_pattern yX7_pattern, Cond.code yX7_pattern cX7_pattern 5 none, Cond.methodLink RX7 236 yX7_toldToEnd, Cond.instanceMethod yX7_toldToEnd, Cond.selects RX7 yX7_toldToEnd yX7_toldToEnd, Cond.code yX7_toldToEnd cX7_toldToEnd 4 none, Cond.fieldLink RX7 242 "ReuseHouse$Kinds" "fields" "[I", Cond.methodLink RX7 227 yX7_armBody, Cond.instanceMethod yX7_armBody, Cond.selects RX7 yX7_armBody yX7_armBody, Cond.code yX7_armBody cX7_armBody 6 none, Cond.fieldLink RX7 33 "ReuseHouse$Parser" "built" "[I", Cond.fieldLink RX7 230 "ReuseHouse$Arms" "before" "[I", Cond.fieldLink RX7 187 "ReuseHouse$Code" "tail" "I", Cond.fieldLink RX7 233 "ReuseHouse$Arms" "builds" "[I"]
def wsX7_reads_r15 : List Cond := [Cond.fieldLink RX7 209 "ReuseHouse$Arms" "leave" "[I", Cond.code yX7_atom cX7_atom 2 none, Cond.methodLink RX7 257 yX7_nameAtom, Cond.instanceMethod yX7_nameAtom, Cond.selects RX7 yX7_nameAtom yX7_nameAtom, Cond.methodLink RX7 260 yX7_kindAtom, Cond.instanceMethod yX7_kindAtom, Cond.selects RX7 yX7_kindAtom yX7_kindAtom, Cond.code yX7_comparison cX7_comparison 4 none, Cond.methodLink RX7 245 yX7_sum, Cond.instanceMethod yX7_sum, Cond.selects RX7 yX7_sum yX7_sum, Cond.methodLink RX7 248 yX2_insertBehind, Cond.code yX7_ifExpression cX7_ifExpression 5 none, Cond.fieldLink RX7 184 "ReuseHouse$Code" "a" "[I", Cond.methodLink RX7 181 yX2_appendStep, Cond.instanceMethod yX2_appendStep, Cond.selects RX2 yX2_appendStep yX2_appendStep, Cond.code yX2_appendStep cX2_appendStep 2 none, Cond.code yX7_kindAtom cX7_kindAtom 5 none, Cond.methodLink RX7 266 yX7_arguments, Cond.instanceMethod yX7_arguments, Cond.selects RX7 yX7_arguments yX7_arguments, Cond.code yX7_letExpression cX7_letExpression 4 none]
def wsX7_reads_r16 : List Cond := [Cond.code yX7_matchExpression cX7_matchExpression 8 none, Cond.methodLink RX7 190 yX7_arm, Cond.instanceMethod yX7_arm, Cond.selects RX7 yX7_arm yX7_arm, Cond.methodLink RX7 203 yX7_joinArms, Cond.instanceMethod yX7_joinArms, Cond.selects RX7 yX7_joinArms yX7_joinArms, Cond.code yX7_joinArms cX7_joinArms 4 none, Cond.code yX7_nameAtom cX7_nameAtom 6 none, Cond.fieldLink RX7 263 "ReuseHouse$Tokens" "at" "I", Cond.methodLink RX7 269 yX7_writeCall, Cond.instanceMethod yX7_writeCall, Cond.selects RX7 yX7_writeCall yX7_writeCall, Cond.code yX7_writeCall cX7_writeCall 5 none, Cond.code yX7_part cX7_part 5 none, Cond.methodLink RX7 254 yX7_atom, Cond.instanceMethod yX7_atom, Cond.selects RX7 yX7_atom yX7_atom, Cond.code yX7_sum cX7_sum 6 none, Cond.methodLink RX7 251 yX7_part, Cond.instanceMethod yX7_part, Cond.selects RX7 yX7_part yX7_part, Cond.methodLink RX7 70 yX7_resolveCalls, Cond.instanceMethod yX7_resolveCalls]
def wsX7_reads_r17 : List Cond := [Cond.selects RX7 yX7_resolveCalls yX7_resolveCalls, Cond.code yX7_resolveCalls cX7_resolveCalls 5 none, Cond.fieldLink RX7 273 "ReuseHouse$Code" "size" "I", Cond.fieldLink RX7 281 "ReuseHouse$Code" "place" "[I", Cond.methodLink RX7 274 yX7_isCall, Cond.instanceMethod yX7_isCall, Cond.selects RX7 yX7_isCall yX7_isCall, Cond.code yX7_isCall cX7_isCall 2 (some .boolean), Cond.fieldLink RX7 283 "ReuseHouse$Code" "op" "[I", Cond.methodLink RX7 278 yX7_resolveCall, Cond.instanceMethod yX7_resolveCall, Cond.selects RX7 yX7_resolveCall yX7_resolveCall, Cond.code yX7_resolveCall cX7_resolveCall 3 (some .int), Cond.methodLink RX7 286 yX10_wordOf, Cond.instanceMethod yX10_wordOf, Cond.selects RX10 yX10_wordOf yX10_wordOf, Cond.code yX10_wordOf cX10_wordOf 2 (some .long), Cond.methodLink RX7 75 yX6_mark, Cond.instanceMethod yX6_mark, Cond.selects RX6 yX6_mark yX6_mark, Cond.initialized RX6, Cond.code yX6_mark cX6_mark 7 none, Cond.fieldLink RX6 15 "ReuseHouse$Program" "code" "LReuseHouse$Code;", Cond.fieldLink RX6 21 "ReuseHouse$Code" "size" "I"]
def wsX7_reads_r18 : List Cond := [Cond.fieldLink RX6 9 "ReuseHouse$Needs" "order" "[I", Cond.fieldLink RX6 27 "ReuseHouse$Code" "next" "[I", Cond.fieldLink RX6 30 "ReuseHouse$Code" "needed" "[I", Cond.fieldLink RX6 37 "ReuseHouse$Code" "op" "[I", Cond.fieldLink RX6 40 "ReuseHouse$Code" "a" "[I", Cond.methodLink RX6 33 yX6_neededAt, Cond.instanceMethod yX6_neededAt, Cond.selects RX6 yX6_neededAt yX6_neededAt, Cond.code yX6_neededAt cX6_neededAt 5 (some .int), Cond.fieldLink RX6 51 "ReuseHouse$Code" "b" "[I", Cond.methodLink RX6 47 yX2_neededBehind, Cond.instanceMethod yX2_neededBehind, Cond.selects RX2 yX2_neededBehind yX2_neededBehind, Cond.code yX2_neededBehind cX2_neededBehind 3 (some .int), Cond.methodLink RX6 54 yX6_neededInArms, Cond.instanceMethod yX6_neededInArms, Cond.selects RX6 yX6_neededInArms yX6_neededInArms, Cond.code yX6_neededInArms cX6_neededInArms 7 (some .int), Cond.fieldLink RX6 60 "ReuseHouse$Program" "arms" "LReuseHouse$Arms;", Cond.fieldLink RX6 64 "ReuseHouse$Arms" "firstSlot" "[I", Cond.fieldLink RX6 69 "ReuseHouse$Arms" "before" "[I", Cond.fieldLink RX6 72 "ReuseHouse$Arms" "next" "[I", Cond.methodLink RX6 57 yX9_armFields, Cond.instanceMethod yX9_armFields]
def wsX7_reads_r19 : List Cond := [Cond.selects RX9 yX9_armFields yX9_armFields, Cond.code yX9_armFields cX9_armFields 2 (some .int), Cond.fieldLink RX9 46 "ReuseHouse$Arms" "kind" "[I", Cond.methodLink RX9 50 yX4_fieldsOf, Cond.methodLink RX6 43 yX6_countShells, Cond.instanceMethod yX6_countShells, Cond.selects RX6 yX6_countShells yX6_countShells, Cond.code yX6_countShells cX6_countShells 8 none, Cond.fieldLink RX6 77 "ReuseHouse$Program" "functions" "LReuseHouse$Functions;", Cond.methodLink RX6 73 yX9_buildsAsMany, Cond.instanceMethod yX9_buildsAsMany, Cond.selects RX9 yX9_buildsAsMany yX9_buildsAsMany, Cond.code yX9_buildsAsMany cX9_buildsAsMany 2 (some .boolean), Cond.fieldLink RX9 54 "ReuseHouse$Arms" "builds" "[I", Cond.methodLink RX9 57 yX9_armFields, Cond.methodLink RX6 81 yX3_oneMore]
def wsX7_reads : List Cond := .codeWith yX7_reads cX7_reads 4 (some .boolean) [(26, 72, 75, 73)] :: ((wsX7_reads_r1 ++ (wsX7_reads_r2 ++ (wsX7_reads_r3 ++ (wsX7_reads_r4 ++ (wsX7_reads_r5 ++ (wsX7_reads_r6 ++ (wsX7_reads_r7 ++ (wsX7_reads_r8 ++ (wsX7_reads_r9 ++ (wsX7_reads_r10 ++ (wsX7_reads_r11 ++ (wsX7_reads_r12 ++ (wsX7_reads_r13 ++ (wsX7_reads_r14 ++ (wsX7_reads_r15 ++ (wsX7_reads_r16 ++ (wsX7_reads_r17 ++ (wsX7_reads_r18 ++ wsX7_reads_r19)))))))))))))))))) ++ wsX70 ++ wsX100 ++ wsX90 ++ wsX00 ++ wsX40 ++ wsX30 ++ wsX20 ++ wsX60 ++ (vx_at0 RX7 79 "java/lang/IllegalStateException" ["java/lang/RuntimeException", "java/lang/Exception"]).filter goodWord)
def wsX8_init : List Cond := .code yX8_init cX8_init 1 none :: ([.methodLink RX8 3 objectInit, .instanceMethod objectInit, .code objectInit ⟨#[0xb1]⟩ 1 none, .arrayClass .byte, .fieldLink RX8 9 "ReuseHouse$Printer" "bytes" "[B", .fieldLink RX8 15 "ReuseHouse$Printer" "size" "I", .fieldLink RX8 19 "ReuseHouse$Printer" "spare" "[B", .fieldLink RX8 22 "ReuseHouse$Printer" "spareSize" "I", .fieldLink RX8 25 "ReuseHouse$Printer" "tooLong" "Z", .arrayClass .int, .fieldLink RX8 29 "ReuseHouse$Printer" "openCell" "[I", .fieldLink RX8 33 "ReuseHouse$Printer" "openField" "[I", .fieldLink RX8 36 "ReuseHouse$Printer" "open" "I"] ++ wsX80)
def wsX8_has : List Cond := .code yX8_has cX8_has 2 (some .boolean) :: ([.fieldLink RX8 15 "ReuseHouse$Printer" "size" "I"] ++ wsX80)
def wsX11_init_r1 : List Cond := [Cond.methodLink RX11 3 objectInit, Cond.instanceMethod objectInit, Cond.code objectInit ⟨#[0xb1]⟩ 1 none, Cond.arrayClass .byte, Cond.fieldLink RX11 9 "ReuseHouse" "tape" "[B", Cond.fieldLink RX11 13 "ReuseHouse" "fed" "I", Cond.classLink RX11 17 RX9, Cond.instantiable RX9 4, Cond.initialized RX9, Cond.fieldLink RX11 20 "ReuseHouse" "taken" "LReuseHouse$Program;", Cond.classLink RX11 24 RX7, Cond.instantiable RX7 9, Cond.initialized RX7, Cond.fieldLink RX11 27 "ReuseHouse" "parser" "LReuseHouse$Parser;", Cond.classLink RX11 31 RX5, Cond.instantiable RX5 20, Cond.initialized RX5, Cond.fieldLink RX11 36 "ReuseHouse" "machine" "LReuseHouse$Machine;", Cond.classLink RX11 40 RX1, Cond.instantiable RX1 13, Cond.initialized RX1, Cond.fieldLink RX11 45 "ReuseHouse" "countedCells" "LReuseHouse$Cells;", Cond.fieldLink RX11 49 "ReuseHouse" "plainCells" "LReuseHouse$Cells;", Cond.classLink RX11 52 RX8]
def wsX11_init_r2 : List Cond := [Cond.instantiable RX8 8, Cond.initialized RX8, Cond.fieldLink RX11 55 "ReuseHouse" "printer" "LReuseHouse$Printer;", Cond.fieldLink RX11 59 "ReuseHouse" "faultNumber" "I", Cond.fieldLink RX11 62 "ReuseHouse" "stopPlace" "I", Cond.fieldLink RX11 65 "ReuseHouse" "wasRun" "Z", Cond.fieldLink RX11 69 "ReuseHouse" "runSteps" "I", Cond.fieldLink RX11 72 "ReuseHouse" "runCalls" "I", Cond.fieldLink RX11 75 "ReuseHouse" "hasValue" "Z", Cond.fieldLink RX11 78 "ReuseHouse" "value" "J", Cond.fieldLink RX11 82 "ReuseHouse" "hasOther" "Z", Cond.fieldLink RX11 85 "ReuseHouse" "otherValue" "J", Cond.instanceMethod yX9_init, Cond.code yX9_init cX9_init 1 none, Cond.methodLink RX9 1 objectInit, Cond.classLink RX9 7 RX2, Cond.instantiable RX2 8, Cond.initialized RX2, Cond.fieldLink RX9 10 "ReuseHouse$Program" "code" "LReuseHouse$Code;", Cond.classLink RX9 16 RX0, Cond.instantiable RX0 7, Cond.initialized RX0, Cond.fieldLink RX9 19 "ReuseHouse$Program" "arms" "LReuseHouse$Arms;", Cond.classLink RX9 23 RX4]
def wsX11_init_r3 : List Cond := [Cond.instantiable RX4 3, Cond.initialized RX4, Cond.fieldLink RX9 26 "ReuseHouse$Program" "kinds" "LReuseHouse$Kinds;", Cond.classLink RX9 30 RX3, Cond.instantiable RX3 4, Cond.initialized RX3, Cond.fieldLink RX9 33 "ReuseHouse$Program" "functions" "LReuseHouse$Functions;", Cond.instanceMethod yX2_init, Cond.code yX2_init cX2_init 1 none, Cond.methodLink RX2 3 objectInit, Cond.arrayClass .int, Cond.fieldLink RX2 9 "ReuseHouse$Code" "op" "[I", Cond.fieldLink RX2 15 "ReuseHouse$Code" "a" "[I", Cond.fieldLink RX2 18 "ReuseHouse$Code" "b" "[I", Cond.fieldLink RX2 21 "ReuseHouse$Code" "place" "[I", Cond.fieldLink RX2 24 "ReuseHouse$Code" "next" "[I", Cond.fieldLink RX2 27 "ReuseHouse$Code" "needed" "[I", Cond.fieldLink RX2 30 "ReuseHouse$Code" "size" "I", Cond.fieldLink RX2 34 "ReuseHouse$Code" "tail" "I", Cond.instanceMethod yX0_init, Cond.code yX0_init cX0_init 1 none, Cond.methodLink RX0 3 objectInit, Cond.fieldLink RX0 9 "ReuseHouse$Arms" "kind" "[I", Cond.fieldLink RX0 15 "ReuseHouse$Arms" "next" "[I"]
def wsX11_init_r4 : List Cond := [Cond.fieldLink RX0 18 "ReuseHouse$Arms" "before" "[I", Cond.fieldLink RX0 21 "ReuseHouse$Arms" "leave" "[I", Cond.fieldLink RX0 24 "ReuseHouse$Arms" "firstSlot" "[I", Cond.fieldLink RX0 27 "ReuseHouse$Arms" "builds" "[I", Cond.fieldLink RX0 30 "ReuseHouse$Arms" "size" "I", Cond.instanceMethod yX4_init, Cond.code yX4_init cX4_init 1 none, Cond.methodLink RX4 3 objectInit, Cond.arrayClass .long, Cond.fieldLink RX4 9 "ReuseHouse$Kinds" "word" "[J", Cond.fieldLink RX4 15 "ReuseHouse$Kinds" "fields" "[I", Cond.fieldLink RX4 19 "ReuseHouse$Kinds" "size" "I", Cond.instanceMethod yX3_init, Cond.code yX3_init cX3_init 1 none, Cond.methodLink RX3 3 objectInit, Cond.fieldLink RX3 9 "ReuseHouse$Functions" "word" "[J", Cond.fieldLink RX3 15 "ReuseHouse$Functions" "enter" "[I", Cond.fieldLink RX3 19 "ReuseHouse$Functions" "facts" "[I", Cond.fieldLink RX3 22 "ReuseHouse$Functions" "size" "I", Cond.instanceMethod yX7_init, Cond.code yX7_init cX7_init 1 none, Cond.methodLink RX7 3 objectInit, Cond.classLink RX7 9 RX10, Cond.instantiable RX10 8]
def wsX11_init_r5 : List Cond := [Cond.initialized RX10, Cond.fieldLink RX7 12 "ReuseHouse$Parser" "tokens" "LReuseHouse$Tokens;", Cond.classLink RX7 18 RX6, Cond.instantiable RX6 1, Cond.initialized RX6, Cond.fieldLink RX7 21 "ReuseHouse$Parser" "needs" "LReuseHouse$Needs;", Cond.fieldLink RX7 25 "ReuseHouse$Parser" "names" "[J", Cond.fieldLink RX7 29 "ReuseHouse$Parser" "around" "I", Cond.fieldLink RX7 33 "ReuseHouse$Parser" "built" "[I", Cond.classLink RX7 37 RX9, Cond.fieldLink RX7 40 "ReuseHouse$Parser" "draft" "LReuseHouse$Program;", Cond.fieldLink RX7 44 "ReuseHouse$Parser" "function" "I", Cond.fieldLink RX7 47 "ReuseHouse$Parser" "faultNumber" "I", Cond.fieldLink RX7 50 "ReuseHouse$Parser" "faultPlace" "I", Cond.instanceMethod yX10_init, Cond.code yX10_init cX10_init 1 none, Cond.methodLink RX10 3 objectInit, Cond.fieldLink RX10 9 "ReuseHouse$Tokens" "sorts" "[I", Cond.fieldLink RX10 15 "ReuseHouse$Tokens" "places" "[I", Cond.fieldLink RX10 18 "ReuseHouse$Tokens" "words" "[J", Cond.fieldLink RX10 22 "ReuseHouse$Tokens" "size" "I", Cond.fieldLink RX10 26 "ReuseHouse$Tokens" "at" "I", Cond.fieldLink RX10 29 "ReuseHouse$Tokens" "sort" "I", Cond.fieldLink RX10 32 "ReuseHouse$Tokens" "place" "I"]
def wsX11_init_r6 : List Cond := [Cond.fieldLink RX10 35 "ReuseHouse$Tokens" "word" "J", Cond.instanceMethod yX6_init, Cond.code yX6_init cX6_init 1 none, Cond.methodLink RX6 3 objectInit, Cond.fieldLink RX6 9 "ReuseHouse$Needs" "order" "[I", Cond.methodLink RX11 33 yX5_init, Cond.instanceMethod yX5_init, Cond.code yX5_init cX5_init 2 none, Cond.methodLink RX5 3 objectInit, Cond.fieldLink RX5 9 "ReuseHouse$Machine" "counted" "Z", Cond.fieldLink RX5 15 "ReuseHouse$Machine" "stack" "[J", Cond.fieldLink RX5 19 "ReuseHouse$Machine" "top" "I", Cond.fieldLink RX5 23 "ReuseHouse$Machine" "base" "I", Cond.fieldLink RX5 26 "ReuseHouse$Machine" "callBase" "[I", Cond.fieldLink RX5 30 "ReuseHouse$Machine" "callBack" "[I", Cond.fieldLink RX5 33 "ReuseHouse$Machine" "callShells" "[I", Cond.fieldLink RX5 36 "ReuseHouse$Machine" "open" "I", Cond.fieldLink RX5 39 "ReuseHouse$Machine" "shells" "[I", Cond.fieldLink RX5 42 "ReuseHouse$Machine" "shellTop" "I", Cond.fieldLink RX5 45 "ReuseHouse$Machine" "at" "I", Cond.fieldLink RX5 48 "ReuseHouse$Machine" "allowed" "I", Cond.fieldLink RX5 51 "ReuseHouse$Machine" "steps" "I", Cond.fieldLink RX5 54 "ReuseHouse$Machine" "mostOpen" "I", Cond.fieldLink RX5 57 "ReuseHouse$Machine" "how" "I"]
def wsX11_init_r7 : List Cond := [Cond.fieldLink RX5 60 "ReuseHouse$Machine" "stopPlace" "I", Cond.fieldLink RX5 63 "ReuseHouse$Machine" "result" "J", Cond.fieldLink RX5 67 "ReuseHouse$Machine" "program" "LReuseHouse$Program;", Cond.fieldLink RX5 71 "ReuseHouse$Program" "code" "LReuseHouse$Code;", Cond.fieldLink RX5 77 "ReuseHouse$Machine" "code" "LReuseHouse$Code;", Cond.classLink RX5 78 RX1, Cond.fieldLink RX5 83 "ReuseHouse$Machine" "cells" "LReuseHouse$Cells;", Cond.methodLink RX5 80 yX1_init, Cond.instanceMethod yX1_init, Cond.code yX1_init cX1_init 3 none, Cond.methodLink RX1 3 objectInit, Cond.fieldLink RX1 9 "ReuseHouse$Cells" "limit" "I", Cond.fieldLink RX1 15 "ReuseHouse$Cells" "fresh" "I", Cond.fieldLink RX1 18 "ReuseHouse$Cells" "firstFree" "I", Cond.fieldLink RX1 21 "ReuseHouse$Cells" "held" "I", Cond.fieldLink RX1 24 "ReuseHouse$Cells" "mostHeld" "I", Cond.fieldLink RX1 27 "ReuseHouse$Cells" "made" "I", Cond.fieldLink RX1 30 "ReuseHouse$Cells" "reused" "I", Cond.fieldLink RX1 33 "ReuseHouse$Cells" "freed" "I", Cond.fieldLink RX1 36 "ReuseHouse$Cells" "doubled" "I", Cond.methodLink RX1 39 Lib.Math.max.name, Cond.static Lib.Math.max.name, Cond.initialized "java/lang/Math", Cond.code Lib.Math.max.name Lib.Math.max.code 2 (some .int)]
def wsX11_init_r8 : List Cond := [Cond.fieldLink RX1 45 "ReuseHouse$Cells" "kind" "[I", Cond.fieldLink RX1 49 "ReuseHouse$Cells" "count" "[I", Cond.fieldLink RX1 52 "ReuseHouse$Cells" "fields" "[J", Cond.classLink RX1 56 RX4, Cond.fieldLink RX1 59 "ReuseHouse$Cells" "kinds" "LReuseHouse$Kinds;", Cond.methodLink RX11 42 yX1_init, Cond.instanceMethod yX8_init, Cond.code yX8_init cX8_init 1 none, Cond.methodLink RX8 3 objectInit, Cond.fieldLink RX8 9 "ReuseHouse$Printer" "bytes" "[B", Cond.fieldLink RX8 15 "ReuseHouse$Printer" "size" "I", Cond.fieldLink RX8 19 "ReuseHouse$Printer" "spare" "[B", Cond.fieldLink RX8 22 "ReuseHouse$Printer" "spareSize" "I", Cond.fieldLink RX8 25 "ReuseHouse$Printer" "tooLong" "Z", Cond.fieldLink RX8 29 "ReuseHouse$Printer" "openCell" "[I", Cond.fieldLink RX8 33 "ReuseHouse$Printer" "openField" "[I", Cond.fieldLink RX8 36 "ReuseHouse$Printer" "open" "I"]
def wsX11_init : List Cond := .code yX11_init cX11_init 1 none :: ((wsX11_init_r1 ++ (wsX11_init_r2 ++ (wsX11_init_r3 ++ (wsX11_init_r4 ++ (wsX11_init_r5 ++ (wsX11_init_r6 ++ (wsX11_init_r7 ++ wsX11_init_r8))))))) ++ wsX110 ++ wsX90 ++ wsX70 ++ wsX50 ++ wsX10 ++ wsX80 ++ wsX20 ++ wsX00 ++ wsX40 ++ wsX30 ++ wsX100 ++ wsX60)
def wsX11_putFour : List Cond := .code yX11_putFour cX11_putFour 3 none :: ([.fieldLink RX11 13 "ReuseHouse" "fed" "I", .fieldLink RX11 9 "ReuseHouse" "tape" "[B"] ++ wsX110)
def wsX11_feed : List Cond := .code yX11_feed cX11_feed 6 (some .int) :: ([.fieldLink RX11 13 "ReuseHouse" "fed" "I", .methodLink RX11 88 yX11_putFour, .instanceMethod yX11_putFour, .selects RX11 yX11_putFour yX11_putFour, .initialized RX11, .code yX11_putFour cX11_putFour 3 none, .fieldLink RX11 9 "ReuseHouse" "tape" "[B"] ++ wsX110)
def wsX11_program_r1 : List Cond := [Cond.fieldLink RX11 62 "ReuseHouse" "stopPlace" "I", Cond.fieldLink RX11 59 "ReuseHouse" "faultNumber" "I", Cond.fieldLink RX11 13 "ReuseHouse" "fed" "I", Cond.fieldLink RX11 27 "ReuseHouse" "parser" "LReuseHouse$Parser;", Cond.fieldLink RX11 9 "ReuseHouse" "tape" "[B", Cond.fieldLink RX11 95 "ReuseHouse$Parser" "faultNumber" "I", Cond.fieldLink RX11 96 "ReuseHouse$Parser" "faultPlace" "I", Cond.fieldLink RX11 20 "ReuseHouse" "taken" "LReuseHouse$Program;", Cond.fieldLink RX11 99 "ReuseHouse$Parser" "draft" "LReuseHouse$Program;", Cond.fieldLink RX11 65 "ReuseHouse" "wasRun" "Z", Cond.fieldLink RX11 75 "ReuseHouse" "hasValue" "Z", Cond.fieldLink RX11 82 "ReuseHouse" "hasOther" "Z", Cond.fieldLink RX11 102 "ReuseHouse$Program" "functions" "LReuseHouse$Functions;", Cond.fieldLink RX11 106 "ReuseHouse$Functions" "size" "I", Cond.methodLink RX11 91 yX7_reads, Cond.instanceMethod yX7_reads, Cond.selects RX7 yX7_reads yX7_reads, Cond.initialized RX7, Cond.codeWith yX7_reads cX7_reads 4 (some .boolean) [(26, 72, 75, 73)], Cond.classLink RX7 73 "java/lang/IllegalStateException", Cond.fieldLink RX7 12 "ReuseHouse$Parser" "tokens" "LReuseHouse$Tokens;", Cond.fieldLink RX7 40 "ReuseHouse$Parser" "draft" "LReuseHouse$Program;", Cond.fieldLink RX7 47 "ReuseHouse$Parser" "faultNumber" "I", Cond.fieldLink RX7 50 "ReuseHouse$Parser" "faultPlace" "I"]
def wsX11_program_r2 : List Cond := [Cond.fieldLink RX7 60 "ReuseHouse$Tokens" "sort" "I", Cond.fieldLink RX7 21 "ReuseHouse$Parser" "needs" "LReuseHouse$Needs;", Cond.methodLink RX7 53 yX10_read, Cond.instanceMethod yX10_read, Cond.selects RX10 yX10_read yX10_read, Cond.initialized RX10, Cond.code yX10_read cX10_read 7 none, Cond.methodLink RX10 39 Lib.Math.min.name, Cond.static Lib.Math.min.name, Cond.initialized "java/lang/Math", Cond.code Lib.Math.min.name Lib.Math.min.code 2 (some .int), Cond.methodLink RX10 45 Lib.Math.max.name, Cond.static Lib.Math.max.name, Cond.code Lib.Math.max.name Lib.Math.max.code 2 (some .int), Cond.fieldLink RX10 22 "ReuseHouse$Tokens" "size" "I", Cond.fieldLink RX10 15 "ReuseHouse$Tokens" "places" "[I", Cond.fieldLink RX10 9 "ReuseHouse$Tokens" "sorts" "[I", Cond.fieldLink RX10 18 "ReuseHouse$Tokens" "words" "[J", Cond.fieldLink RX10 26 "ReuseHouse$Tokens" "at" "I", Cond.methodLink RX10 48 yX10_isWordByte, Cond.static yX10_isWordByte, Cond.code yX10_isWordByte cX10_isWordByte 1 (some .boolean), Cond.methodLink RX10 62 yX10_isSmall, Cond.static yX10_isSmall]
def wsX11_program_r3 : List Cond := [Cond.code yX10_isSmall cX10_isSmall 1 (some .boolean), Cond.methodLink RX10 72 yX10_isGreat, Cond.static yX10_isGreat, Cond.code yX10_isGreat cX10_isGreat 1 (some .boolean), Cond.methodLink RX10 65 yX10_isDigit, Cond.static yX10_isDigit, Cond.code yX10_isDigit cX10_isDigit 1 (some .boolean), Cond.methodLink RX10 52 yX10_readWord, Cond.instanceMethod yX10_readWord, Cond.selects RX10 yX10_readWord yX10_readWord, Cond.code yX10_readWord cX10_readWord 11 (some .int), Cond.methodLink RX10 68 yX10_sortOfSmall, Cond.static yX10_sortOfSmall, Cond.code yX10_sortOfSmall cX10_sortOfSmall 2 (some .int), Cond.constantLong RX10 75 (7103860), Cond.constantLong RX10 77 (26990), Cond.constantLong RX10 79 (26982), Cond.constantLong RX10 81 (1952998766), Cond.constantLong RX10 83 (1701606245), Cond.constantLong RX10 85 (469786452840), Cond.constantLong RX10 87 (6714734), Cond.methodLink RX10 56 yX10_readSign, Cond.instanceMethod yX10_readSign, Cond.selects RX10 yX10_readSign yX10_readSign]
def wsX11_program_r4 : List Cond := [Cond.code yX10_readSign cX10_readSign 5 (some .int), Cond.methodLink RX10 91 yJ0_indexOf_0f7a4, Cond.instanceMethod yJ0_indexOf_0f7a4, Cond.selects RJ0 yJ0_indexOf_0f7a4 yJ0_indexOf_0f7a4, Cond.initialized RJ0, Cond.code yJ0_indexOf_0f7a4 cJ0_indexOf_0f7a4 2 (some .int), Cond.methodLink RJ0 633 yJ0_indexOf_7cf53, Cond.instanceMethod yJ0_indexOf_7cf53, Cond.selects RJ0 yJ0_indexOf_7cf53 yJ0_indexOf_7cf53, Cond.code yJ0_indexOf_7cf53 cJ0_indexOf_7cf53 3 (some .int), Cond.fieldLink RJ0 9 "java/lang/String" "value" "[B", Cond.methodLink RJ0 492 yJ0_isLatin1_aae02, Cond.instanceMethod yJ0_isLatin1_aae02, Cond.selects RJ0 yJ0_isLatin1_aae02 yJ0_isLatin1_aae02, Cond.code yJ0_isLatin1_aae02 cJ0_isLatin1_aae02 1 (some .boolean), Cond.fieldLink RJ0 38 "java/lang/String" "COMPACT_STRINGS" "Z", Cond.fieldLink RJ0 15 "java/lang/String" "coder" "B", Cond.methodLink RJ0 505 yJ0_length_8abf5, Cond.instanceMethod yJ0_length_8abf5, Cond.selects RJ0 yJ0_length_8abf5 yJ0_length_8abf5, Cond.code yJ0_length_8abf5 cJ0_length_8abf5 1 (some .int), Cond.methodLink RJ0 335 yJ0_coder_7d493, Cond.instanceMethod yJ0_coder_7d493, Cond.selects RJ0 yJ0_coder_7d493 yJ0_coder_7d493]
def wsX11_program_r5 : List Cond := [Cond.code yJ0_coder_7d493 cJ0_coder_7d493 1 (some .byte), Cond.methodLink RJ0 637 yJ1_indexOf_4cfef, Cond.static yJ1_indexOf_4cfef, Cond.initialized RJ1, Cond.code yJ1_indexOf_4cfef cJ1_indexOf_4cfef 4 (some .int), Cond.methodLink RJ1 92 Lib.Math.max.name, Cond.methodLink RJ1 38 Lib.Math.min.name, Cond.methodLink RJ1 88 yJ1_canEncode_9a6ad, Cond.static yJ1_canEncode_9a6ad, Cond.code yJ1_canEncode_9a6ad cJ1_canEncode_9a6ad 1 (some .boolean), Cond.methodLink RJ1 95 yJ1_indexOfChar_4cfef, Cond.static yJ1_indexOfChar_4cfef, Cond.code yJ1_indexOfChar_4cfef cJ1_indexOfChar_4cfef 6 (some .int), Cond.methodLink RJ0 640 yJ2_indexOf_4cfef, Cond.static yJ2_indexOf_4cfef, Cond.initialized RJ2, Cond.code yJ2_indexOf_4cfef cJ2_indexOf_4cfef 4 (some .int), Cond.methodLink RJ2 224 Lib.Math.max.name, Cond.methodLink RJ2 183 Lib.Math.min.name, Cond.constant RJ2 227 (65536), Cond.methodLink RJ2 228 yJ2_indexOfChar_4cfef, Cond.static yJ2_indexOfChar_4cfef, Cond.code yJ2_indexOfChar_4cfef cJ2_indexOfChar_4cfef 4 (some .int), Cond.methodLink RJ2 96 yJ2_checkBoundsBeginEnd_d044e]
def wsX11_program_r6 : List Cond := [Cond.static yJ2_checkBoundsBeginEnd_d044e, Cond.code yJ2_checkBoundsBeginEnd_d044e cJ2_checkBoundsBeginEnd_d044e 3 none, Cond.methodLink RJ2 48 yJ2_length_9d52b, Cond.static yJ2_length_9d52b, Cond.code yJ2_length_9d52b cJ2_length_9d52b 1 (some .int), Cond.methodLink RJ2 241 yJ0_checkBoundsBeginEnd_23922, Cond.static yJ0_checkBoundsBeginEnd_23922, Cond.code yJ0_checkBoundsBeginEnd_23922 cJ0_checkBoundsBeginEnd_23922 3 none, Cond.fieldLink RJ0 1053 "jdk/internal/util/Preconditions" "SIOOBE_FORMATTER" "Ljava/util/function/BiFunction;", Cond.methodLink RJ0 1062 yJ3_checkFromToIndex_8c36e, Cond.static yJ3_checkFromToIndex_8c36e, Cond.initialized RJ3, Cond.code yJ3_checkFromToIndex_8c36e cJ3_checkFromToIndex_8c36e 4 (some .int), Cond.methodLink RJ2 244 yJ2_indexOfCharUnsafe_4cfef, Cond.static yJ2_indexOfCharUnsafe_4cfef, Cond.code yJ2_indexOfCharUnsafe_4cfef cJ2_indexOfCharUnsafe_4cfef 5 (some .int), Cond.methodLink RJ2 71 yJ2_getChar_3b067, Cond.static yJ2_getChar_3b067, Cond.code yJ2_getChar_3b067 cJ2_getChar_3b067 2 (some .char), Cond.fieldLink RJ2 44 "java/lang/StringUTF16" "$assertionsDisabled" "Z", Cond.fieldLink RJ2 59 "java/lang/StringUTF16" "HI_BYTE_SHIFT" "I", Cond.fieldLink RJ2 63 "java/lang/StringUTF16" "LO_BYTE_SHIFT" "I", Cond.methodLink RJ2 232 yJ2_indexOfSupplementary_4cfef, Cond.static yJ2_indexOfSupplementary_4cfef]
def wsX11_program_r7 : List Cond := [Cond.code yJ2_indexOfSupplementary_4cfef cJ2_indexOfSupplementary_4cfef 7 (some .int), Cond.methodLink RJ2 164 yJ11_isValidCodePoint_9a6ad, Cond.static yJ11_isValidCodePoint_9a6ad, Cond.initialized RJ11, Cond.code yJ11_isValidCodePoint_9a6ad cJ11_isValidCodePoint_9a6ad 2 (some .boolean), Cond.methodLink RJ2 157 yJ11_highSurrogate_5068e, Cond.static yJ11_highSurrogate_5068e, Cond.code yJ11_highSurrogate_5068e cJ11_highSurrogate_5068e 1 (some .char), Cond.constant RJ11 110 (55232), Cond.methodLink RJ2 161 yJ11_lowSurrogate_5068e, Cond.static yJ11_lowSurrogate_5068e, Cond.code yJ11_lowSurrogate_5068e cJ11_lowSurrogate_5068e 1 (some .char), Cond.constant RJ11 76 (56320), Cond.methodLink RX10 59 yX10_advance, Cond.instanceMethod yX10_advance, Cond.selects RX10 yX10_advance yX10_advance, Cond.code yX10_advance cX10_advance 1 none, Cond.fieldLink RX10 29 "ReuseHouse$Tokens" "sort" "I", Cond.fieldLink RX10 32 "ReuseHouse$Tokens" "place" "I", Cond.fieldLink RX10 35 "ReuseHouse$Tokens" "word" "J", Cond.methodLink RX7 57 yX9_clear, Cond.instanceMethod yX9_clear, Cond.selects RX9 yX9_clear yX9_clear, Cond.initialized RX9]
def wsX11_program_r8 : List Cond := [Cond.code yX9_clear cX9_clear 1 none, Cond.fieldLink RX9 10 "ReuseHouse$Program" "code" "LReuseHouse$Code;", Cond.fieldLink RX9 19 "ReuseHouse$Program" "arms" "LReuseHouse$Arms;", Cond.fieldLink RX9 40 "ReuseHouse$Arms" "size" "I", Cond.fieldLink RX9 26 "ReuseHouse$Program" "kinds" "LReuseHouse$Kinds;", Cond.fieldLink RX9 44 "ReuseHouse$Kinds" "size" "I", Cond.fieldLink RX9 33 "ReuseHouse$Program" "functions" "LReuseHouse$Functions;", Cond.fieldLink RX9 45 "ReuseHouse$Functions" "size" "I", Cond.methodLink RX9 37 yX2_clear, Cond.instanceMethod yX2_clear, Cond.selects RX2 yX2_clear yX2_clear, Cond.initialized RX2, Cond.code yX2_clear cX2_clear 1 none, Cond.fieldLink RX2 30 "ReuseHouse$Code" "size" "I", Cond.fieldLink RX2 34 "ReuseHouse$Code" "tail" "I", Cond.methodLink RX7 63 yX7_definition, Cond.instanceMethod yX7_definition, Cond.selects RX7 yX7_definition yX7_definition, Cond.code yX7_definition cX7_definition 1 none, Cond.fieldLink RX7 115 "ReuseHouse$Program" "functions" "LReuseHouse$Functions;", Cond.fieldLink RX7 119 "ReuseHouse$Functions" "size" "I", Cond.fieldLink RX7 95 "ReuseHouse$Tokens" "word" "J", Cond.fieldLink RX7 80 "ReuseHouse$Tokens" "place" "I", Cond.fieldLink RX7 44 "ReuseHouse$Parser" "function" "I"]
def wsX11_program_r9 : List Cond := [Cond.fieldLink RX7 29 "ReuseHouse$Parser" "around" "I", Cond.fieldLink RX7 134 "ReuseHouse$Functions" "enter" "[I", Cond.fieldLink RX7 137 "ReuseHouse$Program" "code" "LReuseHouse$Code;", Cond.methodLink RX7 124 yX7_failMany, Cond.instanceMethod yX7_failMany, Cond.selects RX7 yX7_failMany yX7_failMany, Cond.code yX7_failMany cX7_failMany 2 none, Cond.fieldLink RX7 91 "ReuseHouse$Program" "kinds" "LReuseHouse$Kinds;", Cond.methodLink RX7 87 yX10_opensBracketNext, Cond.instanceMethod yX10_opensBracketNext, Cond.selects RX10 yX10_opensBracketNext yX10_opensBracketNext, Cond.code yX10_opensBracketNext cX10_opensBracketNext 1 (some .boolean), Cond.methodLink RX7 99 yX4_find, Cond.instanceMethod yX4_find, Cond.selects RX4 yX4_find yX4_find, Cond.initialized RX4, Cond.code yX4_find cX4_find 4 (some .int), Cond.fieldLink RX4 19 "ReuseHouse$Kinds" "size" "I", Cond.fieldLink RX4 9 "ReuseHouse$Kinds" "word" "[J", Cond.methodLink RX7 105 yX4_fieldsOf, Cond.instanceMethod yX4_fieldsOf, Cond.selects RX4 yX4_fieldsOf yX4_fieldsOf, Cond.code yX4_fieldsOf cX4_fieldsOf 2 (some .int), Cond.fieldLink RX4 15 "ReuseHouse$Kinds" "fields" "[I"]
def wsX11_program_r10 : List Cond := [Cond.methodLink RX7 83 yX7_fail, Cond.instanceMethod yX7_fail, Cond.selects RX7 yX7_fail yX7_fail, Cond.code yX7_fail cX7_fail 3 none, Cond.initialized "java/lang/IllegalStateException", Cond.methodLink RX7 66 yX7_expect, Cond.instanceMethod yX7_expect, Cond.selects RX7 yX7_expect yX7_expect, Cond.code yX7_expect cX7_expect 2 none, Cond.methodLink RX7 109 yX7_failForm, Cond.instanceMethod yX7_failForm, Cond.selects RX7 yX7_failForm yX7_failForm, Cond.code yX7_failForm cX7_failForm 1 none, Cond.methodLink RX7 112 yX10_advance, Cond.methodLink RX7 127 yX3_find, Cond.instanceMethod yX3_find, Cond.selects RX3 yX3_find yX3_find, Cond.initialized RX3, Cond.code yX3_find cX3_find 4 (some .int), Cond.fieldLink RX3 22 "ReuseHouse$Functions" "size" "I", Cond.fieldLink RX3 9 "ReuseHouse$Functions" "word" "[J", Cond.methodLink RX7 128 yX3_add, Cond.instanceMethod yX3_add, Cond.selects RX3 yX3_add yX3_add]
def wsX11_program_r11 : List Cond := [Cond.code yX3_add cX3_add 5 (some .int), Cond.fieldLink RX3 15 "ReuseHouse$Functions" "enter" "[I", Cond.fieldLink RX3 19 "ReuseHouse$Functions" "facts" "[I", Cond.methodLink RX7 131 yX7_toldNames, Cond.instanceMethod yX7_toldNames, Cond.selects RX7 yX7_toldNames yX7_toldNames, Cond.code yX7_toldNames cX7_toldNames 2 none, Cond.methodLink RX7 150 yX7_newName, Cond.instanceMethod yX7_newName, Cond.selects RX7 yX7_newName yX7_newName, Cond.code yX7_newName cX7_newName 1 none, Cond.methodLink RX7 159 yX7_slotOf, Cond.instanceMethod yX7_slotOf, Cond.selects RX7 yX7_slotOf yX7_slotOf, Cond.code yX7_slotOf cX7_slotOf 4 (some .int), Cond.fieldLink RX7 25 "ReuseHouse$Parser" "names" "[J", Cond.methodLink RX7 153 yX7_tell, Cond.instanceMethod yX7_tell, Cond.selects RX7 yX7_tell yX7_tell, Cond.code yX7_tell cX7_tell 3 (some .int), Cond.methodLink RX7 162 yX3_fact, Cond.instanceMethod yX3_fact, Cond.selects RX3 yX3_fact yX3_fact, Cond.code yX3_fact cX3_fact 3 (some .int)]
def wsX11_program_r12 : List Cond := [Cond.methodLink RX3 26 yX3_has, Cond.instanceMethod yX3_has, Cond.selects RX3 yX3_has yX3_has, Cond.code yX3_has cX3_has 2 (some .boolean), Cond.methodLink RX7 156 yX3_oneMore, Cond.instanceMethod yX3_oneMore, Cond.selects RX3 yX3_oneMore yX3_oneMore, Cond.code yX3_oneMore cX3_oneMore 3 none, Cond.methodLink RX7 141 yX2_append, Cond.instanceMethod yX2_append, Cond.selects RX2 yX2_append yX2_append, Cond.code yX2_append cX2_append 5 (some .int), Cond.fieldLink RX2 15 "ReuseHouse$Code" "a" "[I", Cond.methodLink RX2 37 yX2_insertBehind, Cond.instanceMethod yX2_insertBehind, Cond.selects RX2 yX2_insertBehind yX2_insertBehind, Cond.code yX2_insertBehind cX2_insertBehind 5 (some .int), Cond.fieldLink RX2 9 "ReuseHouse$Code" "op" "[I", Cond.fieldLink RX2 18 "ReuseHouse$Code" "b" "[I", Cond.fieldLink RX2 21 "ReuseHouse$Code" "place" "[I", Cond.fieldLink RX2 27 "ReuseHouse$Code" "needed" "[I", Cond.fieldLink RX2 24 "ReuseHouse$Code" "next" "[I", Cond.methodLink RX7 147 yX7_expression, Cond.instanceMethod yX7_expression]
def wsX11_program_r13 : List Cond := [Cond.selects RX7 yX7_expression yX7_expression, Cond.code yX7_expression cX7_expression 2 none, Cond.methodLink RX7 166 yX7_mustBeginExpression, Cond.instanceMethod yX7_mustBeginExpression, Cond.selects RX7 yX7_mustBeginExpression yX7_mustBeginExpression, Cond.code yX7_mustBeginExpression cX7_mustBeginExpression 1 none, Cond.methodLink RX7 169 yX7_letExpression, Cond.instanceMethod yX7_letExpression, Cond.selects RX7 yX7_letExpression yX7_letExpression, Cond.methodLink RX7 172 yX7_ifExpression, Cond.instanceMethod yX7_ifExpression, Cond.selects RX7 yX7_ifExpression yX7_ifExpression, Cond.methodLink RX7 175 yX7_matchExpression, Cond.instanceMethod yX7_matchExpression, Cond.selects RX7 yX7_matchExpression yX7_matchExpression, Cond.methodLink RX7 178 yX7_comparison, Cond.instanceMethod yX7_comparison, Cond.selects RX7 yX7_comparison yX7_comparison, Cond.code yX7_arguments cX7_arguments 5 (some .int), Cond.code yX7_arm cX7_arm 8 (some .int), Cond.fieldLink RX7 194 "ReuseHouse$Program" "arms" "LReuseHouse$Arms;", Cond.fieldLink RX7 206 "ReuseHouse$Code" "b" "[I", Cond.fieldLink RX7 212 "ReuseHouse$Arms" "next" "[I", Cond.fieldLink RX7 198 "ReuseHouse$Arms" "kind" "[I"]
def wsX11_program_r14 : List Cond := [Cond.methodLink RX7 215 yX7_refuseKindTwice, Cond.instanceMethod yX7_refuseKindTwice, Cond.selects RX7 yX7_refuseKindTwice yX7_refuseKindTwice, Cond.code yX7_refuseKindTwice cX7_refuseKindTwice 5 none, Cond.methodLink RX7 218 yX7_kindAtHand, Cond.instanceMethod yX7_kindAtHand, Cond.selects RX7 yX7_kindAtHand yX7_kindAtHand, Cond.code yX7_kindAtHand cX7_kindAtHand 2 (some .int), Cond.fieldLink RX7 240 "ReuseHouse$Kinds" "size" "I", Cond.methodLink RX7 241 yX4_add, Cond.instanceMethod yX4_add, Cond.selects RX4 yX4_add yX4_add, Cond.code yX4_add cX4_add 3 (some .int), Cond.methodLink RX7 222 yX0_add, Cond.instanceMethod yX0_add, Cond.selects RX0 yX0_add yX0_add, Cond.initialized RX0, Cond.code yX0_add cX0_add 4 (some .int), Cond.fieldLink RX0 30 "ReuseHouse$Arms" "size" "I", Cond.fieldLink RX0 9 "ReuseHouse$Arms" "kind" "[I", Cond.fieldLink RX0 15 "ReuseHouse$Arms" "next" "[I", Cond.fieldLink RX0 18 "ReuseHouse$Arms" "before" "[I", Cond.fieldLink RX0 21 "ReuseHouse$Arms" "leave" "[I", Cond.fieldLink RX0 24 "ReuseHouse$Arms" "firstSlot" "[I"]
def wsX11_program_r15 : List Cond := [Cond.fieldLink RX0 27 "ReuseHouse$Arms" "builds" "[I", Cond.methodLink RX7 224 yX7_pattern, Cond.instanceMethod yX7_pattern, Cond.selects RX7 yX7_pattern yX7_pattern, Cond.code yX7_pattern cX7_pattern 5 none, Cond.methodLink RX7 236 yX7_toldToEnd, Cond.instanceMethod yX7_toldToEnd, Cond.selects RX7 yX7_toldToEnd yX7_toldToEnd, Cond.code yX7_toldToEnd cX7_toldToEnd 4 none, Cond.fieldLink RX7 242 "ReuseHouse$Kinds" "fields" "[I", Cond.methodLink RX7 227 yX7_armBody, Cond.instanceMethod yX7_armBody, Cond.selects RX7 yX7_armBody yX7_armBody, Cond.code yX7_armBody cX7_armBody 6 none, Cond.fieldLink RX7 33 "ReuseHouse$Parser" "built" "[I", Cond.fieldLink RX7 230 "ReuseHouse$Arms" "before" "[I", Cond.fieldLink RX7 187 "ReuseHouse$Code" "tail" "I", Cond.fieldLink RX7 233 "ReuseHouse$Arms" "builds" "[I", Cond.fieldLink RX7 209 "ReuseHouse$Arms" "leave" "[I", Cond.code yX7_atom cX7_atom 2 none, Cond.methodLink RX7 257 yX7_nameAtom, Cond.instanceMethod yX7_nameAtom, Cond.selects RX7 yX7_nameAtom yX7_nameAtom, Cond.methodLink RX7 260 yX7_kindAtom]
def wsX11_program_r16 : List Cond := [Cond.instanceMethod yX7_kindAtom, Cond.selects RX7 yX7_kindAtom yX7_kindAtom, Cond.code yX7_comparison cX7_comparison 4 none, Cond.methodLink RX7 245 yX7_sum, Cond.instanceMethod yX7_sum, Cond.selects RX7 yX7_sum yX7_sum, Cond.methodLink RX7 248 yX2_insertBehind, Cond.code yX7_ifExpression cX7_ifExpression 5 none, Cond.fieldLink RX7 184 "ReuseHouse$Code" "a" "[I", Cond.methodLink RX7 181 yX2_appendStep, Cond.instanceMethod yX2_appendStep, Cond.selects RX2 yX2_appendStep yX2_appendStep, Cond.code yX2_appendStep cX2_appendStep 2 none, Cond.code yX7_kindAtom cX7_kindAtom 5 none, Cond.methodLink RX7 266 yX7_arguments, Cond.instanceMethod yX7_arguments, Cond.selects RX7 yX7_arguments yX7_arguments, Cond.code yX7_letExpression cX7_letExpression 4 none, Cond.code yX7_matchExpression cX7_matchExpression 8 none, Cond.methodLink RX7 190 yX7_arm, Cond.instanceMethod yX7_arm, Cond.selects RX7 yX7_arm yX7_arm, Cond.methodLink RX7 203 yX7_joinArms, Cond.instanceMethod yX7_joinArms]
def wsX11_program_r17 : List Cond := [Cond.selects RX7 yX7_joinArms yX7_joinArms, Cond.code yX7_joinArms cX7_joinArms 4 none, Cond.code yX7_nameAtom cX7_nameAtom 6 none, Cond.fieldLink RX7 263 "ReuseHouse$Tokens" "at" "I", Cond.methodLink RX7 269 yX7_writeCall, Cond.instanceMethod yX7_writeCall, Cond.selects RX7 yX7_writeCall yX7_writeCall, Cond.code yX7_writeCall cX7_writeCall 5 none, Cond.code yX7_part cX7_part 5 none, Cond.methodLink RX7 254 yX7_atom, Cond.instanceMethod yX7_atom, Cond.selects RX7 yX7_atom yX7_atom, Cond.code yX7_sum cX7_sum 6 none, Cond.methodLink RX7 251 yX7_part, Cond.instanceMethod yX7_part, Cond.selects RX7 yX7_part yX7_part, Cond.methodLink RX7 70 yX7_resolveCalls, Cond.instanceMethod yX7_resolveCalls, Cond.selects RX7 yX7_resolveCalls yX7_resolveCalls, Cond.code yX7_resolveCalls cX7_resolveCalls 5 none, Cond.fieldLink RX7 273 "ReuseHouse$Code" "size" "I", Cond.fieldLink RX7 281 "ReuseHouse$Code" "place" "[I", Cond.methodLink RX7 274 yX7_isCall, Cond.instanceMethod yX7_isCall]
def wsX11_program_r18 : List Cond := [Cond.selects RX7 yX7_isCall yX7_isCall, Cond.code yX7_isCall cX7_isCall 2 (some .boolean), Cond.fieldLink RX7 283 "ReuseHouse$Code" "op" "[I", Cond.methodLink RX7 278 yX7_resolveCall, Cond.instanceMethod yX7_resolveCall, Cond.selects RX7 yX7_resolveCall yX7_resolveCall, Cond.code yX7_resolveCall cX7_resolveCall 3 (some .int), Cond.methodLink RX7 286 yX10_wordOf, Cond.instanceMethod yX10_wordOf, Cond.selects RX10 yX10_wordOf yX10_wordOf, Cond.code yX10_wordOf cX10_wordOf 2 (some .long), Cond.methodLink RX7 75 yX6_mark, Cond.instanceMethod yX6_mark, Cond.selects RX6 yX6_mark yX6_mark, Cond.initialized RX6, Cond.code yX6_mark cX6_mark 7 none, Cond.fieldLink RX6 15 "ReuseHouse$Program" "code" "LReuseHouse$Code;", Cond.fieldLink RX6 21 "ReuseHouse$Code" "size" "I", Cond.fieldLink RX6 9 "ReuseHouse$Needs" "order" "[I", Cond.fieldLink RX6 27 "ReuseHouse$Code" "next" "[I", Cond.fieldLink RX6 30 "ReuseHouse$Code" "needed" "[I", Cond.fieldLink RX6 37 "ReuseHouse$Code" "op" "[I", Cond.fieldLink RX6 40 "ReuseHouse$Code" "a" "[I", Cond.methodLink RX6 33 yX6_neededAt]
def wsX11_program_r19 : List Cond := [Cond.instanceMethod yX6_neededAt, Cond.selects RX6 yX6_neededAt yX6_neededAt, Cond.code yX6_neededAt cX6_neededAt 5 (some .int), Cond.fieldLink RX6 51 "ReuseHouse$Code" "b" "[I", Cond.methodLink RX6 47 yX2_neededBehind, Cond.instanceMethod yX2_neededBehind, Cond.selects RX2 yX2_neededBehind yX2_neededBehind, Cond.code yX2_neededBehind cX2_neededBehind 3 (some .int), Cond.methodLink RX6 54 yX6_neededInArms, Cond.instanceMethod yX6_neededInArms, Cond.selects RX6 yX6_neededInArms yX6_neededInArms, Cond.code yX6_neededInArms cX6_neededInArms 7 (some .int), Cond.fieldLink RX6 60 "ReuseHouse$Program" "arms" "LReuseHouse$Arms;", Cond.fieldLink RX6 64 "ReuseHouse$Arms" "firstSlot" "[I", Cond.fieldLink RX6 69 "ReuseHouse$Arms" "before" "[I", Cond.fieldLink RX6 72 "ReuseHouse$Arms" "next" "[I", Cond.methodLink RX6 57 yX9_armFields, Cond.instanceMethod yX9_armFields, Cond.selects RX9 yX9_armFields yX9_armFields, Cond.code yX9_armFields cX9_armFields 2 (some .int), Cond.fieldLink RX9 46 "ReuseHouse$Arms" "kind" "[I", Cond.methodLink RX9 50 yX4_fieldsOf, Cond.methodLink RX6 43 yX6_countShells, Cond.instanceMethod yX6_countShells]
def wsX11_program_r20 : List Cond := [Cond.selects RX6 yX6_countShells yX6_countShells, Cond.code yX6_countShells cX6_countShells 8 none, Cond.fieldLink RX6 77 "ReuseHouse$Program" "functions" "LReuseHouse$Functions;", Cond.methodLink RX6 73 yX9_buildsAsMany, Cond.instanceMethod yX9_buildsAsMany, Cond.selects RX9 yX9_buildsAsMany yX9_buildsAsMany, Cond.code yX9_buildsAsMany cX9_buildsAsMany 2 (some .boolean), Cond.fieldLink RX9 54 "ReuseHouse$Arms" "builds" "[I", Cond.methodLink RX9 57 yX9_armFields, Cond.methodLink RX6 81 yX3_oneMore]
def wsX11_program : List Cond := .code yX11_program cX11_program 3 (some .int) :: ((wsX11_program_r1 ++ (wsX11_program_r2 ++ (wsX11_program_r3 ++ (wsX11_program_r4 ++ (wsX11_program_r5 ++ (wsX11_program_r6 ++ (wsX11_program_r7 ++ (wsX11_program_r8 ++ (wsX11_program_r9 ++ (wsX11_program_r10 ++ (wsX11_program_r11 ++ (wsX11_program_r12 ++ (wsX11_program_r13 ++ (wsX11_program_r14 ++ (wsX11_program_r15 ++ (wsX11_program_r16 ++ (wsX11_program_r17 ++ (wsX11_program_r18 ++ (wsX11_program_r19 ++ wsX11_program_r20))))))))))))))))))) ++ wsX110 ++ wsX70 ++ wsX90 ++ wsX30 ++ wsX100 ++ wsX00 ++ wsX40 ++ wsX20 ++ wsX60 ++ (vx_at0 RX7 79 "java/lang/IllegalStateException" ["java/lang/RuntimeException", "java/lang/Exception"]).filter goodWord)
def wsX11_fault : List Cond := .code yX11_fault cX11_fault 1 (some .int) :: ([.fieldLink RX11 59 "ReuseHouse" "faultNumber" "I"] ++ wsX110)
def wsX11_where : List Cond := .code yX11_where cX11_where 1 (some .int) :: ([.fieldLink RX11 62 "ReuseHouse" "stopPlace" "I"] ++ wsX110)
def wsX11_about : List Cond := .code yX11_about cX11_about 3 (some .int) :: ([.fieldLink RX11 20 "ReuseHouse" "taken" "LReuseHouse$Program;", .fieldLink RX11 102 "ReuseHouse$Program" "functions" "LReuseHouse$Functions;", .methodLink RX11 111 yX3_has, .instanceMethod yX3_has, .selects RX3 yX3_has yX3_has, .initialized RX3, .code yX3_has cX3_has 2 (some .boolean), .fieldLink RX3 22 "ReuseHouse$Functions" "size" "I", .methodLink RX11 115 yX3_fact, .instanceMethod yX3_fact, .selects RX3 yX3_fact yX3_fact, .code yX3_fact cX3_fact 3 (some .int), .fieldLink RX3 19 "ReuseHouse$Functions" "facts" "[I", .methodLink RX3 26 yX3_has] ++ wsX110 ++ wsX90 ++ wsX30)
def wsX11_mayWork : List Cond := .code yX11_mayWork cX11_mayWork 3 (some .boolean) :: ([.fieldLink RX11 20 "ReuseHouse" "taken" "LReuseHouse$Program;", .fieldLink RX11 102 "ReuseHouse$Program" "functions" "LReuseHouse$Functions;", .methodLink RX11 111 yX3_has, .instanceMethod yX3_has, .selects RX3 yX3_has yX3_has, .initialized RX3, .code yX3_has cX3_has 2 (some .boolean), .fieldLink RX3 22 "ReuseHouse$Functions" "size" "I"] ++ wsX110 ++ wsX90 ++ wsX30)
def wsX11_run_r1 : List Cond := [Cond.fieldLink RX11 45 "ReuseHouse" "countedCells" "LReuseHouse$Cells;", Cond.fieldLink RX11 20 "ReuseHouse" "taken" "LReuseHouse$Program;", Cond.fieldLink RX11 123 "ReuseHouse$Program" "kinds" "LReuseHouse$Kinds;", Cond.fieldLink RX11 36 "ReuseHouse" "machine" "LReuseHouse$Machine;", Cond.fieldLink RX11 141 "ReuseHouse$Machine" "stopPlace" "I", Cond.fieldLink RX11 62 "ReuseHouse" "stopPlace" "I", Cond.fieldLink RX11 65 "ReuseHouse" "wasRun" "Z", Cond.fieldLink RX11 142 "ReuseHouse$Machine" "steps" "I", Cond.fieldLink RX11 69 "ReuseHouse" "runSteps" "I", Cond.fieldLink RX11 145 "ReuseHouse$Machine" "mostOpen" "I", Cond.fieldLink RX11 72 "ReuseHouse" "runCalls" "I", Cond.fieldLink RX11 148 "ReuseHouse$Machine" "how" "I", Cond.fieldLink RX11 75 "ReuseHouse" "hasValue" "Z", Cond.fieldLink RX11 151 "ReuseHouse$Machine" "result" "J", Cond.fieldLink RX11 78 "ReuseHouse" "value" "J", Cond.fieldLink RX11 154 "ReuseHouse$Cells" "held" "I", Cond.methodLink RX11 119 yX11_mayWork, Cond.instanceMethod yX11_mayWork, Cond.selects RX11 yX11_mayWork yX11_mayWork, Cond.initialized RX11, Cond.code yX11_mayWork cX11_mayWork 3 (some .boolean), Cond.fieldLink RX11 102 "ReuseHouse$Program" "functions" "LReuseHouse$Functions;", Cond.methodLink RX11 111 yX3_has, Cond.instanceMethod yX3_has]
def wsX11_run_r2 : List Cond := [Cond.selects RX3 yX3_has yX3_has, Cond.initialized RX3, Cond.code yX3_has cX3_has 2 (some .boolean), Cond.fieldLink RX3 22 "ReuseHouse$Functions" "size" "I", Cond.methodLink RX11 127 yX1_begin, Cond.instanceMethod yX1_begin, Cond.selects RX1 yX1_begin yX1_begin, Cond.initialized RX1, Cond.code yX1_begin cX1_begin 3 none, Cond.fieldLink RX1 59 "ReuseHouse$Cells" "kinds" "LReuseHouse$Kinds;", Cond.fieldLink RX1 45 "ReuseHouse$Cells" "kind" "[I", Cond.methodLink RX1 63 Lib.Math.min.name, Cond.static Lib.Math.min.name, Cond.initialized "java/lang/Math", Cond.code Lib.Math.min.name Lib.Math.min.code 2 (some .int), Cond.fieldLink RX1 9 "ReuseHouse$Cells" "limit" "I", Cond.fieldLink RX1 15 "ReuseHouse$Cells" "fresh" "I", Cond.fieldLink RX1 18 "ReuseHouse$Cells" "firstFree" "I", Cond.fieldLink RX1 21 "ReuseHouse$Cells" "held" "I", Cond.fieldLink RX1 24 "ReuseHouse$Cells" "mostHeld" "I", Cond.fieldLink RX1 27 "ReuseHouse$Cells" "made" "I", Cond.fieldLink RX1 30 "ReuseHouse$Cells" "reused" "I", Cond.fieldLink RX1 33 "ReuseHouse$Cells" "freed" "I", Cond.fieldLink RX1 36 "ReuseHouse$Cells" "doubled" "I"]
def wsX11_run_r3 : List Cond := [Cond.methodLink RX11 131 yX5_begin, Cond.instanceMethod yX5_begin, Cond.selects RX5 yX5_begin yX5_begin, Cond.initialized RX5, Cond.code yX5_begin cX5_begin 5 none, Cond.fieldLink RX5 67 "ReuseHouse$Machine" "program" "LReuseHouse$Program;", Cond.fieldLink RX5 71 "ReuseHouse$Program" "code" "LReuseHouse$Code;", Cond.fieldLink RX5 77 "ReuseHouse$Machine" "code" "LReuseHouse$Code;", Cond.fieldLink RX5 83 "ReuseHouse$Machine" "cells" "LReuseHouse$Cells;", Cond.fieldLink RX5 9 "ReuseHouse$Machine" "counted" "Z", Cond.fieldLink RX5 48 "ReuseHouse$Machine" "allowed" "I", Cond.fieldLink RX5 19 "ReuseHouse$Machine" "top" "I", Cond.fieldLink RX5 23 "ReuseHouse$Machine" "base" "I", Cond.fieldLink RX5 36 "ReuseHouse$Machine" "open" "I", Cond.fieldLink RX5 42 "ReuseHouse$Machine" "shellTop" "I", Cond.fieldLink RX5 51 "ReuseHouse$Machine" "steps" "I", Cond.fieldLink RX5 54 "ReuseHouse$Machine" "mostOpen" "I", Cond.fieldLink RX5 57 "ReuseHouse$Machine" "how" "I", Cond.fieldLink RX5 60 "ReuseHouse$Machine" "stopPlace" "I", Cond.fieldLink RX5 63 "ReuseHouse$Machine" "result" "J", Cond.methodLink RX11 134 yX11_tellInts, Cond.instanceMethod yX11_tellInts, Cond.selects RX11 yX11_tellInts yX11_tellInts, Cond.code yX11_tellInts cX11_tellInts 9 none]
def wsX11_run_r4 : List Cond := [Cond.methodLink RX11 115 yX3_fact, Cond.instanceMethod yX3_fact, Cond.selects RX3 yX3_fact yX3_fact, Cond.code yX3_fact cX3_fact 3 (some .int), Cond.fieldLink RX3 19 "ReuseHouse$Functions" "facts" "[I", Cond.methodLink RX3 26 yX3_has, Cond.methodLink RX11 157 yX1_ofInt, Cond.static yX1_ofInt, Cond.code yX1_ofInt cX1_ofInt 1 (some .long), Cond.constantLong RX1 66 (4294967295), Cond.methodLink RX11 161 yX5_push, Cond.instanceMethod yX5_push, Cond.selects RX5 yX5_push yX5_push, Cond.code yX5_push cX5_push 3 none, Cond.fieldLink RX5 15 "ReuseHouse$Machine" "stack" "[J", Cond.methodLink RX11 138 yX5_work, Cond.instanceMethod yX5_work, Cond.selects RX5 yX5_work yX5_work, Cond.code yX5_work cX5_work 3 none, Cond.constant RX5 91 (100000), Cond.fieldLink RX5 45 "ReuseHouse$Machine" "at" "I", Cond.methodLink RX5 87 yX5_openCall, Cond.instanceMethod yX5_openCall, Cond.selects RX5 yX5_openCall yX5_openCall]
def wsX11_run_r5 : List Cond := [Cond.code yX5_openCall cX5_openCall 3 none, Cond.fieldLink RX5 165 "ReuseHouse$Program" "functions" "LReuseHouse$Functions;", Cond.methodLink RX5 210 Lib.Math.max.name, Cond.static Lib.Math.max.name, Cond.code Lib.Math.max.name Lib.Math.max.code 2 (some .int), Cond.methodLink RX5 215 Lib.Math.min.name, Cond.fieldLink RX5 26 "ReuseHouse$Machine" "callBase" "[I", Cond.fieldLink RX5 30 "ReuseHouse$Machine" "callBack" "[I", Cond.fieldLink RX5 33 "ReuseHouse$Machine" "callShells" "[I", Cond.fieldLink RX5 218 "ReuseHouse$Functions" "enter" "[I", Cond.methodLink RX5 208 yX3_has, Cond.methodLink RX5 169 yX3_fact, Cond.methodLink RX5 92 yX5_turn, Cond.instanceMethod yX5_turn, Cond.selects RX5 yX5_turn yX5_turn, Cond.code yX5_turn cX5_turn 2 none, Cond.fieldLink RX5 95 "ReuseHouse$Code" "next" "[I", Cond.fieldLink RX5 100 "ReuseHouse$Code" "op" "[I", Cond.fieldLink RX5 103 "ReuseHouse$Code" "a" "[I", Cond.methodLink RX5 106 yX5_toldBits, Cond.instanceMethod yX5_toldBits, Cond.selects RX5 yX5_toldBits yX5_toldBits, Cond.code yX5_toldBits cX5_toldBits 2 (some .int), Cond.methodLink RX5 110 yX2_neededBehind]
def wsX11_run_r6 : List Cond := [Cond.instanceMethod yX2_neededBehind, Cond.selects RX2 yX2_neededBehind yX2_neededBehind, Cond.initialized RX2, Cond.code yX2_neededBehind cX2_neededBehind 3 (some .int), Cond.fieldLink RX2 24 "ReuseHouse$Code" "next" "[I", Cond.fieldLink RX2 27 "ReuseHouse$Code" "needed" "[I", Cond.methodLink RX5 113 yX5_dropNames, Cond.instanceMethod yX5_dropNames, Cond.selects RX5 yX5_dropNames yX5_dropNames, Cond.code yX5_dropNames cX5_dropNames 3 none, Cond.methodLink RX5 175 yX5_has, Cond.static yX5_has, Cond.code yX5_has cX5_has 2 (some .boolean), Cond.methodLink RX5 179 yX1_drop, Cond.instanceMethod yX1_drop, Cond.selects RX1 yX1_drop yX1_drop, Cond.code yX1_drop cX1_drop 7 none, Cond.fieldLink RX1 49 "ReuseHouse$Cells" "count" "[I", Cond.methodLink RX1 88 yX1_lower, Cond.instanceMethod yX1_lower, Cond.selects RX1 yX1_lower yX1_lower, Cond.code yX1_lower cX1_lower 5 (some .int), Cond.methodLink RX1 78 yX1_isCell, Cond.static yX1_isCell]
def wsX11_run_r7 : List Cond := [Cond.code yX1_isCell cX1_isCell 2 (some .boolean), Cond.constantLong RX1 72 (2), Cond.methodLink RX1 85 yX1_width, Cond.instanceMethod yX1_width, Cond.selects RX1 yX1_width yX1_width, Cond.code yX1_width cX1_width 2 (some .int), Cond.methodLink RX1 81 yX4_fieldsOf, Cond.instanceMethod yX4_fieldsOf, Cond.selects RX4 yX4_fieldsOf yX4_fieldsOf, Cond.initialized RX4, Cond.code yX4_fieldsOf cX4_fieldsOf 2 (some .int), Cond.fieldLink RX4 19 "ReuseHouse$Kinds" "size" "I", Cond.fieldLink RX4 15 "ReuseHouse$Kinds" "fields" "[I", Cond.methodLink RX1 92 yX1_field, Cond.instanceMethod yX1_field, Cond.selects RX1 yX1_field yX1_field, Cond.code yX1_field cX1_field 3 (some .long), Cond.fieldLink RX1 52 "ReuseHouse$Cells" "fields" "[J", Cond.methodLink RX1 96 yX1_free, Cond.instanceMethod yX1_free, Cond.selects RX1 yX1_free yX1_free, Cond.code yX1_free cX1_free 2 none, Cond.methodLink RX5 116 yX5_step, Cond.instanceMethod yX5_step]
def wsX11_run_r8 : List Cond := [Cond.selects RX5 yX5_step yX5_step, Cond.code yX5_step cX5_step 2 (some .boolean), Cond.methodLink RX5 162 yX5_stop, Cond.instanceMethod yX5_stop, Cond.selects RX5 yX5_stop yX5_stop, Cond.code yX5_stop cX5_stop 3 none, Cond.fieldLink RX5 159 "ReuseHouse$Code" "place" "[I", Cond.methodLink RX5 120 yX5_number, Cond.instanceMethod yX5_number, Cond.selects RX5 yX5_number yX5_number, Cond.code yX5_number cX5_number 2 none, Cond.methodLink RX5 183 yX1_ofInt, Cond.methodLink RX5 187 yX5_push, Cond.methodLink RX5 123 yX5_useName, Cond.instanceMethod yX5_useName, Cond.selects RX5 yX5_useName yX5_useName, Cond.code yX5_useName cX5_useName 5 none, Cond.methodLink RX5 193 yX1_copy, Cond.instanceMethod yX1_copy, Cond.selects RX1 yX1_copy yX1_copy, Cond.code yX1_copy cX1_copy 3 none, Cond.methodLink RX5 126 yX5_kindAlone, Cond.instanceMethod yX5_kindAlone, Cond.selects RX5 yX5_kindAlone yX5_kindAlone]
def wsX11_run_r9 : List Cond := [Cond.code yX5_kindAlone cX5_kindAlone 2 none, Cond.methodLink RX5 190 yX1_ofKind, Cond.static yX1_ofKind, Cond.code yX1_ofKind cX1_ofKind 1 (some .long), Cond.constantLong RX1 68 (4294967296), Cond.methodLink RX5 129 yX5_build, Cond.instanceMethod yX5_build, Cond.selects RX5 yX5_build yX5_build, Cond.code yX5_build cX5_build 5 none, Cond.fieldLink RX5 221 "ReuseHouse$Program" "kinds" "LReuseHouse$Kinds;", Cond.fieldLink RX5 237 "ReuseHouse$Cells" "reused" "I", Cond.methodLink RX5 225 yX4_fieldsOf, Cond.methodLink RX5 230 yX5_takeShell, Cond.instanceMethod yX5_takeShell, Cond.selects RX5 yX5_takeShell yX5_takeShell, Cond.code yX5_takeShell cX5_takeShell 5 (some .int), Cond.fieldLink RX5 39 "ReuseHouse$Machine" "shells" "[I", Cond.methodLink RX5 247 yX1_width, Cond.methodLink RX5 233 yX1_take, Cond.instanceMethod yX1_take, Cond.selects RX1 yX1_take yX1_take, Cond.code yX1_take cX1_take 2 (some .int), Cond.methodLink RX1 39 Lib.Math.max.name, Cond.methodLink RX5 240 yX1_fill]
def wsX11_run_r10 : List Cond := [Cond.instanceMethod yX1_fill, Cond.selects RX1 yX1_fill yX1_fill, Cond.code yX1_fill cX1_fill 6 none, Cond.methodLink RX5 244 yX1_ofCell, Cond.static yX1_ofCell, Cond.code yX1_ofCell cX1_ofCell 1 (some .long), Cond.constantLong RX1 70 (8589934592), Cond.methodLink RX5 132 yX5_callAlone, Cond.instanceMethod yX5_callAlone, Cond.selects RX5 yX5_callAlone yX5_callAlone, Cond.code yX5_callAlone cX5_callAlone 2 none, Cond.methodLink RX5 135 yX5_call, Cond.instanceMethod yX5_call, Cond.selects RX5 yX5_call yX5_call, Cond.code yX5_call cX5_call 2 none, Cond.methodLink RX5 138 yX5_bind, Cond.instanceMethod yX5_bind, Cond.selects RX5 yX5_bind yX5_bind, Cond.code yX5_bind cX5_bind 3 none, Cond.methodLink RX5 196 yX5_pop, Cond.instanceMethod yX5_pop, Cond.selects RX5 yX5_pop yX5_pop, Cond.code yX5_pop cX5_pop 1 (some .long), Cond.methodLink RX5 141 yX5_choose]
def wsX11_run_r11 : List Cond := [Cond.instanceMethod yX5_choose, Cond.selects RX5 yX5_choose yX5_choose, Cond.code yX5_choose cX5_choose 6 none, Cond.methodLink RX5 200 yX1_isInt, Cond.static yX1_isInt, Cond.code yX1_isInt cX1_isInt 2 (some .boolean), Cond.methodLink RX5 144 yX5_goBehind, Cond.instanceMethod yX5_goBehind, Cond.selects RX5 yX5_goBehind yX5_goBehind, Cond.code yX5_goBehind cX5_goBehind 2 none, Cond.methodLink RX5 147 yX5_match, Cond.instanceMethod yX5_match, Cond.selects RX5 yX5_match yX5_match, Cond.code yX5_match cX5_match 9 none, Cond.fieldLink RX5 250 "ReuseHouse$Code" "b" "[I", Cond.fieldLink RX5 260 "ReuseHouse$Program" "arms" "LReuseHouse$Arms;", Cond.fieldLink RX5 264 "ReuseHouse$Arms" "before" "[I", Cond.fieldLink RX5 276 "ReuseHouse$Arms" "kind" "[I", Cond.fieldLink RX5 286 "ReuseHouse$Code" "needed" "[I", Cond.methodLink RX5 253 yX1_kindOf, Cond.instanceMethod yX1_kindOf, Cond.selects RX1 yX1_kindOf yX1_kindOf, Cond.code yX1_kindOf cX1_kindOf 3 (some .int), Cond.methodLink RX1 74 yX1_isInt]
def wsX11_run_r12 : List Cond := [Cond.methodLink RX5 257 yX5_fittingArm, Cond.instanceMethod yX5_fittingArm, Cond.selects RX5 yX5_fittingArm yX5_fittingArm, Cond.code yX5_fittingArm cX5_fittingArm 6 (some .int), Cond.fieldLink RX5 289 "ReuseHouse$Arms" "next" "[I", Cond.methodLink RX5 269 yX5_bindPlainly, Cond.instanceMethod yX5_bindPlainly, Cond.selects RX5 yX5_bindPlainly yX5_bindPlainly, Cond.code yX5_bindPlainly cX5_bindPlainly 5 none, Cond.fieldLink RX5 293 "ReuseHouse$Arms" "firstSlot" "[I", Cond.methodLink RX5 290 yX9_armFields, Cond.instanceMethod yX9_armFields, Cond.selects RX9 yX9_armFields yX9_armFields, Cond.initialized RX9, Cond.code yX9_armFields cX9_armFields 2 (some .int), Cond.fieldLink RX9 26 "ReuseHouse$Program" "kinds" "LReuseHouse$Kinds;", Cond.fieldLink RX9 19 "ReuseHouse$Program" "arms" "LReuseHouse$Arms;", Cond.fieldLink RX9 46 "ReuseHouse$Arms" "kind" "[I", Cond.methodLink RX9 50 yX4_fieldsOf, Cond.methodLink RX5 279 yX1_isCell, Cond.methodLink RX5 296 yX1_field, Cond.methodLink RX5 273 yX5_keepShell, Cond.instanceMethod yX5_keepShell, Cond.selects RX5 yX5_keepShell yX5_keepShell]
def wsX11_run_r13 : List Cond := [Cond.code yX5_keepShell cX5_keepShell 2 none, Cond.methodLink RX5 282 yX5_takeApart, Cond.instanceMethod yX5_takeApart, Cond.selects RX5 yX5_takeApart yX5_takeApart, Cond.code yX5_takeApart cX5_takeApart 10 (some .int), Cond.fieldLink RX5 300 "ReuseHouse$Cells" "count" "[I", Cond.methodLink RX5 303 yX9_buildsAsMany, Cond.instanceMethod yX9_buildsAsMany, Cond.selects RX9 yX9_buildsAsMany yX9_buildsAsMany, Cond.code yX9_buildsAsMany cX9_buildsAsMany 2 (some .boolean), Cond.fieldLink RX9 54 "ReuseHouse$Arms" "builds" "[I", Cond.methodLink RX9 57 yX9_armFields, Cond.methodLink RX5 306 yX1_free, Cond.methodLink RX5 150 yX5_leaveArm, Cond.instanceMethod yX5_leaveArm, Cond.selects RX5 yX5_leaveArm yX5_leaveArm, Cond.code yX5_leaveArm cX5_leaveArm 2 none, Cond.methodLink RX5 153 yX5_closeCall, Cond.instanceMethod yX5_closeCall, Cond.selects RX5 yX5_closeCall yX5_closeCall, Cond.code yX5_closeCall cX5_closeCall 3 none, Cond.methodLink RX5 156 yX5_sign, Cond.instanceMethod yX5_sign, Cond.selects RX5 yX5_sign yX5_sign]
def wsX11_run_r14 : List Cond := [Cond.code yX5_sign cX5_sign 6 none, Cond.methodLink RX5 204 yX5_reckon, Cond.static yX5_reckon, Cond.code yX5_reckon cX5_reckon 3 (some .int)]
def wsX11_run : List Cond := .code yX11_run cX11_run 8 (some .int) :: ((wsX11_run_r1 ++ (wsX11_run_r2 ++ (wsX11_run_r3 ++ (wsX11_run_r4 ++ (wsX11_run_r5 ++ (wsX11_run_r6 ++ (wsX11_run_r7 ++ (wsX11_run_r8 ++ (wsX11_run_r9 ++ (wsX11_run_r10 ++ (wsX11_run_r11 ++ (wsX11_run_r12 ++ (wsX11_run_r13 ++ wsX11_run_r14))))))))))))) ++ wsX110 ++ wsX90 ++ wsX50 ++ wsX10 ++ wsX30 ++ wsX20 ++ wsX40 ++ wsX00)
def wsX11_plain_r1 : List Cond := [Cond.fieldLink RX11 49 "ReuseHouse" "plainCells" "LReuseHouse$Cells;", Cond.fieldLink RX11 20 "ReuseHouse" "taken" "LReuseHouse$Program;", Cond.fieldLink RX11 123 "ReuseHouse$Program" "kinds" "LReuseHouse$Kinds;", Cond.fieldLink RX11 36 "ReuseHouse" "machine" "LReuseHouse$Machine;", Cond.fieldLink RX11 141 "ReuseHouse$Machine" "stopPlace" "I", Cond.fieldLink RX11 62 "ReuseHouse" "stopPlace" "I", Cond.fieldLink RX11 148 "ReuseHouse$Machine" "how" "I", Cond.fieldLink RX11 82 "ReuseHouse" "hasOther" "Z", Cond.fieldLink RX11 151 "ReuseHouse$Machine" "result" "J", Cond.fieldLink RX11 85 "ReuseHouse" "otherValue" "J", Cond.methodLink RX11 119 yX11_mayWork, Cond.instanceMethod yX11_mayWork, Cond.selects RX11 yX11_mayWork yX11_mayWork, Cond.initialized RX11, Cond.code yX11_mayWork cX11_mayWork 3 (some .boolean), Cond.fieldLink RX11 102 "ReuseHouse$Program" "functions" "LReuseHouse$Functions;", Cond.methodLink RX11 111 yX3_has, Cond.instanceMethod yX3_has, Cond.selects RX3 yX3_has yX3_has, Cond.initialized RX3, Cond.code yX3_has cX3_has 2 (some .boolean), Cond.fieldLink RX3 22 "ReuseHouse$Functions" "size" "I", Cond.methodLink RX11 127 yX1_begin, Cond.instanceMethod yX1_begin]
def wsX11_plain_r2 : List Cond := [Cond.selects RX1 yX1_begin yX1_begin, Cond.initialized RX1, Cond.code yX1_begin cX1_begin 3 none, Cond.fieldLink RX1 59 "ReuseHouse$Cells" "kinds" "LReuseHouse$Kinds;", Cond.fieldLink RX1 45 "ReuseHouse$Cells" "kind" "[I", Cond.methodLink RX1 63 Lib.Math.min.name, Cond.static Lib.Math.min.name, Cond.initialized "java/lang/Math", Cond.code Lib.Math.min.name Lib.Math.min.code 2 (some .int), Cond.fieldLink RX1 9 "ReuseHouse$Cells" "limit" "I", Cond.fieldLink RX1 15 "ReuseHouse$Cells" "fresh" "I", Cond.fieldLink RX1 18 "ReuseHouse$Cells" "firstFree" "I", Cond.fieldLink RX1 21 "ReuseHouse$Cells" "held" "I", Cond.fieldLink RX1 24 "ReuseHouse$Cells" "mostHeld" "I", Cond.fieldLink RX1 27 "ReuseHouse$Cells" "made" "I", Cond.fieldLink RX1 30 "ReuseHouse$Cells" "reused" "I", Cond.fieldLink RX1 33 "ReuseHouse$Cells" "freed" "I", Cond.fieldLink RX1 36 "ReuseHouse$Cells" "doubled" "I", Cond.methodLink RX11 131 yX5_begin, Cond.instanceMethod yX5_begin, Cond.selects RX5 yX5_begin yX5_begin, Cond.initialized RX5, Cond.code yX5_begin cX5_begin 5 none, Cond.fieldLink RX5 67 "ReuseHouse$Machine" "program" "LReuseHouse$Program;"]
def wsX11_plain_r3 : List Cond := [Cond.fieldLink RX5 71 "ReuseHouse$Program" "code" "LReuseHouse$Code;", Cond.fieldLink RX5 77 "ReuseHouse$Machine" "code" "LReuseHouse$Code;", Cond.fieldLink RX5 83 "ReuseHouse$Machine" "cells" "LReuseHouse$Cells;", Cond.fieldLink RX5 9 "ReuseHouse$Machine" "counted" "Z", Cond.fieldLink RX5 48 "ReuseHouse$Machine" "allowed" "I", Cond.fieldLink RX5 19 "ReuseHouse$Machine" "top" "I", Cond.fieldLink RX5 23 "ReuseHouse$Machine" "base" "I", Cond.fieldLink RX5 36 "ReuseHouse$Machine" "open" "I", Cond.fieldLink RX5 42 "ReuseHouse$Machine" "shellTop" "I", Cond.fieldLink RX5 51 "ReuseHouse$Machine" "steps" "I", Cond.fieldLink RX5 54 "ReuseHouse$Machine" "mostOpen" "I", Cond.fieldLink RX5 57 "ReuseHouse$Machine" "how" "I", Cond.fieldLink RX5 60 "ReuseHouse$Machine" "stopPlace" "I", Cond.fieldLink RX5 63 "ReuseHouse$Machine" "result" "J", Cond.methodLink RX11 134 yX11_tellInts, Cond.instanceMethod yX11_tellInts, Cond.selects RX11 yX11_tellInts yX11_tellInts, Cond.code yX11_tellInts cX11_tellInts 9 none, Cond.methodLink RX11 115 yX3_fact, Cond.instanceMethod yX3_fact, Cond.selects RX3 yX3_fact yX3_fact, Cond.code yX3_fact cX3_fact 3 (some .int), Cond.fieldLink RX3 19 "ReuseHouse$Functions" "facts" "[I", Cond.methodLink RX3 26 yX3_has]
def wsX11_plain_r4 : List Cond := [Cond.methodLink RX11 157 yX1_ofInt, Cond.static yX1_ofInt, Cond.code yX1_ofInt cX1_ofInt 1 (some .long), Cond.constantLong RX1 66 (4294967295), Cond.methodLink RX11 161 yX5_push, Cond.instanceMethod yX5_push, Cond.selects RX5 yX5_push yX5_push, Cond.code yX5_push cX5_push 3 none, Cond.fieldLink RX5 15 "ReuseHouse$Machine" "stack" "[J", Cond.methodLink RX11 138 yX5_work, Cond.instanceMethod yX5_work, Cond.selects RX5 yX5_work yX5_work, Cond.code yX5_work cX5_work 3 none, Cond.constant RX5 91 (100000), Cond.fieldLink RX5 45 "ReuseHouse$Machine" "at" "I", Cond.methodLink RX5 87 yX5_openCall, Cond.instanceMethod yX5_openCall, Cond.selects RX5 yX5_openCall yX5_openCall, Cond.code yX5_openCall cX5_openCall 3 none, Cond.fieldLink RX5 165 "ReuseHouse$Program" "functions" "LReuseHouse$Functions;", Cond.methodLink RX5 210 Lib.Math.max.name, Cond.static Lib.Math.max.name, Cond.code Lib.Math.max.name Lib.Math.max.code 2 (some .int), Cond.methodLink RX5 215 Lib.Math.min.name]
def wsX11_plain_r5 : List Cond := [Cond.fieldLink RX5 26 "ReuseHouse$Machine" "callBase" "[I", Cond.fieldLink RX5 30 "ReuseHouse$Machine" "callBack" "[I", Cond.fieldLink RX5 33 "ReuseHouse$Machine" "callShells" "[I", Cond.fieldLink RX5 218 "ReuseHouse$Functions" "enter" "[I", Cond.methodLink RX5 208 yX3_has, Cond.methodLink RX5 169 yX3_fact, Cond.methodLink RX5 92 yX5_turn, Cond.instanceMethod yX5_turn, Cond.selects RX5 yX5_turn yX5_turn, Cond.code yX5_turn cX5_turn 2 none, Cond.fieldLink RX5 95 "ReuseHouse$Code" "next" "[I", Cond.fieldLink RX5 100 "ReuseHouse$Code" "op" "[I", Cond.fieldLink RX5 103 "ReuseHouse$Code" "a" "[I", Cond.methodLink RX5 106 yX5_toldBits, Cond.instanceMethod yX5_toldBits, Cond.selects RX5 yX5_toldBits yX5_toldBits, Cond.code yX5_toldBits cX5_toldBits 2 (some .int), Cond.methodLink RX5 110 yX2_neededBehind, Cond.instanceMethod yX2_neededBehind, Cond.selects RX2 yX2_neededBehind yX2_neededBehind, Cond.initialized RX2, Cond.code yX2_neededBehind cX2_neededBehind 3 (some .int), Cond.fieldLink RX2 24 "ReuseHouse$Code" "next" "[I", Cond.fieldLink RX2 27 "ReuseHouse$Code" "needed" "[I"]
def wsX11_plain_r6 : List Cond := [Cond.methodLink RX5 113 yX5_dropNames, Cond.instanceMethod yX5_dropNames, Cond.selects RX5 yX5_dropNames yX5_dropNames, Cond.code yX5_dropNames cX5_dropNames 3 none, Cond.methodLink RX5 175 yX5_has, Cond.static yX5_has, Cond.code yX5_has cX5_has 2 (some .boolean), Cond.methodLink RX5 179 yX1_drop, Cond.instanceMethod yX1_drop, Cond.selects RX1 yX1_drop yX1_drop, Cond.code yX1_drop cX1_drop 7 none, Cond.fieldLink RX1 49 "ReuseHouse$Cells" "count" "[I", Cond.methodLink RX1 88 yX1_lower, Cond.instanceMethod yX1_lower, Cond.selects RX1 yX1_lower yX1_lower, Cond.code yX1_lower cX1_lower 5 (some .int), Cond.methodLink RX1 78 yX1_isCell, Cond.static yX1_isCell, Cond.code yX1_isCell cX1_isCell 2 (some .boolean), Cond.constantLong RX1 72 (2), Cond.methodLink RX1 85 yX1_width, Cond.instanceMethod yX1_width, Cond.selects RX1 yX1_width yX1_width, Cond.code yX1_width cX1_width 2 (some .int)]
def wsX11_plain_r7 : List Cond := [Cond.methodLink RX1 81 yX4_fieldsOf, Cond.instanceMethod yX4_fieldsOf, Cond.selects RX4 yX4_fieldsOf yX4_fieldsOf, Cond.initialized RX4, Cond.code yX4_fieldsOf cX4_fieldsOf 2 (some .int), Cond.fieldLink RX4 19 "ReuseHouse$Kinds" "size" "I", Cond.fieldLink RX4 15 "ReuseHouse$Kinds" "fields" "[I", Cond.methodLink RX1 92 yX1_field, Cond.instanceMethod yX1_field, Cond.selects RX1 yX1_field yX1_field, Cond.code yX1_field cX1_field 3 (some .long), Cond.fieldLink RX1 52 "ReuseHouse$Cells" "fields" "[J", Cond.methodLink RX1 96 yX1_free, Cond.instanceMethod yX1_free, Cond.selects RX1 yX1_free yX1_free, Cond.code yX1_free cX1_free 2 none, Cond.methodLink RX5 116 yX5_step, Cond.instanceMethod yX5_step, Cond.selects RX5 yX5_step yX5_step, Cond.code yX5_step cX5_step 2 (some .boolean), Cond.methodLink RX5 162 yX5_stop, Cond.instanceMethod yX5_stop, Cond.selects RX5 yX5_stop yX5_stop, Cond.code yX5_stop cX5_stop 3 none]
def wsX11_plain_r8 : List Cond := [Cond.fieldLink RX5 159 "ReuseHouse$Code" "place" "[I", Cond.methodLink RX5 120 yX5_number, Cond.instanceMethod yX5_number, Cond.selects RX5 yX5_number yX5_number, Cond.code yX5_number cX5_number 2 none, Cond.methodLink RX5 183 yX1_ofInt, Cond.methodLink RX5 187 yX5_push, Cond.methodLink RX5 123 yX5_useName, Cond.instanceMethod yX5_useName, Cond.selects RX5 yX5_useName yX5_useName, Cond.code yX5_useName cX5_useName 5 none, Cond.methodLink RX5 193 yX1_copy, Cond.instanceMethod yX1_copy, Cond.selects RX1 yX1_copy yX1_copy, Cond.code yX1_copy cX1_copy 3 none, Cond.methodLink RX5 126 yX5_kindAlone, Cond.instanceMethod yX5_kindAlone, Cond.selects RX5 yX5_kindAlone yX5_kindAlone, Cond.code yX5_kindAlone cX5_kindAlone 2 none, Cond.methodLink RX5 190 yX1_ofKind, Cond.static yX1_ofKind, Cond.code yX1_ofKind cX1_ofKind 1 (some .long), Cond.constantLong RX1 68 (4294967296), Cond.methodLink RX5 129 yX5_build]
def wsX11_plain_r9 : List Cond := [Cond.instanceMethod yX5_build, Cond.selects RX5 yX5_build yX5_build, Cond.code yX5_build cX5_build 5 none, Cond.fieldLink RX5 221 "ReuseHouse$Program" "kinds" "LReuseHouse$Kinds;", Cond.fieldLink RX5 237 "ReuseHouse$Cells" "reused" "I", Cond.methodLink RX5 225 yX4_fieldsOf, Cond.methodLink RX5 230 yX5_takeShell, Cond.instanceMethod yX5_takeShell, Cond.selects RX5 yX5_takeShell yX5_takeShell, Cond.code yX5_takeShell cX5_takeShell 5 (some .int), Cond.fieldLink RX5 39 "ReuseHouse$Machine" "shells" "[I", Cond.methodLink RX5 247 yX1_width, Cond.methodLink RX5 233 yX1_take, Cond.instanceMethod yX1_take, Cond.selects RX1 yX1_take yX1_take, Cond.code yX1_take cX1_take 2 (some .int), Cond.methodLink RX1 39 Lib.Math.max.name, Cond.methodLink RX5 240 yX1_fill, Cond.instanceMethod yX1_fill, Cond.selects RX1 yX1_fill yX1_fill, Cond.code yX1_fill cX1_fill 6 none, Cond.methodLink RX5 244 yX1_ofCell, Cond.static yX1_ofCell, Cond.code yX1_ofCell cX1_ofCell 1 (some .long)]
def wsX11_plain_r10 : List Cond := [Cond.constantLong RX1 70 (8589934592), Cond.methodLink RX5 132 yX5_callAlone, Cond.instanceMethod yX5_callAlone, Cond.selects RX5 yX5_callAlone yX5_callAlone, Cond.code yX5_callAlone cX5_callAlone 2 none, Cond.methodLink RX5 135 yX5_call, Cond.instanceMethod yX5_call, Cond.selects RX5 yX5_call yX5_call, Cond.code yX5_call cX5_call 2 none, Cond.methodLink RX5 138 yX5_bind, Cond.instanceMethod yX5_bind, Cond.selects RX5 yX5_bind yX5_bind, Cond.code yX5_bind cX5_bind 3 none, Cond.methodLink RX5 196 yX5_pop, Cond.instanceMethod yX5_pop, Cond.selects RX5 yX5_pop yX5_pop, Cond.code yX5_pop cX5_pop 1 (some .long), Cond.methodLink RX5 141 yX5_choose, Cond.instanceMethod yX5_choose, Cond.selects RX5 yX5_choose yX5_choose, Cond.code yX5_choose cX5_choose 6 none, Cond.methodLink RX5 200 yX1_isInt, Cond.static yX1_isInt, Cond.code yX1_isInt cX1_isInt 2 (some .boolean)]
def wsX11_plain_r11 : List Cond := [Cond.methodLink RX5 144 yX5_goBehind, Cond.instanceMethod yX5_goBehind, Cond.selects RX5 yX5_goBehind yX5_goBehind, Cond.code yX5_goBehind cX5_goBehind 2 none, Cond.methodLink RX5 147 yX5_match, Cond.instanceMethod yX5_match, Cond.selects RX5 yX5_match yX5_match, Cond.code yX5_match cX5_match 9 none, Cond.fieldLink RX5 250 "ReuseHouse$Code" "b" "[I", Cond.fieldLink RX5 260 "ReuseHouse$Program" "arms" "LReuseHouse$Arms;", Cond.fieldLink RX5 264 "ReuseHouse$Arms" "before" "[I", Cond.fieldLink RX5 276 "ReuseHouse$Arms" "kind" "[I", Cond.fieldLink RX5 286 "ReuseHouse$Code" "needed" "[I", Cond.methodLink RX5 253 yX1_kindOf, Cond.instanceMethod yX1_kindOf, Cond.selects RX1 yX1_kindOf yX1_kindOf, Cond.code yX1_kindOf cX1_kindOf 3 (some .int), Cond.methodLink RX1 74 yX1_isInt, Cond.methodLink RX5 257 yX5_fittingArm, Cond.instanceMethod yX5_fittingArm, Cond.selects RX5 yX5_fittingArm yX5_fittingArm, Cond.code yX5_fittingArm cX5_fittingArm 6 (some .int), Cond.fieldLink RX5 289 "ReuseHouse$Arms" "next" "[I", Cond.methodLink RX5 269 yX5_bindPlainly]
def wsX11_plain_r12 : List Cond := [Cond.instanceMethod yX5_bindPlainly, Cond.selects RX5 yX5_bindPlainly yX5_bindPlainly, Cond.code yX5_bindPlainly cX5_bindPlainly 5 none, Cond.fieldLink RX5 293 "ReuseHouse$Arms" "firstSlot" "[I", Cond.methodLink RX5 290 yX9_armFields, Cond.instanceMethod yX9_armFields, Cond.selects RX9 yX9_armFields yX9_armFields, Cond.initialized RX9, Cond.code yX9_armFields cX9_armFields 2 (some .int), Cond.fieldLink RX9 26 "ReuseHouse$Program" "kinds" "LReuseHouse$Kinds;", Cond.fieldLink RX9 19 "ReuseHouse$Program" "arms" "LReuseHouse$Arms;", Cond.fieldLink RX9 46 "ReuseHouse$Arms" "kind" "[I", Cond.methodLink RX9 50 yX4_fieldsOf, Cond.methodLink RX5 279 yX1_isCell, Cond.methodLink RX5 296 yX1_field, Cond.methodLink RX5 273 yX5_keepShell, Cond.instanceMethod yX5_keepShell, Cond.selects RX5 yX5_keepShell yX5_keepShell, Cond.code yX5_keepShell cX5_keepShell 2 none, Cond.methodLink RX5 282 yX5_takeApart, Cond.instanceMethod yX5_takeApart, Cond.selects RX5 yX5_takeApart yX5_takeApart, Cond.code yX5_takeApart cX5_takeApart 10 (some .int), Cond.fieldLink RX5 300 "ReuseHouse$Cells" "count" "[I"]
def wsX11_plain_r13 : List Cond := [Cond.methodLink RX5 303 yX9_buildsAsMany, Cond.instanceMethod yX9_buildsAsMany, Cond.selects RX9 yX9_buildsAsMany yX9_buildsAsMany, Cond.code yX9_buildsAsMany cX9_buildsAsMany 2 (some .boolean), Cond.fieldLink RX9 54 "ReuseHouse$Arms" "builds" "[I", Cond.methodLink RX9 57 yX9_armFields, Cond.methodLink RX5 306 yX1_free, Cond.methodLink RX5 150 yX5_leaveArm, Cond.instanceMethod yX5_leaveArm, Cond.selects RX5 yX5_leaveArm yX5_leaveArm, Cond.code yX5_leaveArm cX5_leaveArm 2 none, Cond.methodLink RX5 153 yX5_closeCall, Cond.instanceMethod yX5_closeCall, Cond.selects RX5 yX5_closeCall yX5_closeCall, Cond.code yX5_closeCall cX5_closeCall 3 none, Cond.methodLink RX5 156 yX5_sign, Cond.instanceMethod yX5_sign, Cond.selects RX5 yX5_sign yX5_sign, Cond.code yX5_sign cX5_sign 6 none, Cond.methodLink RX5 204 yX5_reckon, Cond.static yX5_reckon, Cond.code yX5_reckon cX5_reckon 3 (some .int)]
def wsX11_plain : List Cond := .code yX11_plain cX11_plain 7 (some .int) :: ((wsX11_plain_r1 ++ (wsX11_plain_r2 ++ (wsX11_plain_r3 ++ (wsX11_plain_r4 ++ (wsX11_plain_r5 ++ (wsX11_plain_r6 ++ (wsX11_plain_r7 ++ (wsX11_plain_r8 ++ (wsX11_plain_r9 ++ (wsX11_plain_r10 ++ (wsX11_plain_r11 ++ (wsX11_plain_r12 ++ wsX11_plain_r13)))))))))))) ++ wsX110 ++ wsX90 ++ wsX50 ++ wsX30 ++ wsX10 ++ wsX20 ++ wsX40 ++ wsX00)
def wsX11_show_r1 : List Cond := [Cond.fieldLink RX11 82 "ReuseHouse" "hasOther" "Z", Cond.fieldLink RX11 55 "ReuseHouse" "printer" "LReuseHouse$Printer;", Cond.fieldLink RX11 85 "ReuseHouse" "otherValue" "J", Cond.fieldLink RX11 49 "ReuseHouse" "plainCells" "LReuseHouse$Cells;", Cond.fieldLink RX11 75 "ReuseHouse" "hasValue" "Z", Cond.fieldLink RX11 78 "ReuseHouse" "value" "J", Cond.fieldLink RX11 45 "ReuseHouse" "countedCells" "LReuseHouse$Cells;", Cond.methodLink RX11 165 yX8_print, Cond.instanceMethod yX8_print, Cond.selects RX8 yX8_print yX8_print, Cond.initialized RX8, Cond.code yX8_print cX8_print 5 (some .int), Cond.fieldLink RX8 22 "ReuseHouse$Printer" "spareSize" "I", Cond.fieldLink RX8 25 "ReuseHouse$Printer" "tooLong" "Z", Cond.fieldLink RX8 36 "ReuseHouse$Printer" "open" "I", Cond.fieldLink RX8 9 "ReuseHouse$Printer" "bytes" "[B", Cond.fieldLink RX8 19 "ReuseHouse$Printer" "spare" "[B", Cond.fieldLink RX8 15 "ReuseHouse$Printer" "size" "I", Cond.methodLink RX8 39 yX8_putValue, Cond.instanceMethod yX8_putValue, Cond.selects RX8 yX8_putValue yX8_putValue, Cond.code yX8_putValue cX8_putValue 4 none, Cond.fieldLink RX8 68 "ReuseHouse$Cells" "kinds" "LReuseHouse$Kinds;", Cond.methodLink RX8 61 yX1_isInt]
def wsX11_show_r2 : List Cond := [Cond.static yX1_isInt, Cond.initialized RX1, Cond.code yX1_isInt cX1_isInt 2 (some .boolean), Cond.methodLink RX8 65 yX8_putInt, Cond.instanceMethod yX8_putInt, Cond.selects RX8 yX8_putInt yX8_putInt, Cond.code yX8_putInt cX8_putInt 6 none, Cond.constantLong RX8 92 (1000000000), Cond.constantLong RX8 94 (10), Cond.methodLink RX8 53 yX8_put, Cond.instanceMethod yX8_put, Cond.selects RX8 yX8_put yX8_put, Cond.code yX8_put cX8_put 2 none, Cond.methodLink RX8 72 yX1_kindOf, Cond.instanceMethod yX1_kindOf, Cond.selects RX1 yX1_kindOf yX1_kindOf, Cond.code yX1_kindOf cX1_kindOf 3 (some .int), Cond.fieldLink RX1 45 "ReuseHouse$Cells" "kind" "[I", Cond.methodLink RX1 74 yX1_isInt, Cond.methodLink RX1 78 yX1_isCell, Cond.static yX1_isCell, Cond.code yX1_isCell cX1_isCell 2 (some .boolean), Cond.constantLong RX1 72 (2), Cond.methodLink RX8 76 yX4_wordOf]
def wsX11_show_r3 : List Cond := [Cond.instanceMethod yX4_wordOf, Cond.selects RX4 yX4_wordOf yX4_wordOf, Cond.initialized RX4, Cond.code yX4_wordOf cX4_wordOf 2 (some .long), Cond.fieldLink RX4 19 "ReuseHouse$Kinds" "size" "I", Cond.fieldLink RX4 9 "ReuseHouse$Kinds" "word" "[J", Cond.methodLink RX8 82 yX8_putKind, Cond.instanceMethod yX8_putKind, Cond.selects RX8 yX8_putKind yX8_putKind, Cond.code yX8_putKind cX8_putKind 5 none, Cond.methodLink RX8 86 yX1_isCell, Cond.methodLink RX8 89 yX8_openFields, Cond.instanceMethod yX8_openFields, Cond.selects RX8 yX8_openFields yX8_openFields, Cond.code yX8_openFields cX8_openFields 2 none, Cond.fieldLink RX8 29 "ReuseHouse$Printer" "openCell" "[I", Cond.fieldLink RX8 33 "ReuseHouse$Printer" "openField" "[I", Cond.methodLink RX8 43 yX8_putNextField, Cond.instanceMethod yX8_putNextField, Cond.selects RX8 yX8_putNextField yX8_putNextField, Cond.code yX8_putNextField cX8_putNextField 4 none, Cond.methodLink RX8 47 yX1_width, Cond.instanceMethod yX1_width, Cond.selects RX1 yX1_width yX1_width]
def wsX11_show_r4 : List Cond := [Cond.code yX1_width cX1_width 2 (some .int), Cond.fieldLink RX1 59 "ReuseHouse$Cells" "kinds" "LReuseHouse$Kinds;", Cond.methodLink RX1 81 yX4_fieldsOf, Cond.instanceMethod yX4_fieldsOf, Cond.selects RX4 yX4_fieldsOf yX4_fieldsOf, Cond.code yX4_fieldsOf cX4_fieldsOf 2 (some .int), Cond.fieldLink RX4 15 "ReuseHouse$Kinds" "fields" "[I", Cond.methodLink RX8 57 yX1_field, Cond.instanceMethod yX1_field, Cond.selects RX1 yX1_field yX1_field, Cond.code yX1_field cX1_field 3 (some .long), Cond.fieldLink RX1 52 "ReuseHouse$Cells" "fields" "[J"]
def wsX11_show : List Cond := .code yX11_show cX11_show 2 (some .int) :: ((wsX11_show_r1 ++ (wsX11_show_r2 ++ (wsX11_show_r3 ++ wsX11_show_r4))) ++ wsX110 ++ wsX80 ++ wsX10 ++ wsX40)
def wsX11_out : List Cond := .code yX11_out cX11_out 2 (some .int) :: ([.classLink RX11 170 "java/util/NoSuchElementException", .initialized "java/util/NoSuchElementException", .fieldLink RX11 55 "ReuseHouse" "printer" "LReuseHouse$Printer;", .fieldLink RX11 173 "ReuseHouse$Printer" "bytes" "[B", .methodLink RX11 169 yX8_has, .instanceMethod yX8_has, .selects RX8 yX8_has yX8_has, .initialized RX8, .code yX8_has cX8_has 2 (some .boolean), .fieldLink RX8 15 "ReuseHouse$Printer" "size" "I"] ++ wsX110 ++ wsX80 ++ (vx_at0 RX11 172 "java/util/NoSuchElementException" ["java/lang/RuntimeException", "java/lang/Exception"]).filter goodWord)
def wsX11_release_r1 : List Cond := [Cond.fieldLink RX11 75 "ReuseHouse" "hasValue" "Z", Cond.fieldLink RX11 45 "ReuseHouse" "countedCells" "LReuseHouse$Cells;", Cond.fieldLink RX11 176 "ReuseHouse$Cells" "freed" "I", Cond.fieldLink RX11 78 "ReuseHouse" "value" "J", Cond.methodLink RX11 179 yX1_drop, Cond.instanceMethod yX1_drop, Cond.selects RX1 yX1_drop yX1_drop, Cond.initialized RX1, Cond.code yX1_drop cX1_drop 7 none, Cond.fieldLink RX1 45 "ReuseHouse$Cells" "kind" "[I", Cond.fieldLink RX1 49 "ReuseHouse$Cells" "count" "[I", Cond.methodLink RX1 88 yX1_lower, Cond.instanceMethod yX1_lower, Cond.selects RX1 yX1_lower yX1_lower, Cond.code yX1_lower cX1_lower 5 (some .int), Cond.methodLink RX1 78 yX1_isCell, Cond.static yX1_isCell, Cond.code yX1_isCell cX1_isCell 2 (some .boolean), Cond.constantLong RX1 72 (2), Cond.methodLink RX1 85 yX1_width, Cond.instanceMethod yX1_width, Cond.selects RX1 yX1_width yX1_width, Cond.code yX1_width cX1_width 2 (some .int), Cond.fieldLink RX1 59 "ReuseHouse$Cells" "kinds" "LReuseHouse$Kinds;"]
def wsX11_release_r2 : List Cond := [Cond.methodLink RX1 81 yX4_fieldsOf, Cond.instanceMethod yX4_fieldsOf, Cond.selects RX4 yX4_fieldsOf yX4_fieldsOf, Cond.initialized RX4, Cond.code yX4_fieldsOf cX4_fieldsOf 2 (some .int), Cond.fieldLink RX4 19 "ReuseHouse$Kinds" "size" "I", Cond.fieldLink RX4 15 "ReuseHouse$Kinds" "fields" "[I", Cond.methodLink RX1 92 yX1_field, Cond.instanceMethod yX1_field, Cond.selects RX1 yX1_field yX1_field, Cond.code yX1_field cX1_field 3 (some .long), Cond.fieldLink RX1 52 "ReuseHouse$Cells" "fields" "[J", Cond.methodLink RX1 96 yX1_free, Cond.instanceMethod yX1_free, Cond.selects RX1 yX1_free yX1_free, Cond.code yX1_free cX1_free 2 none, Cond.fieldLink RX1 18 "ReuseHouse$Cells" "firstFree" "I", Cond.fieldLink RX1 21 "ReuseHouse$Cells" "held" "I", Cond.fieldLink RX1 33 "ReuseHouse$Cells" "freed" "I"]
def wsX11_release : List Cond := .code yX11_release cX11_release 2 (some .int) :: ((wsX11_release_r1 ++ wsX11_release_r2) ++ wsX110 ++ wsX10 ++ wsX40)
def wsX11_count : List Cond := .code yX11_count cX11_count 2 (some .int) :: ([.fieldLink RX11 65 "ReuseHouse" "wasRun" "Z", .fieldLink RX11 69 "ReuseHouse" "runSteps" "I", .fieldLink RX11 45 "ReuseHouse" "countedCells" "LReuseHouse$Cells;", .fieldLink RX11 182 "ReuseHouse$Cells" "made" "I", .fieldLink RX11 185 "ReuseHouse$Cells" "reused" "I", .fieldLink RX11 176 "ReuseHouse$Cells" "freed" "I", .fieldLink RX11 188 "ReuseHouse$Cells" "mostHeld" "I", .fieldLink RX11 191 "ReuseHouse$Cells" "doubled" "I", .fieldLink RX11 154 "ReuseHouse$Cells" "held" "I", .fieldLink RX11 72 "ReuseHouse" "runCalls" "I"] ++ wsX110 ++ wsX10)
def wsX12_init_r1 : List Cond := [Cond.methodLink RX12 3 objectInit, Cond.instanceMethod objectInit, Cond.code objectInit ⟨#[0xb1]⟩ 1 none, Cond.arrayClass .byte, Cond.fieldLink RX12 9 "ReuseHouseModel$Program" "what" "[B", Cond.arrayClass .int, Cond.fieldLink RX12 15 "ReuseHouseModel$Program" "place" "[I", Cond.fieldLink RX12 19 "ReuseHouseModel$Program" "own" "[I", Cond.fieldLink RX12 22 "ReuseHouseModel$Program" "one" "[I", Cond.fieldLink RX12 25 "ReuseHouseModel$Program" "two" "[I", Cond.fieldLink RX12 28 "ReuseHouseModel$Program" "three" "[I", Cond.fieldLink RX12 31 "ReuseHouseModel$Program" "beside" "[I", Cond.fieldLink RX12 34 "ReuseHouseModel$Program" "many" "[I", Cond.fieldLink RX12 37 "ReuseHouseModel$Program" "uses" "[I", Cond.fieldLink RX12 40 "ReuseHouseModel$Program" "behind" "[I", Cond.arrayClass .long, Cond.fieldLink RX12 43 "ReuseHouseModel$Program" "name" "[J", Cond.fieldLink RX12 47 "ReuseHouseModel$Program" "makes" "[B", Cond.fieldLink RX12 50 "ReuseHouseModel$Program" "functionName" "[J", Cond.fieldLink RX12 53 "ReuseHouseModel$Program" "kindName" "[J", Cond.fieldLink RX12 56 "ReuseHouseModel$Program" "told" "[I", Cond.fieldLink RX12 59 "ReuseHouseModel$Program" "body" "[I", Cond.fieldLink RX12 62 "ReuseHouseModel$Program" "first" "[I", Cond.fieldLink RX12 65 "ReuseHouseModel$Program" "widest" "[I"]
def wsX12_init_r2 : List Cond := [Cond.fieldLink RX12 68 "ReuseHouseModel$Program" "fields" "[I"]
def wsX12_init : List Cond := .code yX12_init cX12_init 1 none :: ((wsX12_init_r1 ++ wsX12_init_r2) ++ wsX120)
def wsX13_init : List Cond := .code yX13_init cX13_init 1 none :: ([])
def wsX14_init_r1 : List Cond := [Cond.methodLink RX14 1 objectInit, Cond.instanceMethod objectInit, Cond.code objectInit ⟨#[0xb1]⟩ 1 none, Cond.classLink RX14 7 RX13, Cond.instantiable RX13 8, Cond.initialized RX13, Cond.fieldLink RX14 10 "ReuseHouseModel" "stop" "LReuseHouseModel$Stop;", Cond.arrayClass .byte, Cond.fieldLink RX14 16 "ReuseHouseModel" "tape" "[B", Cond.classLink RX14 20 RX12, Cond.instantiable RX12 22, Cond.initialized RX12, Cond.fieldLink RX14 23 "ReuseHouseModel" "p" "LReuseHouseModel$Program;", Cond.fieldLink RX14 27 "ReuseHouseModel" "spare" "LReuseHouseModel$Program;", Cond.arrayClass .long, Cond.fieldLink RX14 30 "ReuseHouseModel" "scope" "[J", Cond.fieldLink RX14 34 "ReuseHouseModel" "where" "I", Cond.arrayClass .int, Cond.fieldLink RX14 38 "ReuseHouseModel" "cellKind" "[I", Cond.fieldLink RX14 42 "ReuseHouseModel" "cellCount" "[I", Cond.fieldLink RX14 45 "ReuseHouseModel" "free" "[I", Cond.fieldLink RX14 48 "ReuseHouseModel" "pile" "[I", Cond.fieldLink RX14 51 "ReuseHouseModel" "cellField" "[J", Cond.fieldLink RX14 54 "ReuseHouseModel" "otherKind" "[I"]
def wsX14_init_r2 : List Cond := [Cond.fieldLink RX14 57 "ReuseHouseModel" "otherField" "[J", Cond.fieldLink RX14 60 "ReuseHouseModel" "taskWhat" "[B", Cond.fieldLink RX14 63 "ReuseHouseModel" "taskPart" "[I", Cond.fieldLink RX14 66 "ReuseHouseModel" "values" "[J", Cond.fieldLink RX14 69 "ReuseHouseModel" "slots" "[J", Cond.fieldLink RX14 72 "ReuseHouseModel" "present" "[I", Cond.fieldLink RX14 75 "ReuseHouseModel" "shell" "[I", Cond.fieldLink RX14 78 "ReuseHouseModel" "shellArm" "[I", Cond.fieldLink RX14 81 "ReuseHouseModel" "shellCall" "[I", Cond.fieldLink RX14 84 "ReuseHouseModel" "keptCounts" "[I", Cond.fieldLink RX14 87 "ReuseHouseModel" "asideKind" "[I", Cond.fieldLink RX14 90 "ReuseHouseModel" "asideCount" "[I", Cond.fieldLink RX14 93 "ReuseHouseModel" "asideField" "[J", Cond.fieldLink RX14 96 "ReuseHouseModel" "out" "[B", Cond.fieldLink RX14 99 "ReuseHouseModel" "side" "[B", Cond.fieldLink RX14 102 "ReuseHouseModel" "saying" "[J", Cond.methodLink RX14 9 yX13_init, Cond.instanceMethod yX13_init, Cond.code yX13_init cX13_init 1 none, Cond.instanceMethod yX12_init, Cond.code yX12_init cX12_init 1 none, Cond.methodLink RX12 3 objectInit, Cond.fieldLink RX12 9 "ReuseHouseModel$Program" "what" "[B", Cond.fieldLink RX12 15 "ReuseHouseModel$Program" "place" "[I"]
def wsX14_init_r3 : List Cond := [Cond.fieldLink RX12 19 "ReuseHouseModel$Program" "own" "[I", Cond.fieldLink RX12 22 "ReuseHouseModel$Program" "one" "[I", Cond.fieldLink RX12 25 "ReuseHouseModel$Program" "two" "[I", Cond.fieldLink RX12 28 "ReuseHouseModel$Program" "three" "[I", Cond.fieldLink RX12 31 "ReuseHouseModel$Program" "beside" "[I", Cond.fieldLink RX12 34 "ReuseHouseModel$Program" "many" "[I", Cond.fieldLink RX12 37 "ReuseHouseModel$Program" "uses" "[I", Cond.fieldLink RX12 40 "ReuseHouseModel$Program" "behind" "[I", Cond.fieldLink RX12 43 "ReuseHouseModel$Program" "name" "[J", Cond.fieldLink RX12 47 "ReuseHouseModel$Program" "makes" "[B", Cond.fieldLink RX12 50 "ReuseHouseModel$Program" "functionName" "[J", Cond.fieldLink RX12 53 "ReuseHouseModel$Program" "kindName" "[J", Cond.fieldLink RX12 56 "ReuseHouseModel$Program" "told" "[I", Cond.fieldLink RX12 59 "ReuseHouseModel$Program" "body" "[I", Cond.fieldLink RX12 62 "ReuseHouseModel$Program" "first" "[I", Cond.fieldLink RX12 65 "ReuseHouseModel$Program" "widest" "[I", Cond.fieldLink RX12 68 "ReuseHouseModel$Program" "fields" "[I"]
def wsX14_init : List Cond := .code yX14_init cX14_init 1 none :: ((wsX14_init_r1 ++ (wsX14_init_r2 ++ wsX14_init_r3)) ++ wsX130 ++ wsX140 ++ wsX120)
def wsX14_thrown : List Cond := .code yX14_thrown cX14_thrown 1 (some .int) :: ([.fieldLink RX14 105 "ReuseHouseModel" "thrown" "I"] ++ wsX140)
def wsX14_stop : List Cond := .code yX14_stop cX14_stop 3 (some (.object "ReuseHouseModel$Stop")) :: ([.fieldLink RX14 10 "ReuseHouseModel" "stop" "LReuseHouseModel$Stop;"] ++ wsX140 ++ wsX130)
def wsX14_byteAt : List Cond := .code yX14_byteAt cX14_byteAt 2 (some .int) :: ([.fieldLink RX14 114 "ReuseHouseModel" "length" "I", .fieldLink RX14 16 "ReuseHouseModel" "tape" "[B"] ++ wsX140)
def wsX14_next_r1 : List Cond := [Cond.fieldLink RX14 144 "ReuseHouseModel" "at" "I", Cond.fieldLink RX14 151 "ReuseHouseModel" "place" "I", Cond.fieldLink RX14 152 "ReuseHouseModel" "sort" "I", Cond.fieldLink RX14 155 "ReuseHouseModel" "sign" "I", Cond.fieldLink RX14 168 "ReuseHouseModel" "letters" "J", Cond.constantLong RX14 172 (10), Cond.methodLink RX14 147 yX14_byteAt, Cond.instanceMethod yX14_byteAt, Cond.selects RX14 yX14_byteAt yX14_byteAt, Cond.initialized RX14, Cond.code yX14_byteAt cX14_byteAt 2 (some .int), Cond.fieldLink RX14 114 "ReuseHouseModel" "length" "I", Cond.fieldLink RX14 16 "ReuseHouseModel" "tape" "[B", Cond.methodLink RX14 158 yX14_isSmall, Cond.static yX14_isSmall, Cond.code yX14_isSmall cX14_isSmall 1 (some .boolean), Cond.methodLink RX14 162 yX14_isGreat, Cond.static yX14_isGreat, Cond.code yX14_isGreat cX14_isGreat 1 (some .boolean), Cond.methodLink RX14 165 yX14_isDigit, Cond.static yX14_isDigit, Cond.code yX14_isDigit cX14_isDigit 1 (some .boolean), Cond.methodLink RX14 174 yX14_isKept, Cond.static yX14_isKept]
def wsX14_next_r2 : List Cond := [Cond.code yX14_isKept cX14_isKept 2 (some .boolean), Cond.methodLink RX14 128 yX14_lettersOf, Cond.static yX14_lettersOf, Cond.code yX14_lettersOf cX14_lettersOf 4 (some .long), Cond.methodLink RX14 117 yJ0_length_8abf5, Cond.instanceMethod yJ0_length_8abf5, Cond.selects RJ0 yJ0_length_8abf5 yJ0_length_8abf5, Cond.initialized RJ0, Cond.code yJ0_length_8abf5 cJ0_length_8abf5 1 (some .int), Cond.fieldLink RJ0 9 "java/lang/String" "value" "[B", Cond.methodLink RJ0 335 yJ0_coder_7d493, Cond.instanceMethod yJ0_coder_7d493, Cond.selects RJ0 yJ0_coder_7d493 yJ0_coder_7d493, Cond.code yJ0_coder_7d493 cJ0_coder_7d493 1 (some .byte), Cond.fieldLink RJ0 38 "java/lang/String" "COMPACT_STRINGS" "Z", Cond.fieldLink RJ0 15 "java/lang/String" "coder" "B", Cond.methodLink RX14 122 yJ0_charAt_5068e, Cond.instanceMethod yJ0_charAt_5068e, Cond.selects RJ0 yJ0_charAt_5068e yJ0_charAt_5068e, Cond.code yJ0_charAt_5068e cJ0_charAt_5068e 2 (some .char), Cond.methodLink RJ0 492 yJ0_isLatin1_aae02, Cond.instanceMethod yJ0_isLatin1_aae02, Cond.selects RJ0 yJ0_isLatin1_aae02 yJ0_isLatin1_aae02, Cond.code yJ0_isLatin1_aae02 cJ0_isLatin1_aae02 1 (some .boolean)]
def wsX14_next_r3 : List Cond := [Cond.methodLink RJ0 495 yJ1_charAt_3b067, Cond.static yJ1_charAt_3b067, Cond.initialized RJ1, Cond.code yJ1_charAt_3b067 cJ1_charAt_3b067 2 (some .char), Cond.methodLink RJ1 9 yJ0_checkIndex_df160, Cond.static yJ0_checkIndex_df160, Cond.code yJ0_checkIndex_df160 cJ0_checkIndex_df160 2 none, Cond.fieldLink RJ0 1053 "jdk/internal/util/Preconditions" "SIOOBE_FORMATTER" "Ljava/util/function/BiFunction;", Cond.methodLink RJ0 1059 yJ3_checkIndex_8e157, Cond.static yJ3_checkIndex_8e157, Cond.initialized RJ3, Cond.code yJ3_checkIndex_8e157 cJ3_checkIndex_8e157 3 (some .int), Cond.methodLink RJ0 498 yJ2_charAt_3b067, Cond.static yJ2_charAt_3b067, Cond.initialized RJ2, Cond.code yJ2_charAt_3b067 cJ2_charAt_3b067 2 (some .char), Cond.methodLink RJ2 67 yJ2_checkIndex_2214a, Cond.static yJ2_checkIndex_2214a, Cond.code yJ2_checkIndex_2214a cJ2_checkIndex_2214a 2 none, Cond.methodLink RJ2 48 yJ2_length_9d52b, Cond.static yJ2_length_9d52b, Cond.code yJ2_length_9d52b cJ2_length_9d52b 1 (some .int), Cond.methodLink RJ2 414 yJ0_checkIndex_df160, Cond.methodLink RJ2 71 yJ2_getChar_3b067]
def wsX14_next_r4 : List Cond := [Cond.static yJ2_getChar_3b067, Cond.code yJ2_getChar_3b067 cJ2_getChar_3b067 2 (some .char), Cond.fieldLink RJ2 44 "java/lang/StringUTF16" "$assertionsDisabled" "Z", Cond.fieldLink RJ2 59 "java/lang/StringUTF16" "HI_BYTE_SHIFT" "I", Cond.fieldLink RJ2 63 "java/lang/StringUTF16" "LO_BYTE_SHIFT" "I"]
def wsX14_next : List Cond := .code yX14_next cX14_next 6 none :: ((wsX14_next_r1 ++ (wsX14_next_r2 ++ (wsX14_next_r3 ++ wsX14_next_r4))) ++ wsX140)
def wsX14_isWord_r1 : List Cond := [Cond.fieldLink RX14 152 "ReuseHouseModel" "sort" "I", Cond.fieldLink RX14 168 "ReuseHouseModel" "letters" "J", Cond.methodLink RX14 128 yX14_lettersOf, Cond.static yX14_lettersOf, Cond.initialized RX14, Cond.code yX14_lettersOf cX14_lettersOf 4 (some .long), Cond.methodLink RX14 117 yJ0_length_8abf5, Cond.instanceMethod yJ0_length_8abf5, Cond.selects RJ0 yJ0_length_8abf5 yJ0_length_8abf5, Cond.initialized RJ0, Cond.code yJ0_length_8abf5 cJ0_length_8abf5 1 (some .int), Cond.fieldLink RJ0 9 "java/lang/String" "value" "[B", Cond.methodLink RJ0 335 yJ0_coder_7d493, Cond.instanceMethod yJ0_coder_7d493, Cond.selects RJ0 yJ0_coder_7d493 yJ0_coder_7d493, Cond.code yJ0_coder_7d493 cJ0_coder_7d493 1 (some .byte), Cond.fieldLink RJ0 38 "java/lang/String" "COMPACT_STRINGS" "Z", Cond.fieldLink RJ0 15 "java/lang/String" "coder" "B", Cond.methodLink RX14 122 yJ0_charAt_5068e, Cond.instanceMethod yJ0_charAt_5068e, Cond.selects RJ0 yJ0_charAt_5068e yJ0_charAt_5068e, Cond.code yJ0_charAt_5068e cJ0_charAt_5068e 2 (some .char), Cond.methodLink RJ0 492 yJ0_isLatin1_aae02, Cond.instanceMethod yJ0_isLatin1_aae02]
def wsX14_isWord_r2 : List Cond := [Cond.selects RJ0 yJ0_isLatin1_aae02 yJ0_isLatin1_aae02, Cond.code yJ0_isLatin1_aae02 cJ0_isLatin1_aae02 1 (some .boolean), Cond.methodLink RJ0 495 yJ1_charAt_3b067, Cond.static yJ1_charAt_3b067, Cond.initialized RJ1, Cond.code yJ1_charAt_3b067 cJ1_charAt_3b067 2 (some .char), Cond.methodLink RJ1 9 yJ0_checkIndex_df160, Cond.static yJ0_checkIndex_df160, Cond.code yJ0_checkIndex_df160 cJ0_checkIndex_df160 2 none, Cond.fieldLink RJ0 1053 "jdk/internal/util/Preconditions" "SIOOBE_FORMATTER" "Ljava/util/function/BiFunction;", Cond.methodLink RJ0 1059 yJ3_checkIndex_8e157, Cond.static yJ3_checkIndex_8e157, Cond.initialized RJ3, Cond.code yJ3_checkIndex_8e157 cJ3_checkIndex_8e157 3 (some .int), Cond.methodLink RJ0 498 yJ2_charAt_3b067, Cond.static yJ2_charAt_3b067, Cond.initialized RJ2, Cond.code yJ2_charAt_3b067 cJ2_charAt_3b067 2 (some .char), Cond.methodLink RJ2 67 yJ2_checkIndex_2214a, Cond.static yJ2_checkIndex_2214a, Cond.code yJ2_checkIndex_2214a cJ2_checkIndex_2214a 2 none, Cond.methodLink RJ2 48 yJ2_length_9d52b, Cond.static yJ2_length_9d52b, Cond.code yJ2_length_9d52b cJ2_length_9d52b 1 (some .int)]
def wsX14_isWord_r3 : List Cond := [Cond.methodLink RJ2 414 yJ0_checkIndex_df160, Cond.methodLink RJ2 71 yJ2_getChar_3b067, Cond.static yJ2_getChar_3b067, Cond.code yJ2_getChar_3b067 cJ2_getChar_3b067 2 (some .char), Cond.fieldLink RJ2 44 "java/lang/StringUTF16" "$assertionsDisabled" "Z", Cond.fieldLink RJ2 59 "java/lang/StringUTF16" "HI_BYTE_SHIFT" "I", Cond.fieldLink RJ2 63 "java/lang/StringUTF16" "LO_BYTE_SHIFT" "I"]
def wsX14_isWord : List Cond := .code yX14_isWord cX14_isWord 2 (some .boolean) :: ((wsX14_isWord_r1 ++ (wsX14_isWord_r2 ++ wsX14_isWord_r3)) ++ wsX140)
def wsX14_reads_r1 : List Cond := [Cond.fieldLink RX14 27 "ReuseHouseModel" "spare" "LReuseHouseModel$Program;", Cond.fieldLink RX14 151 "ReuseHouseModel" "place" "I", Cond.fieldLink RX14 152 "ReuseHouseModel" "sort" "I", Cond.fieldLink RX14 168 "ReuseHouseModel" "letters" "J", Cond.fieldLink RX14 220 "ReuseHouseModel" "scoped" "I", Cond.fieldLink RX14 252 "ReuseHouseModel" "deep" "I", Cond.methodLink RX14 184 yX14_next, Cond.instanceMethod yX14_next, Cond.selects RX14 yX14_next yX14_next, Cond.initialized RX14, Cond.code yX14_next cX14_next 6 none, Cond.fieldLink RX14 144 "ReuseHouseModel" "at" "I", Cond.fieldLink RX14 155 "ReuseHouseModel" "sign" "I", Cond.constantLong RX14 172 (10), Cond.methodLink RX14 147 yX14_byteAt, Cond.instanceMethod yX14_byteAt, Cond.selects RX14 yX14_byteAt yX14_byteAt, Cond.code yX14_byteAt cX14_byteAt 2 (some .int), Cond.fieldLink RX14 114 "ReuseHouseModel" "length" "I", Cond.fieldLink RX14 16 "ReuseHouseModel" "tape" "[B", Cond.methodLink RX14 158 yX14_isSmall, Cond.static yX14_isSmall, Cond.code yX14_isSmall cX14_isSmall 1 (some .boolean), Cond.methodLink RX14 162 yX14_isGreat]
def wsX14_reads_r2 : List Cond := [Cond.static yX14_isGreat, Cond.code yX14_isGreat cX14_isGreat 1 (some .boolean), Cond.methodLink RX14 165 yX14_isDigit, Cond.static yX14_isDigit, Cond.code yX14_isDigit cX14_isDigit 1 (some .boolean), Cond.methodLink RX14 174 yX14_isKept, Cond.static yX14_isKept, Cond.code yX14_isKept cX14_isKept 2 (some .boolean), Cond.methodLink RX14 128 yX14_lettersOf, Cond.static yX14_lettersOf, Cond.code yX14_lettersOf cX14_lettersOf 4 (some .long), Cond.methodLink RX14 117 yJ0_length_8abf5, Cond.instanceMethod yJ0_length_8abf5, Cond.selects RJ0 yJ0_length_8abf5 yJ0_length_8abf5, Cond.initialized RJ0, Cond.code yJ0_length_8abf5 cJ0_length_8abf5 1 (some .int), Cond.fieldLink RJ0 9 "java/lang/String" "value" "[B", Cond.methodLink RJ0 335 yJ0_coder_7d493, Cond.instanceMethod yJ0_coder_7d493, Cond.selects RJ0 yJ0_coder_7d493 yJ0_coder_7d493, Cond.code yJ0_coder_7d493 cJ0_coder_7d493 1 (some .byte), Cond.fieldLink RJ0 38 "java/lang/String" "COMPACT_STRINGS" "Z", Cond.fieldLink RJ0 15 "java/lang/String" "coder" "B", Cond.methodLink RX14 122 yJ0_charAt_5068e]
def wsX14_reads_r3 : List Cond := [Cond.instanceMethod yJ0_charAt_5068e, Cond.selects RJ0 yJ0_charAt_5068e yJ0_charAt_5068e, Cond.code yJ0_charAt_5068e cJ0_charAt_5068e 2 (some .char), Cond.methodLink RJ0 492 yJ0_isLatin1_aae02, Cond.instanceMethod yJ0_isLatin1_aae02, Cond.selects RJ0 yJ0_isLatin1_aae02 yJ0_isLatin1_aae02, Cond.code yJ0_isLatin1_aae02 cJ0_isLatin1_aae02 1 (some .boolean), Cond.methodLink RJ0 495 yJ1_charAt_3b067, Cond.static yJ1_charAt_3b067, Cond.initialized RJ1, Cond.code yJ1_charAt_3b067 cJ1_charAt_3b067 2 (some .char), Cond.methodLink RJ1 9 yJ0_checkIndex_df160, Cond.static yJ0_checkIndex_df160, Cond.code yJ0_checkIndex_df160 cJ0_checkIndex_df160 2 none, Cond.fieldLink RJ0 1053 "jdk/internal/util/Preconditions" "SIOOBE_FORMATTER" "Ljava/util/function/BiFunction;", Cond.methodLink RJ0 1059 yJ3_checkIndex_8e157, Cond.static yJ3_checkIndex_8e157, Cond.initialized RJ3, Cond.code yJ3_checkIndex_8e157 cJ3_checkIndex_8e157 3 (some .int), Cond.methodLink RJ0 498 yJ2_charAt_3b067, Cond.static yJ2_charAt_3b067, Cond.initialized RJ2, Cond.code yJ2_charAt_3b067 cJ2_charAt_3b067 2 (some .char), Cond.methodLink RJ2 67 yJ2_checkIndex_2214a]
def wsX14_reads_r4 : List Cond := [Cond.static yJ2_checkIndex_2214a, Cond.code yJ2_checkIndex_2214a cJ2_checkIndex_2214a 2 none, Cond.methodLink RJ2 48 yJ2_length_9d52b, Cond.static yJ2_length_9d52b, Cond.code yJ2_length_9d52b cJ2_length_9d52b 1 (some .int), Cond.methodLink RJ2 414 yJ0_checkIndex_df160, Cond.methodLink RJ2 71 yJ2_getChar_3b067, Cond.static yJ2_getChar_3b067, Cond.code yJ2_getChar_3b067 cJ2_getChar_3b067 2 (some .char), Cond.fieldLink RJ2 44 "java/lang/StringUTF16" "$assertionsDisabled" "Z", Cond.fieldLink RJ2 59 "java/lang/StringUTF16" "HI_BYTE_SHIFT" "I", Cond.fieldLink RJ2 63 "java/lang/StringUTF16" "LO_BYTE_SHIFT" "I", Cond.methodLink RX14 187 yX14_isWord, Cond.instanceMethod yX14_isWord, Cond.selects RX14 yX14_isWord yX14_isWord, Cond.code yX14_isWord cX14_isWord 2 (some .boolean), Cond.methodLink RX14 318 yX14_functionOf, Cond.static yX14_functionOf, Cond.code yX14_functionOf cX14_functionOf 4 (some .int), Cond.methodLink RX14 223 yX14_slotOf, Cond.instanceMethod yX14_slotOf, Cond.selects RX14 yX14_slotOf yX14_slotOf, Cond.code yX14_slotOf cX14_slotOf 4 (some .int), Cond.fieldLink RX14 30 "ReuseHouseModel" "scope" "[J"]
def wsX14_reads_r5 : List Cond := [Cond.methodLink RX14 265 yX14_tells, Cond.instanceMethod yX14_tells, Cond.selects RX14 yX14_tells yX14_tells, Cond.code yX14_tells cX14_tells 1 (some .int), Cond.methodLink RX14 233 Lib.Math.max.name, Cond.static Lib.Math.max.name, Cond.initialized "java/lang/Math", Cond.code Lib.Math.max.name Lib.Math.max.code 2 (some .int), Cond.methodLink RX14 268 yX14_need, Cond.instanceMethod yX14_need, Cond.selects RX14 yX14_need yX14_need, Cond.code yX14_need cX14_need 2 none, Cond.methodLink RX14 178 yX14_is, Cond.instanceMethod yX14_is, Cond.selects RX14 yX14_is yX14_is, Cond.code yX14_is cX14_is 2 (some .boolean), Cond.methodLink RX14 272 yX14_expr, Cond.instanceMethod yX14_expr, Cond.selects RX14 yX14_expr yX14_expr, Cond.code yX14_expr cX14_expr 2 (some .int), Cond.methodLink RX14 248 yX14_begins, Cond.instanceMethod yX14_begins, Cond.selects RX14 yX14_begins yX14_begins, Cond.code yX14_begins cX14_begins 1 (some .boolean)]
def wsX14_reads_r6 : List Cond := [Cond.methodLink RX14 255 yX14_let, Cond.instanceMethod yX14_let, Cond.selects RX14 yX14_let yX14_let, Cond.methodLink RX14 257 yX14_ifs, Cond.instanceMethod yX14_ifs, Cond.selects RX14 yX14_ifs yX14_ifs, Cond.methodLink RX14 260 yX14_match, Cond.instanceMethod yX14_match, Cond.selects RX14 yX14_match yX14_match, Cond.methodLink RX14 262 yX14_compared, Cond.instanceMethod yX14_compared, Cond.selects RX14 yX14_compared yX14_compared, Cond.code yX14_arguments cX14_arguments 7 (some .int), Cond.fieldLink RX14 312 "ReuseHouseModel" "counted" "I", Cond.code yX14_atom cX14_atom 6 (some .int), Cond.methodLink RX14 279 yX14_part, Cond.instanceMethod yX14_part, Cond.selects RX14 yX14_part yX14_part, Cond.code yX14_part cX14_part 4 (some .int), Cond.methodLink RX14 306 yX14_named, Cond.instanceMethod yX14_named, Cond.selects RX14 yX14_named yX14_named, Cond.methodLink RX14 285 yX14_kind, Cond.instanceMethod yX14_kind]
def wsX14_reads_r7 : List Cond := [Cond.selects RX14 yX14_kind yX14_kind, Cond.code yX14_kind cX14_kind 2 (some .int), Cond.methodLink RX14 309 yX14_arguments, Cond.instanceMethod yX14_arguments, Cond.selects RX14 yX14_arguments yX14_arguments, Cond.methodLink RX14 289 yX14_has, Cond.instanceMethod yX14_has, Cond.selects RX14 yX14_has yX14_has, Cond.code yX14_has cX14_has 4 none, Cond.code yX14_compared cX14_compared 3 (some .int), Cond.methodLink RX14 293 yX14_sum, Cond.instanceMethod yX14_sum, Cond.selects RX14 yX14_sum yX14_sum, Cond.methodLink RX14 296 yX14_both, Cond.instanceMethod yX14_both, Cond.selects RX14 yX14_both yX14_both, Cond.code yX14_both cX14_both 6 (some .int), Cond.code yX14_ifs cX14_ifs 6 (some .int), Cond.methodLink RX14 275 yX14_needWord, Cond.instanceMethod yX14_needWord, Cond.selects RX14 yX14_needWord yX14_needWord, Cond.code yX14_needWord cX14_needWord 2 none, Cond.code yX14_let cX14_let 9 (some .int), Cond.code yX14_match cX14_match 15 (some .int)]
def wsX14_reads_r8 : List Cond := [Cond.methodLink RX14 287 yX14_fields, Cond.instanceMethod yX14_fields, Cond.selects RX14 yX14_fields yX14_fields, Cond.code yX14_fields cX14_fields 4 (some .int), Cond.code yX14_named cX14_named 7 (some .int), Cond.code yX14_product cX14_product 3 (some .int), Cond.methodLink RX14 303 yX14_atom, Cond.instanceMethod yX14_atom, Cond.selects RX14 yX14_atom yX14_atom, Cond.code yX14_sum cX14_sum 4 (some .int), Cond.methodLink RX14 300 yX14_product, Cond.instanceMethod yX14_product, Cond.selects RX14 yX14_product yX14_product, Cond.methodLink RX14 331 yX14_needed, Cond.instanceMethod yX14_needed, Cond.selects RX14 yX14_needed yX14_needed, Cond.code yX14_needed cX14_needed 9 none, Cond.methodLink RX14 334 yX14_bit, Cond.static yX14_bit, Cond.code yX14_bit cX14_bit 1 (some .int), Cond.methodLink RX14 343 yX14_ofArm, Cond.static yX14_ofArm, Cond.code yX14_ofArm cX14_ofArm 2 (some .int)]
def wsX14_reads : List Cond := .code yX14_reads cX14_reads 6 none :: ((wsX14_reads_r1 ++ (wsX14_reads_r2 ++ (wsX14_reads_r3 ++ (wsX14_reads_r4 ++ (wsX14_reads_r5 ++ (wsX14_reads_r6 ++ (wsX14_reads_r7 ++ wsX14_reads_r8))))))) ++ wsX140 ++ wsX120)
def wsX14_feed : List Cond := .code yX14_feed cX14_feed 8 (some .int) :: ([.fieldLink RX14 105 "ReuseHouseModel" "thrown" "I", .fieldLink RX14 350 "ReuseHouseModel" "taped" "I", .fieldLink RX14 16 "ReuseHouseModel" "tape" "[B"] ++ wsX140)
def wsX14_program_r1 : List Cond := [Cond.fieldLink RX14 105 "ReuseHouseModel" "thrown" "I", Cond.fieldLink RX14 353 "ReuseHouseModel" "fault" "I", Cond.fieldLink RX14 34 "ReuseHouseModel" "where" "I", Cond.fieldLink RX14 350 "ReuseHouseModel" "taped" "I", Cond.fieldLink RX14 114 "ReuseHouseModel" "length" "I", Cond.fieldLink RX14 144 "ReuseHouseModel" "at" "I", Cond.fieldLink RX14 23 "ReuseHouseModel" "p" "LReuseHouseModel$Program;", Cond.fieldLink RX14 27 "ReuseHouseModel" "spare" "LReuseHouseModel$Program;", Cond.fieldLink RX14 359 "ReuseHouseModel" "isTaken" "Z", Cond.fieldLink RX14 363 "ReuseHouseModel" "hasRun" "Z", Cond.fieldLink RX14 366 "ReuseHouseModel" "hasValue" "Z", Cond.fieldLink RX14 369 "ReuseHouseModel" "hasOther" "Z", Cond.methodLink RX14 356 yX14_reads, Cond.instanceMethod yX14_reads, Cond.selects RX14 yX14_reads yX14_reads, Cond.initialized RX14, Cond.code yX14_reads cX14_reads 6 none, Cond.fieldLink RX14 151 "ReuseHouseModel" "place" "I", Cond.fieldLink RX14 152 "ReuseHouseModel" "sort" "I", Cond.fieldLink RX14 168 "ReuseHouseModel" "letters" "J", Cond.fieldLink RX14 220 "ReuseHouseModel" "scoped" "I", Cond.fieldLink RX14 252 "ReuseHouseModel" "deep" "I", Cond.methodLink RX14 184 yX14_next, Cond.instanceMethod yX14_next]
def wsX14_program_r2 : List Cond := [Cond.selects RX14 yX14_next yX14_next, Cond.code yX14_next cX14_next 6 none, Cond.fieldLink RX14 155 "ReuseHouseModel" "sign" "I", Cond.constantLong RX14 172 (10), Cond.methodLink RX14 147 yX14_byteAt, Cond.instanceMethod yX14_byteAt, Cond.selects RX14 yX14_byteAt yX14_byteAt, Cond.code yX14_byteAt cX14_byteAt 2 (some .int), Cond.fieldLink RX14 16 "ReuseHouseModel" "tape" "[B", Cond.methodLink RX14 158 yX14_isSmall, Cond.static yX14_isSmall, Cond.code yX14_isSmall cX14_isSmall 1 (some .boolean), Cond.methodLink RX14 162 yX14_isGreat, Cond.static yX14_isGreat, Cond.code yX14_isGreat cX14_isGreat 1 (some .boolean), Cond.methodLink RX14 165 yX14_isDigit, Cond.static yX14_isDigit, Cond.code yX14_isDigit cX14_isDigit 1 (some .boolean), Cond.methodLink RX14 174 yX14_isKept, Cond.static yX14_isKept, Cond.code yX14_isKept cX14_isKept 2 (some .boolean), Cond.methodLink RX14 128 yX14_lettersOf, Cond.static yX14_lettersOf, Cond.code yX14_lettersOf cX14_lettersOf 4 (some .long)]
def wsX14_program_r3 : List Cond := [Cond.methodLink RX14 117 yJ0_length_8abf5, Cond.instanceMethod yJ0_length_8abf5, Cond.selects RJ0 yJ0_length_8abf5 yJ0_length_8abf5, Cond.initialized RJ0, Cond.code yJ0_length_8abf5 cJ0_length_8abf5 1 (some .int), Cond.fieldLink RJ0 9 "java/lang/String" "value" "[B", Cond.methodLink RJ0 335 yJ0_coder_7d493, Cond.instanceMethod yJ0_coder_7d493, Cond.selects RJ0 yJ0_coder_7d493 yJ0_coder_7d493, Cond.code yJ0_coder_7d493 cJ0_coder_7d493 1 (some .byte), Cond.fieldLink RJ0 38 "java/lang/String" "COMPACT_STRINGS" "Z", Cond.fieldLink RJ0 15 "java/lang/String" "coder" "B", Cond.methodLink RX14 122 yJ0_charAt_5068e, Cond.instanceMethod yJ0_charAt_5068e, Cond.selects RJ0 yJ0_charAt_5068e yJ0_charAt_5068e, Cond.code yJ0_charAt_5068e cJ0_charAt_5068e 2 (some .char), Cond.methodLink RJ0 492 yJ0_isLatin1_aae02, Cond.instanceMethod yJ0_isLatin1_aae02, Cond.selects RJ0 yJ0_isLatin1_aae02 yJ0_isLatin1_aae02, Cond.code yJ0_isLatin1_aae02 cJ0_isLatin1_aae02 1 (some .boolean), Cond.methodLink RJ0 495 yJ1_charAt_3b067, Cond.static yJ1_charAt_3b067, Cond.initialized RJ1, Cond.code yJ1_charAt_3b067 cJ1_charAt_3b067 2 (some .char)]
def wsX14_program_r4 : List Cond := [Cond.methodLink RJ1 9 yJ0_checkIndex_df160, Cond.static yJ0_checkIndex_df160, Cond.code yJ0_checkIndex_df160 cJ0_checkIndex_df160 2 none, Cond.fieldLink RJ0 1053 "jdk/internal/util/Preconditions" "SIOOBE_FORMATTER" "Ljava/util/function/BiFunction;", Cond.methodLink RJ0 1059 yJ3_checkIndex_8e157, Cond.static yJ3_checkIndex_8e157, Cond.initialized RJ3, Cond.code yJ3_checkIndex_8e157 cJ3_checkIndex_8e157 3 (some .int), Cond.methodLink RJ0 498 yJ2_charAt_3b067, Cond.static yJ2_charAt_3b067, Cond.initialized RJ2, Cond.code yJ2_charAt_3b067 cJ2_charAt_3b067 2 (some .char), Cond.methodLink RJ2 67 yJ2_checkIndex_2214a, Cond.static yJ2_checkIndex_2214a, Cond.code yJ2_checkIndex_2214a cJ2_checkIndex_2214a 2 none, Cond.methodLink RJ2 48 yJ2_length_9d52b, Cond.static yJ2_length_9d52b, Cond.code yJ2_length_9d52b cJ2_length_9d52b 1 (some .int), Cond.methodLink RJ2 414 yJ0_checkIndex_df160, Cond.methodLink RJ2 71 yJ2_getChar_3b067, Cond.static yJ2_getChar_3b067, Cond.code yJ2_getChar_3b067 cJ2_getChar_3b067 2 (some .char), Cond.fieldLink RJ2 44 "java/lang/StringUTF16" "$assertionsDisabled" "Z", Cond.fieldLink RJ2 59 "java/lang/StringUTF16" "HI_BYTE_SHIFT" "I"]
def wsX14_program_r5 : List Cond := [Cond.fieldLink RJ2 63 "java/lang/StringUTF16" "LO_BYTE_SHIFT" "I", Cond.methodLink RX14 187 yX14_isWord, Cond.instanceMethod yX14_isWord, Cond.selects RX14 yX14_isWord yX14_isWord, Cond.code yX14_isWord cX14_isWord 2 (some .boolean), Cond.methodLink RX14 318 yX14_functionOf, Cond.static yX14_functionOf, Cond.code yX14_functionOf cX14_functionOf 4 (some .int), Cond.methodLink RX14 223 yX14_slotOf, Cond.instanceMethod yX14_slotOf, Cond.selects RX14 yX14_slotOf yX14_slotOf, Cond.code yX14_slotOf cX14_slotOf 4 (some .int), Cond.fieldLink RX14 30 "ReuseHouseModel" "scope" "[J", Cond.methodLink RX14 265 yX14_tells, Cond.instanceMethod yX14_tells, Cond.selects RX14 yX14_tells yX14_tells, Cond.code yX14_tells cX14_tells 1 (some .int), Cond.methodLink RX14 233 Lib.Math.max.name, Cond.static Lib.Math.max.name, Cond.initialized "java/lang/Math", Cond.code Lib.Math.max.name Lib.Math.max.code 2 (some .int), Cond.methodLink RX14 268 yX14_need, Cond.instanceMethod yX14_need, Cond.selects RX14 yX14_need yX14_need]
def wsX14_program_r6 : List Cond := [Cond.code yX14_need cX14_need 2 none, Cond.methodLink RX14 178 yX14_is, Cond.instanceMethod yX14_is, Cond.selects RX14 yX14_is yX14_is, Cond.code yX14_is cX14_is 2 (some .boolean), Cond.methodLink RX14 272 yX14_expr, Cond.instanceMethod yX14_expr, Cond.selects RX14 yX14_expr yX14_expr, Cond.code yX14_expr cX14_expr 2 (some .int), Cond.methodLink RX14 248 yX14_begins, Cond.instanceMethod yX14_begins, Cond.selects RX14 yX14_begins yX14_begins, Cond.code yX14_begins cX14_begins 1 (some .boolean), Cond.methodLink RX14 255 yX14_let, Cond.instanceMethod yX14_let, Cond.selects RX14 yX14_let yX14_let, Cond.methodLink RX14 257 yX14_ifs, Cond.instanceMethod yX14_ifs, Cond.selects RX14 yX14_ifs yX14_ifs, Cond.methodLink RX14 260 yX14_match, Cond.instanceMethod yX14_match, Cond.selects RX14 yX14_match yX14_match, Cond.methodLink RX14 262 yX14_compared, Cond.instanceMethod yX14_compared]
def wsX14_program_r7 : List Cond := [Cond.selects RX14 yX14_compared yX14_compared, Cond.code yX14_arguments cX14_arguments 7 (some .int), Cond.fieldLink RX14 312 "ReuseHouseModel" "counted" "I", Cond.code yX14_atom cX14_atom 6 (some .int), Cond.methodLink RX14 279 yX14_part, Cond.instanceMethod yX14_part, Cond.selects RX14 yX14_part yX14_part, Cond.code yX14_part cX14_part 4 (some .int), Cond.methodLink RX14 306 yX14_named, Cond.instanceMethod yX14_named, Cond.selects RX14 yX14_named yX14_named, Cond.methodLink RX14 285 yX14_kind, Cond.instanceMethod yX14_kind, Cond.selects RX14 yX14_kind yX14_kind, Cond.code yX14_kind cX14_kind 2 (some .int), Cond.methodLink RX14 309 yX14_arguments, Cond.instanceMethod yX14_arguments, Cond.selects RX14 yX14_arguments yX14_arguments, Cond.methodLink RX14 289 yX14_has, Cond.instanceMethod yX14_has, Cond.selects RX14 yX14_has yX14_has, Cond.code yX14_has cX14_has 4 none, Cond.code yX14_compared cX14_compared 3 (some .int), Cond.methodLink RX14 293 yX14_sum]
def wsX14_program_r8 : List Cond := [Cond.instanceMethod yX14_sum, Cond.selects RX14 yX14_sum yX14_sum, Cond.methodLink RX14 296 yX14_both, Cond.instanceMethod yX14_both, Cond.selects RX14 yX14_both yX14_both, Cond.code yX14_both cX14_both 6 (some .int), Cond.code yX14_ifs cX14_ifs 6 (some .int), Cond.methodLink RX14 275 yX14_needWord, Cond.instanceMethod yX14_needWord, Cond.selects RX14 yX14_needWord yX14_needWord, Cond.code yX14_needWord cX14_needWord 2 none, Cond.code yX14_let cX14_let 9 (some .int), Cond.code yX14_match cX14_match 15 (some .int), Cond.methodLink RX14 287 yX14_fields, Cond.instanceMethod yX14_fields, Cond.selects RX14 yX14_fields yX14_fields, Cond.code yX14_fields cX14_fields 4 (some .int), Cond.code yX14_named cX14_named 7 (some .int), Cond.code yX14_product cX14_product 3 (some .int), Cond.methodLink RX14 303 yX14_atom, Cond.instanceMethod yX14_atom, Cond.selects RX14 yX14_atom yX14_atom, Cond.code yX14_sum cX14_sum 4 (some .int), Cond.methodLink RX14 300 yX14_product]
def wsX14_program_r9 : List Cond := [Cond.instanceMethod yX14_product, Cond.selects RX14 yX14_product yX14_product, Cond.methodLink RX14 331 yX14_needed, Cond.instanceMethod yX14_needed, Cond.selects RX14 yX14_needed yX14_needed, Cond.code yX14_needed cX14_needed 9 none, Cond.methodLink RX14 334 yX14_bit, Cond.static yX14_bit, Cond.code yX14_bit cX14_bit 1 (some .int), Cond.methodLink RX14 343 yX14_ofArm, Cond.static yX14_ofArm, Cond.code yX14_ofArm cX14_ofArm 2 (some .int)]
def wsX14_program : List Cond := .codeWith yX14_program cX14_program 3 (some .int) [(44, 48, 51, 7)] :: ((wsX14_program_r1 ++ (wsX14_program_r2 ++ (wsX14_program_r3 ++ (wsX14_program_r4 ++ (wsX14_program_r5 ++ (wsX14_program_r6 ++ (wsX14_program_r7 ++ (wsX14_program_r8 ++ wsX14_program_r9)))))))) ++ wsX140 ++ wsX130 ++ wsX120)
def wsX14_fault : List Cond := .code yX14_fault cX14_fault 1 (some .int) :: ([.fieldLink RX14 105 "ReuseHouseModel" "thrown" "I", .fieldLink RX14 353 "ReuseHouseModel" "fault" "I"] ++ wsX140)
def wsX14_where : List Cond := .code yX14_where cX14_where 1 (some .int) :: ([.fieldLink RX14 105 "ReuseHouseModel" "thrown" "I", .fieldLink RX14 34 "ReuseHouseModel" "where" "I"] ++ wsX140)
def wsX14_about : List Cond := .code yX14_about cX14_about 8 (some .int) :: ([.fieldLink RX14 105 "ReuseHouseModel" "thrown" "I", .fieldLink RX14 359 "ReuseHouseModel" "isTaken" "Z", .fieldLink RX14 23 "ReuseHouseModel" "p" "LReuseHouseModel$Program;", .methodLink RX14 372 yX14_isNeeded, .instanceMethod yX14_isNeeded, .selects RX14 yX14_isNeeded yX14_isNeeded, .initialized RX14, .code yX14_isNeeded cX14_isNeeded 3 (some .boolean), .methodLink RX14 376 yX14_isMade, .instanceMethod yX14_isMade, .selects RX14 yX14_isMade yX14_isMade, .code yX14_isMade cX14_isMade 2 (some .boolean)] ++ wsX140 ++ wsX120)
def wsX14_isGood : List Cond := .code yX14_isGood cX14_isGood 3 (some .boolean) :: ([.fieldLink RX14 359 "ReuseHouseModel" "isTaken" "Z", .fieldLink RX14 23 "ReuseHouseModel" "p" "LReuseHouseModel$Program;"] ++ wsX140 ++ wsX120)
def wsX14_run_r1 : List Cond := [Cond.fieldLink RX14 105 "ReuseHouseModel" "thrown" "I", Cond.fieldLink RX14 392 "ReuseHouseModel" "isPlain" "Z", Cond.fieldLink RX14 383 "ReuseHouseModel" "given" "I", Cond.fieldLink RX14 386 "ReuseHouseModel" "freeCount" "I", Cond.fieldLink RX14 45 "ReuseHouseModel" "free" "[I", Cond.fieldLink RX14 431 "ReuseHouseModel" "steps" "I", Cond.fieldLink RX14 487 "ReuseHouseModel" "made" "I", Cond.fieldLink RX14 484 "ReuseHouseModel" "reused" "I", Cond.fieldLink RX14 389 "ReuseHouseModel" "freed" "I", Cond.fieldLink RX14 490 "ReuseHouseModel" "most" "I", Cond.fieldLink RX14 398 "ReuseHouseModel" "doubled" "I", Cond.fieldLink RX14 424 "ReuseHouseModel" "openMost" "I", Cond.fieldLink RX14 363 "ReuseHouseModel" "hasRun" "Z", Cond.fieldLink RX14 366 "ReuseHouseModel" "hasValue" "Z", Cond.fieldLink RX14 512 "ReuseHouseModel" "value" "J", Cond.methodLink RX14 505 yX14_isGood, Cond.instanceMethod yX14_isGood, Cond.selects RX14 yX14_isGood yX14_isGood, Cond.initialized RX14, Cond.code yX14_isGood cX14_isGood 3 (some .boolean), Cond.fieldLink RX14 359 "ReuseHouseModel" "isTaken" "Z", Cond.fieldLink RX14 23 "ReuseHouseModel" "p" "LReuseHouseModel$Program;", Cond.methodLink RX14 508 yX14_worked, Cond.instanceMethod yX14_worked]
def wsX14_run_r2 : List Cond := [Cond.selects RX14 yX14_worked yX14_worked, Cond.codeWith yX14_worked cX14_worked 10 (some .int) [(93, 196, 199, 7)], Cond.fieldLink RX14 404 "ReuseHouseModel" "tasks" "I", Cond.fieldLink RX14 407 "ReuseHouseModel" "valued" "I", Cond.fieldLink RX14 410 "ReuseHouseModel" "open" "I", Cond.fieldLink RX14 478 "ReuseHouseModel" "shells" "I", Cond.arrayClass .int, Cond.fieldLink RX14 34 "ReuseHouseModel" "where" "I", Cond.fieldLink RX14 60 "ReuseHouseModel" "taskWhat" "[B", Cond.fieldLink RX14 63 "ReuseHouseModel" "taskPart" "[I", Cond.methodLink RX14 434 yX14_ofInt, Cond.static yX14_ofInt, Cond.code yX14_ofInt cX14_ofInt 1 (some .long), Cond.constantLong RX14 381 (4294967295), Cond.methodLink RX14 438 yX14_push, Cond.instanceMethod yX14_push, Cond.selects RX14 yX14_push yX14_push, Cond.code yX14_push cX14_push 5 none, Cond.fieldLink RX14 66 "ReuseHouseModel" "values" "[J", Cond.arrayClass .long, Cond.methodLink RX14 460 yX14_enters, Cond.instanceMethod yX14_enters, Cond.selects RX14 yX14_enters yX14_enters, Cond.code yX14_enters cX14_enters 6 none]
def wsX14_run_r3 : List Cond := [Cond.methodLink RX14 233 Lib.Math.max.name, Cond.static Lib.Math.max.name, Cond.initialized "java/lang/Math", Cond.code Lib.Math.max.name Lib.Math.max.code 2 (some .int), Cond.fieldLink RX14 72 "ReuseHouseModel" "present" "[I", Cond.methodLink RX14 417 yX14_call, Cond.instanceMethod yX14_call, Cond.selects RX14 yX14_call yX14_call, Cond.code yX14_call cX14_call 1 (some .int), Cond.methodLink RX14 427 yX14_gets, Cond.instanceMethod yX14_gets, Cond.selects RX14 yX14_gets yX14_gets, Cond.code yX14_gets cX14_gets 5 none, Cond.fieldLink RX14 69 "ReuseHouseModel" "slots" "[J", Cond.methodLink RX14 413 yX14_drops, Cond.instanceMethod yX14_drops, Cond.selects RX14 yX14_drops yX14_drops, Cond.code yX14_drops cX14_drops 8 none, Cond.fieldLink RX14 48 "ReuseHouseModel" "pile" "[I", Cond.fieldLink RX14 42 "ReuseHouseModel" "cellCount" "[I", Cond.fieldLink RX14 38 "ReuseHouseModel" "cellKind" "[I", Cond.fieldLink RX14 51 "ReuseHouseModel" "cellField" "[J", Cond.methodLink RX14 395 yX14_isCell, Cond.static yX14_isCell]
def wsX14_run_r4 : List Cond := [Cond.code yX14_isCell cX14_isCell 2 (some .boolean), Cond.constantLong RX14 379 (2), Cond.methodLink RX14 401 yX14_frees, Cond.instanceMethod yX14_frees, Cond.selects RX14 yX14_frees yX14_frees, Cond.code yX14_frees cX14_frees 2 none, Cond.methodLink RX14 334 yX14_bit, Cond.static yX14_bit, Cond.code yX14_bit cX14_bit 1 (some .int), Cond.methodLink RX14 420 yX14_task, Cond.instanceMethod yX14_task, Cond.selects RX14 yX14_task yX14_task, Cond.code yX14_task cX14_task 6 none, Cond.arrayClass .byte, Cond.methodLink RX14 496 yX14_works, Cond.instanceMethod yX14_works, Cond.selects RX14 yX14_works yX14_works, Cond.code yX14_works cX14_works 6 none, Cond.methodLink RX14 441 yX14_doubles, Cond.instanceMethod yX14_doubles, Cond.selects RX14 yX14_doubles yX14_doubles, Cond.code yX14_doubles cX14_doubles 3 none, Cond.methodLink RX14 444 yX14_matches, Cond.instanceMethod yX14_matches]
def wsX14_run_r5 : List Cond := [Cond.selects RX14 yX14_matches yX14_matches, Cond.code yX14_matches cX14_matches 16 none, Cond.fieldLink RX14 75 "ReuseHouseModel" "shell" "[I", Cond.fieldLink RX14 78 "ReuseHouseModel" "shellArm" "[I", Cond.fieldLink RX14 81 "ReuseHouseModel" "shellCall" "[I", Cond.methodLink RX14 454 yX14_isInt, Cond.static yX14_isInt, Cond.code yX14_isInt cX14_isInt 2 (some .boolean), Cond.methodLink RX14 372 yX14_isNeeded, Cond.instanceMethod yX14_isNeeded, Cond.selects RX14 yX14_isNeeded yX14_isNeeded, Cond.code yX14_isNeeded cX14_isNeeded 3 (some .boolean), Cond.methodLink RX14 457 yX14_wayBegins, Cond.instanceMethod yX14_wayBegins, Cond.selects RX14 yX14_wayBegins yX14_wayBegins, Cond.code yX14_wayBegins cX14_wayBegins 5 none, Cond.methodLink RX14 376 yX14_isMade, Cond.instanceMethod yX14_isMade, Cond.selects RX14 yX14_isMade yX14_isMade, Cond.code yX14_isMade cX14_isMade 2 (some .boolean), Cond.methodLink RX14 447 yX14_puts, Cond.instanceMethod yX14_puts, Cond.selects RX14 yX14_puts yX14_puts, Cond.code yX14_puts cX14_puts 6 none]
def wsX14_run_r6 : List Cond := [Cond.methodLink RX14 499 yX14_does, Cond.instanceMethod yX14_does, Cond.selects RX14 yX14_does yX14_does, Cond.code yX14_does cX14_does 9 none, Cond.methodLink RX14 450 yX14_pop, Cond.instanceMethod yX14_pop, Cond.selects RX14 yX14_pop yX14_pop, Cond.code yX14_pop cX14_pop 1 (some .long), Cond.methodLink RX14 463 yX14_makes, Cond.instanceMethod yX14_makes, Cond.selects RX14 yX14_makes yX14_makes, Cond.code yX14_makes cX14_makes 5 none, Cond.constantLong RX14 465 (4294967296), Cond.constantLong RX14 473 (8589934592), Cond.methodLink RX14 467 yX14_plainCell, Cond.instanceMethod yX14_plainCell, Cond.selects RX14 yX14_plainCell yX14_plainCell, Cond.code yX14_plainCell cX14_plainCell 2 (some .int), Cond.fieldLink RX14 475 "ReuseHouseModel" "nextPlain" "I", Cond.methodLink RX14 470 yX14_cell, Cond.instanceMethod yX14_cell, Cond.selects RX14 yX14_cell yX14_cell, Cond.code yX14_cell cX14_cell 5 (some .int), Cond.methodLink RX14 481 yX14_takesShell]
def wsX14_run_r7 : List Cond := [Cond.instanceMethod yX14_takesShell, Cond.selects RX14 yX14_takesShell yX14_takesShell, Cond.code yX14_takesShell cX14_takesShell 3 none, Cond.methodLink RX14 493 yX14_held, Cond.instanceMethod yX14_held, Cond.selects RX14 yX14_held yX14_held, Cond.code yX14_held cX14_held 1 (some .int), Cond.methodLink RX14 502 yX14_ends, Cond.instanceMethod yX14_ends, Cond.selects RX14 yX14_ends yX14_ends, Cond.code yX14_ends cX14_ends 3 none]
def wsX14_run : List Cond := .code yX14_run cX14_run 9 (some .int) :: ((wsX14_run_r1 ++ (wsX14_run_r2 ++ (wsX14_run_r3 ++ (wsX14_run_r4 ++ (wsX14_run_r5 ++ (wsX14_run_r6 ++ wsX14_run_r7)))))) ++ wsX140 ++ wsX120 ++ wsX130)
def wsX14_plain_r1 : List Cond := [Cond.fieldLink RX14 105 "ReuseHouseModel" "thrown" "I", Cond.arrayClass .int, Cond.fieldLink RX14 431 "ReuseHouseModel" "steps" "I", Cond.fieldLink RX14 487 "ReuseHouseModel" "made" "I", Cond.fieldLink RX14 484 "ReuseHouseModel" "reused" "I", Cond.fieldLink RX14 389 "ReuseHouseModel" "freed" "I", Cond.fieldLink RX14 490 "ReuseHouseModel" "most" "I", Cond.fieldLink RX14 398 "ReuseHouseModel" "doubled" "I", Cond.fieldLink RX14 424 "ReuseHouseModel" "openMost" "I", Cond.fieldLink RX14 84 "ReuseHouseModel" "keptCounts" "[I", Cond.fieldLink RX14 87 "ReuseHouseModel" "asideKind" "[I", Cond.fieldLink RX14 38 "ReuseHouseModel" "cellKind" "[I", Cond.fieldLink RX14 90 "ReuseHouseModel" "asideCount" "[I", Cond.fieldLink RX14 42 "ReuseHouseModel" "cellCount" "[I", Cond.fieldLink RX14 93 "ReuseHouseModel" "asideField" "[J", Cond.fieldLink RX14 51 "ReuseHouseModel" "cellField" "[J", Cond.fieldLink RX14 392 "ReuseHouseModel" "isPlain" "Z", Cond.fieldLink RX14 475 "ReuseHouseModel" "nextPlain" "I", Cond.fieldLink RX14 369 "ReuseHouseModel" "hasOther" "Z", Cond.fieldLink RX14 515 "ReuseHouseModel" "other" "J", Cond.fieldLink RX14 54 "ReuseHouseModel" "otherKind" "[I", Cond.fieldLink RX14 57 "ReuseHouseModel" "otherField" "[J", Cond.methodLink RX14 505 yX14_isGood, Cond.instanceMethod yX14_isGood]
def wsX14_plain_r2 : List Cond := [Cond.selects RX14 yX14_isGood yX14_isGood, Cond.initialized RX14, Cond.code yX14_isGood cX14_isGood 3 (some .boolean), Cond.fieldLink RX14 359 "ReuseHouseModel" "isTaken" "Z", Cond.fieldLink RX14 23 "ReuseHouseModel" "p" "LReuseHouseModel$Program;", Cond.methodLink RX14 508 yX14_worked, Cond.instanceMethod yX14_worked, Cond.selects RX14 yX14_worked yX14_worked, Cond.codeWith yX14_worked cX14_worked 10 (some .int) [(93, 196, 199, 7)], Cond.fieldLink RX14 404 "ReuseHouseModel" "tasks" "I", Cond.fieldLink RX14 407 "ReuseHouseModel" "valued" "I", Cond.fieldLink RX14 410 "ReuseHouseModel" "open" "I", Cond.fieldLink RX14 478 "ReuseHouseModel" "shells" "I", Cond.fieldLink RX14 34 "ReuseHouseModel" "where" "I", Cond.fieldLink RX14 60 "ReuseHouseModel" "taskWhat" "[B", Cond.fieldLink RX14 63 "ReuseHouseModel" "taskPart" "[I", Cond.methodLink RX14 434 yX14_ofInt, Cond.static yX14_ofInt, Cond.code yX14_ofInt cX14_ofInt 1 (some .long), Cond.constantLong RX14 381 (4294967295), Cond.methodLink RX14 438 yX14_push, Cond.instanceMethod yX14_push, Cond.selects RX14 yX14_push yX14_push, Cond.code yX14_push cX14_push 5 none]
def wsX14_plain_r3 : List Cond := [Cond.fieldLink RX14 66 "ReuseHouseModel" "values" "[J", Cond.arrayClass .long, Cond.methodLink RX14 460 yX14_enters, Cond.instanceMethod yX14_enters, Cond.selects RX14 yX14_enters yX14_enters, Cond.code yX14_enters cX14_enters 6 none, Cond.methodLink RX14 233 Lib.Math.max.name, Cond.static Lib.Math.max.name, Cond.initialized "java/lang/Math", Cond.code Lib.Math.max.name Lib.Math.max.code 2 (some .int), Cond.fieldLink RX14 72 "ReuseHouseModel" "present" "[I", Cond.methodLink RX14 417 yX14_call, Cond.instanceMethod yX14_call, Cond.selects RX14 yX14_call yX14_call, Cond.code yX14_call cX14_call 1 (some .int), Cond.methodLink RX14 427 yX14_gets, Cond.instanceMethod yX14_gets, Cond.selects RX14 yX14_gets yX14_gets, Cond.code yX14_gets cX14_gets 5 none, Cond.fieldLink RX14 69 "ReuseHouseModel" "slots" "[J", Cond.methodLink RX14 413 yX14_drops, Cond.instanceMethod yX14_drops, Cond.selects RX14 yX14_drops yX14_drops, Cond.code yX14_drops cX14_drops 8 none]
def wsX14_plain_r4 : List Cond := [Cond.fieldLink RX14 48 "ReuseHouseModel" "pile" "[I", Cond.methodLink RX14 395 yX14_isCell, Cond.static yX14_isCell, Cond.code yX14_isCell cX14_isCell 2 (some .boolean), Cond.constantLong RX14 379 (2), Cond.methodLink RX14 401 yX14_frees, Cond.instanceMethod yX14_frees, Cond.selects RX14 yX14_frees yX14_frees, Cond.code yX14_frees cX14_frees 2 none, Cond.fieldLink RX14 45 "ReuseHouseModel" "free" "[I", Cond.fieldLink RX14 386 "ReuseHouseModel" "freeCount" "I", Cond.methodLink RX14 334 yX14_bit, Cond.static yX14_bit, Cond.code yX14_bit cX14_bit 1 (some .int), Cond.methodLink RX14 420 yX14_task, Cond.instanceMethod yX14_task, Cond.selects RX14 yX14_task yX14_task, Cond.code yX14_task cX14_task 6 none, Cond.arrayClass .byte, Cond.methodLink RX14 496 yX14_works, Cond.instanceMethod yX14_works, Cond.selects RX14 yX14_works yX14_works, Cond.code yX14_works cX14_works 6 none, Cond.methodLink RX14 441 yX14_doubles]
def wsX14_plain_r5 : List Cond := [Cond.instanceMethod yX14_doubles, Cond.selects RX14 yX14_doubles yX14_doubles, Cond.code yX14_doubles cX14_doubles 3 none, Cond.methodLink RX14 444 yX14_matches, Cond.instanceMethod yX14_matches, Cond.selects RX14 yX14_matches yX14_matches, Cond.code yX14_matches cX14_matches 16 none, Cond.fieldLink RX14 75 "ReuseHouseModel" "shell" "[I", Cond.fieldLink RX14 78 "ReuseHouseModel" "shellArm" "[I", Cond.fieldLink RX14 81 "ReuseHouseModel" "shellCall" "[I", Cond.methodLink RX14 454 yX14_isInt, Cond.static yX14_isInt, Cond.code yX14_isInt cX14_isInt 2 (some .boolean), Cond.methodLink RX14 372 yX14_isNeeded, Cond.instanceMethod yX14_isNeeded, Cond.selects RX14 yX14_isNeeded yX14_isNeeded, Cond.code yX14_isNeeded cX14_isNeeded 3 (some .boolean), Cond.methodLink RX14 457 yX14_wayBegins, Cond.instanceMethod yX14_wayBegins, Cond.selects RX14 yX14_wayBegins yX14_wayBegins, Cond.code yX14_wayBegins cX14_wayBegins 5 none, Cond.methodLink RX14 376 yX14_isMade, Cond.instanceMethod yX14_isMade, Cond.selects RX14 yX14_isMade yX14_isMade]
def wsX14_plain_r6 : List Cond := [Cond.code yX14_isMade cX14_isMade 2 (some .boolean), Cond.methodLink RX14 447 yX14_puts, Cond.instanceMethod yX14_puts, Cond.selects RX14 yX14_puts yX14_puts, Cond.code yX14_puts cX14_puts 6 none, Cond.methodLink RX14 499 yX14_does, Cond.instanceMethod yX14_does, Cond.selects RX14 yX14_does yX14_does, Cond.code yX14_does cX14_does 9 none, Cond.methodLink RX14 450 yX14_pop, Cond.instanceMethod yX14_pop, Cond.selects RX14 yX14_pop yX14_pop, Cond.code yX14_pop cX14_pop 1 (some .long), Cond.methodLink RX14 463 yX14_makes, Cond.instanceMethod yX14_makes, Cond.selects RX14 yX14_makes yX14_makes, Cond.code yX14_makes cX14_makes 5 none, Cond.constantLong RX14 465 (4294967296), Cond.constantLong RX14 473 (8589934592), Cond.methodLink RX14 467 yX14_plainCell, Cond.instanceMethod yX14_plainCell, Cond.selects RX14 yX14_plainCell yX14_plainCell, Cond.code yX14_plainCell cX14_plainCell 2 (some .int), Cond.methodLink RX14 470 yX14_cell]
def wsX14_plain_r7 : List Cond := [Cond.instanceMethod yX14_cell, Cond.selects RX14 yX14_cell yX14_cell, Cond.code yX14_cell cX14_cell 5 (some .int), Cond.methodLink RX14 481 yX14_takesShell, Cond.instanceMethod yX14_takesShell, Cond.selects RX14 yX14_takesShell yX14_takesShell, Cond.code yX14_takesShell cX14_takesShell 3 none, Cond.methodLink RX14 493 yX14_held, Cond.instanceMethod yX14_held, Cond.selects RX14 yX14_held yX14_held, Cond.code yX14_held cX14_held 1 (some .int), Cond.fieldLink RX14 383 "ReuseHouseModel" "given" "I", Cond.methodLink RX14 502 yX14_ends, Cond.instanceMethod yX14_ends, Cond.selects RX14 yX14_ends yX14_ends, Cond.code yX14_ends cX14_ends 3 none]
def wsX14_plain : List Cond := .code yX14_plain cX14_plain 11 (some .int) :: ((wsX14_plain_r1 ++ (wsX14_plain_r2 ++ (wsX14_plain_r3 ++ (wsX14_plain_r4 ++ (wsX14_plain_r5 ++ (wsX14_plain_r6 ++ wsX14_plain_r7)))))) ++ wsX140 ++ wsX120 ++ wsX130)
def wsX14_show_r1 : List Cond := [Cond.fieldLink RX14 105 "ReuseHouseModel" "thrown" "I", Cond.fieldLink RX14 369 "ReuseHouseModel" "hasOther" "Z", Cond.fieldLink RX14 366 "ReuseHouseModel" "hasValue" "Z", Cond.fieldLink RX14 518 "ReuseHouseModel" "sides" "I", Cond.fieldLink RX14 515 "ReuseHouseModel" "other" "J", Cond.fieldLink RX14 512 "ReuseHouseModel" "value" "J", Cond.fieldLink RX14 96 "ReuseHouseModel" "out" "[B", Cond.fieldLink RX14 99 "ReuseHouseModel" "side" "[B", Cond.fieldLink RX14 540 "ReuseHouseModel" "outs" "I", Cond.methodLink RX14 536 yX14_says, Cond.instanceMethod yX14_says, Cond.selects RX14 yX14_says yX14_says, Cond.initialized RX14, Cond.code yX14_says cX14_says 9 none, Cond.fieldLink RX14 102 "ReuseHouseModel" "saying" "[J", Cond.fieldLink RX14 54 "ReuseHouseModel" "otherKind" "[I", Cond.fieldLink RX14 38 "ReuseHouseModel" "cellKind" "[I", Cond.constantLong RX14 532 (-41), Cond.fieldLink RX14 23 "ReuseHouseModel" "p" "LReuseHouseModel$Program;", Cond.fieldLink RX14 57 "ReuseHouseModel" "otherField" "[J", Cond.fieldLink RX14 51 "ReuseHouseModel" "cellField" "[J", Cond.constantLong RX14 534 (-44), Cond.methodLink RX14 521 yX14_say, Cond.instanceMethod yX14_say]
def wsX14_show_r2 : List Cond := [Cond.selects RX14 yX14_say yX14_say, Cond.code yX14_say cX14_say 2 none, Cond.methodLink RX14 454 yX14_isInt, Cond.static yX14_isInt, Cond.code yX14_isInt cX14_isInt 2 (some .boolean), Cond.methodLink RX14 526 yX14_sayInt, Cond.instanceMethod yX14_sayInt, Cond.selects RX14 yX14_sayInt yX14_sayInt, Cond.code yX14_sayInt cX14_sayInt 5 none, Cond.methodLink RX14 395 yX14_isCell, Cond.static yX14_isCell, Cond.code yX14_isCell cX14_isCell 2 (some .boolean), Cond.constantLong RX14 379 (2), Cond.methodLink RX14 529 yX14_sayKind, Cond.instanceMethod yX14_sayKind, Cond.selects RX14 yX14_sayKind yX14_sayKind, Cond.code yX14_sayKind cX14_sayKind 6 none, Cond.constantLong RX14 524 (63)]
def wsX14_show : List Cond := .codeWith yX14_show cX14_show 3 (some .int) [(33, 53, 56, 7)] :: ((wsX14_show_r1 ++ wsX14_show_r2) ++ wsX140 ++ wsX120)
def wsX14_out : List Cond := .code yX14_out cX14_out 2 (some .int) :: ([.fieldLink RX14 540 "ReuseHouseModel" "outs" "I", .fieldLink RX14 105 "ReuseHouseModel" "thrown" "I", .fieldLink RX14 96 "ReuseHouseModel" "out" "[B"] ++ wsX140)
def wsX14_release_r1 : List Cond := [Cond.fieldLink RX14 105 "ReuseHouseModel" "thrown" "I", Cond.fieldLink RX14 366 "ReuseHouseModel" "hasValue" "Z", Cond.fieldLink RX14 389 "ReuseHouseModel" "freed" "I", Cond.fieldLink RX14 512 "ReuseHouseModel" "value" "J", Cond.methodLink RX14 413 yX14_drops, Cond.instanceMethod yX14_drops, Cond.selects RX14 yX14_drops yX14_drops, Cond.initialized RX14, Cond.code yX14_drops cX14_drops 8 none, Cond.fieldLink RX14 392 "ReuseHouseModel" "isPlain" "Z", Cond.fieldLink RX14 48 "ReuseHouseModel" "pile" "[I", Cond.fieldLink RX14 42 "ReuseHouseModel" "cellCount" "[I", Cond.fieldLink RX14 23 "ReuseHouseModel" "p" "LReuseHouseModel$Program;", Cond.fieldLink RX14 38 "ReuseHouseModel" "cellKind" "[I", Cond.fieldLink RX14 51 "ReuseHouseModel" "cellField" "[J", Cond.methodLink RX14 395 yX14_isCell, Cond.static yX14_isCell, Cond.code yX14_isCell cX14_isCell 2 (some .boolean), Cond.constantLong RX14 379 (2), Cond.methodLink RX14 401 yX14_frees, Cond.instanceMethod yX14_frees, Cond.selects RX14 yX14_frees yX14_frees, Cond.code yX14_frees cX14_frees 2 none, Cond.fieldLink RX14 45 "ReuseHouseModel" "free" "[I"]
def wsX14_release_r2 : List Cond := [Cond.fieldLink RX14 386 "ReuseHouseModel" "freeCount" "I"]
def wsX14_release : List Cond := .code yX14_release cX14_release 2 (some .int) :: ((wsX14_release_r1 ++ wsX14_release_r2) ++ wsX140 ++ wsX120)
def wsX14_count : List Cond := .code yX14_count cX14_count 2 (some .int) :: ([.fieldLink RX14 105 "ReuseHouseModel" "thrown" "I", .fieldLink RX14 363 "ReuseHouseModel" "hasRun" "Z", .fieldLink RX14 431 "ReuseHouseModel" "steps" "I", .fieldLink RX14 487 "ReuseHouseModel" "made" "I", .fieldLink RX14 484 "ReuseHouseModel" "reused" "I", .fieldLink RX14 389 "ReuseHouseModel" "freed" "I", .fieldLink RX14 490 "ReuseHouseModel" "most" "I", .fieldLink RX14 398 "ReuseHouseModel" "doubled" "I", .fieldLink RX14 424 "ReuseHouseModel" "openMost" "I", .methodLink RX14 493 yX14_held, .instanceMethod yX14_held, .selects RX14 yX14_held yX14_held, .initialized RX14, .code yX14_held cX14_held 1 (some .int), .fieldLink RX14 383 "ReuseHouseModel" "given" "I", .fieldLink RX14 386 "ReuseHouseModel" "freeCount" "I"] ++ wsX140)
def wsL_out : List Cond := .codeWith yL_out cL_out 4 (some .int) [(0, 9, 12, 13)] :: ([.classLink RL 13 "java/util/NoSuchElementException", .methodLink RL 7 yX11_out, .instanceMethod yX11_out, .selects RX11 yX11_out yX11_out, .initialized RX11, .code yX11_out cX11_out 2 (some .int), .classLink RX11 170 "java/util/NoSuchElementException", .initialized "java/util/NoSuchElementException", .fieldLink RX11 55 "ReuseHouse" "printer" "LReuseHouse$Printer;", .fieldLink RX11 173 "ReuseHouse$Printer" "bytes" "[B", .methodLink RX11 169 yX8_has, .instanceMethod yX8_has, .selects RX8 yX8_has yX8_has, .initialized RX8, .code yX8_has cX8_has 2 (some .boolean), .fieldLink RX8 15 "ReuseHouse$Printer" "size" "I"] ++ wsX110 ++ wsX80 ++ (vx_at0 RX11 172 "java/util/NoSuchElementException" ["java/lang/RuntimeException", "java/lang/Exception"]).filter goodWord)
def wsL_law0_r1 : List Cond := [Cond.classLink RL 8 RX11, Cond.instantiable RX11 17, Cond.initialized RX11, Cond.classLink RL 16 RX14, Cond.instantiable RX14 63, Cond.initialized RX14, Cond.arrayClass .long, Cond.methodLink RL 15 yX11_init, Cond.instanceMethod yX11_init, Cond.code yX11_init cX11_init 1 none, Cond.methodLink RX11 3 objectInit, Cond.instanceMethod objectInit, Cond.code objectInit ⟨#[0xb1]⟩ 1 none, Cond.arrayClass .byte, Cond.fieldLink RX11 9 "ReuseHouse" "tape" "[B", Cond.fieldLink RX11 13 "ReuseHouse" "fed" "I", Cond.classLink RX11 17 RX9, Cond.instantiable RX9 4, Cond.initialized RX9, Cond.fieldLink RX11 20 "ReuseHouse" "taken" "LReuseHouse$Program;", Cond.classLink RX11 24 RX7, Cond.instantiable RX7 9, Cond.initialized RX7, Cond.fieldLink RX11 27 "ReuseHouse" "parser" "LReuseHouse$Parser;"]
def wsL_law0_r2 : List Cond := [Cond.classLink RX11 31 RX5, Cond.instantiable RX5 20, Cond.initialized RX5, Cond.fieldLink RX11 36 "ReuseHouse" "machine" "LReuseHouse$Machine;", Cond.classLink RX11 40 RX1, Cond.instantiable RX1 13, Cond.initialized RX1, Cond.fieldLink RX11 45 "ReuseHouse" "countedCells" "LReuseHouse$Cells;", Cond.fieldLink RX11 49 "ReuseHouse" "plainCells" "LReuseHouse$Cells;", Cond.classLink RX11 52 RX8, Cond.instantiable RX8 8, Cond.initialized RX8, Cond.fieldLink RX11 55 "ReuseHouse" "printer" "LReuseHouse$Printer;", Cond.fieldLink RX11 59 "ReuseHouse" "faultNumber" "I", Cond.fieldLink RX11 62 "ReuseHouse" "stopPlace" "I", Cond.fieldLink RX11 65 "ReuseHouse" "wasRun" "Z", Cond.fieldLink RX11 69 "ReuseHouse" "runSteps" "I", Cond.fieldLink RX11 72 "ReuseHouse" "runCalls" "I", Cond.fieldLink RX11 75 "ReuseHouse" "hasValue" "Z", Cond.fieldLink RX11 78 "ReuseHouse" "value" "J", Cond.fieldLink RX11 82 "ReuseHouse" "hasOther" "Z", Cond.fieldLink RX11 85 "ReuseHouse" "otherValue" "J", Cond.instanceMethod yX9_init, Cond.code yX9_init cX9_init 1 none]
def wsL_law0_r3 : List Cond := [Cond.methodLink RX9 1 objectInit, Cond.classLink RX9 7 RX2, Cond.instantiable RX2 8, Cond.initialized RX2, Cond.fieldLink RX9 10 "ReuseHouse$Program" "code" "LReuseHouse$Code;", Cond.classLink RX9 16 RX0, Cond.instantiable RX0 7, Cond.initialized RX0, Cond.fieldLink RX9 19 "ReuseHouse$Program" "arms" "LReuseHouse$Arms;", Cond.classLink RX9 23 RX4, Cond.instantiable RX4 3, Cond.initialized RX4, Cond.fieldLink RX9 26 "ReuseHouse$Program" "kinds" "LReuseHouse$Kinds;", Cond.classLink RX9 30 RX3, Cond.instantiable RX3 4, Cond.initialized RX3, Cond.fieldLink RX9 33 "ReuseHouse$Program" "functions" "LReuseHouse$Functions;", Cond.instanceMethod yX2_init, Cond.code yX2_init cX2_init 1 none, Cond.methodLink RX2 3 objectInit, Cond.arrayClass .int, Cond.fieldLink RX2 9 "ReuseHouse$Code" "op" "[I", Cond.fieldLink RX2 15 "ReuseHouse$Code" "a" "[I", Cond.fieldLink RX2 18 "ReuseHouse$Code" "b" "[I"]
def wsL_law0_r4 : List Cond := [Cond.fieldLink RX2 21 "ReuseHouse$Code" "place" "[I", Cond.fieldLink RX2 24 "ReuseHouse$Code" "next" "[I", Cond.fieldLink RX2 27 "ReuseHouse$Code" "needed" "[I", Cond.fieldLink RX2 30 "ReuseHouse$Code" "size" "I", Cond.fieldLink RX2 34 "ReuseHouse$Code" "tail" "I", Cond.instanceMethod yX0_init, Cond.code yX0_init cX0_init 1 none, Cond.methodLink RX0 3 objectInit, Cond.fieldLink RX0 9 "ReuseHouse$Arms" "kind" "[I", Cond.fieldLink RX0 15 "ReuseHouse$Arms" "next" "[I", Cond.fieldLink RX0 18 "ReuseHouse$Arms" "before" "[I", Cond.fieldLink RX0 21 "ReuseHouse$Arms" "leave" "[I", Cond.fieldLink RX0 24 "ReuseHouse$Arms" "firstSlot" "[I", Cond.fieldLink RX0 27 "ReuseHouse$Arms" "builds" "[I", Cond.fieldLink RX0 30 "ReuseHouse$Arms" "size" "I", Cond.instanceMethod yX4_init, Cond.code yX4_init cX4_init 1 none, Cond.methodLink RX4 3 objectInit, Cond.fieldLink RX4 9 "ReuseHouse$Kinds" "word" "[J", Cond.fieldLink RX4 15 "ReuseHouse$Kinds" "fields" "[I", Cond.fieldLink RX4 19 "ReuseHouse$Kinds" "size" "I", Cond.instanceMethod yX3_init, Cond.code yX3_init cX3_init 1 none, Cond.methodLink RX3 3 objectInit]
def wsL_law0_r5 : List Cond := [Cond.fieldLink RX3 9 "ReuseHouse$Functions" "word" "[J", Cond.fieldLink RX3 15 "ReuseHouse$Functions" "enter" "[I", Cond.fieldLink RX3 19 "ReuseHouse$Functions" "facts" "[I", Cond.fieldLink RX3 22 "ReuseHouse$Functions" "size" "I", Cond.instanceMethod yX7_init, Cond.code yX7_init cX7_init 1 none, Cond.methodLink RX7 3 objectInit, Cond.classLink RX7 9 RX10, Cond.instantiable RX10 8, Cond.initialized RX10, Cond.fieldLink RX7 12 "ReuseHouse$Parser" "tokens" "LReuseHouse$Tokens;", Cond.classLink RX7 18 RX6, Cond.instantiable RX6 1, Cond.initialized RX6, Cond.fieldLink RX7 21 "ReuseHouse$Parser" "needs" "LReuseHouse$Needs;", Cond.fieldLink RX7 25 "ReuseHouse$Parser" "names" "[J", Cond.fieldLink RX7 29 "ReuseHouse$Parser" "around" "I", Cond.fieldLink RX7 33 "ReuseHouse$Parser" "built" "[I", Cond.classLink RX7 37 RX9, Cond.fieldLink RX7 40 "ReuseHouse$Parser" "draft" "LReuseHouse$Program;", Cond.fieldLink RX7 44 "ReuseHouse$Parser" "function" "I", Cond.fieldLink RX7 47 "ReuseHouse$Parser" "faultNumber" "I", Cond.fieldLink RX7 50 "ReuseHouse$Parser" "faultPlace" "I", Cond.instanceMethod yX10_init]
def wsL_law0_r6 : List Cond := [Cond.code yX10_init cX10_init 1 none, Cond.methodLink RX10 3 objectInit, Cond.fieldLink RX10 9 "ReuseHouse$Tokens" "sorts" "[I", Cond.fieldLink RX10 15 "ReuseHouse$Tokens" "places" "[I", Cond.fieldLink RX10 18 "ReuseHouse$Tokens" "words" "[J", Cond.fieldLink RX10 22 "ReuseHouse$Tokens" "size" "I", Cond.fieldLink RX10 26 "ReuseHouse$Tokens" "at" "I", Cond.fieldLink RX10 29 "ReuseHouse$Tokens" "sort" "I", Cond.fieldLink RX10 32 "ReuseHouse$Tokens" "place" "I", Cond.fieldLink RX10 35 "ReuseHouse$Tokens" "word" "J", Cond.instanceMethod yX6_init, Cond.code yX6_init cX6_init 1 none, Cond.methodLink RX6 3 objectInit, Cond.fieldLink RX6 9 "ReuseHouse$Needs" "order" "[I", Cond.methodLink RX11 33 yX5_init, Cond.instanceMethod yX5_init, Cond.code yX5_init cX5_init 2 none, Cond.methodLink RX5 3 objectInit, Cond.fieldLink RX5 9 "ReuseHouse$Machine" "counted" "Z", Cond.fieldLink RX5 15 "ReuseHouse$Machine" "stack" "[J", Cond.fieldLink RX5 19 "ReuseHouse$Machine" "top" "I", Cond.fieldLink RX5 23 "ReuseHouse$Machine" "base" "I", Cond.fieldLink RX5 26 "ReuseHouse$Machine" "callBase" "[I", Cond.fieldLink RX5 30 "ReuseHouse$Machine" "callBack" "[I"]
def wsL_law0_r7 : List Cond := [Cond.fieldLink RX5 33 "ReuseHouse$Machine" "callShells" "[I", Cond.fieldLink RX5 36 "ReuseHouse$Machine" "open" "I", Cond.fieldLink RX5 39 "ReuseHouse$Machine" "shells" "[I", Cond.fieldLink RX5 42 "ReuseHouse$Machine" "shellTop" "I", Cond.fieldLink RX5 45 "ReuseHouse$Machine" "at" "I", Cond.fieldLink RX5 48 "ReuseHouse$Machine" "allowed" "I", Cond.fieldLink RX5 51 "ReuseHouse$Machine" "steps" "I", Cond.fieldLink RX5 54 "ReuseHouse$Machine" "mostOpen" "I", Cond.fieldLink RX5 57 "ReuseHouse$Machine" "how" "I", Cond.fieldLink RX5 60 "ReuseHouse$Machine" "stopPlace" "I", Cond.fieldLink RX5 63 "ReuseHouse$Machine" "result" "J", Cond.fieldLink RX5 67 "ReuseHouse$Machine" "program" "LReuseHouse$Program;", Cond.fieldLink RX5 71 "ReuseHouse$Program" "code" "LReuseHouse$Code;", Cond.fieldLink RX5 77 "ReuseHouse$Machine" "code" "LReuseHouse$Code;", Cond.classLink RX5 78 RX1, Cond.fieldLink RX5 83 "ReuseHouse$Machine" "cells" "LReuseHouse$Cells;", Cond.methodLink RX5 80 yX1_init, Cond.instanceMethod yX1_init, Cond.code yX1_init cX1_init 3 none, Cond.methodLink RX1 3 objectInit, Cond.fieldLink RX1 9 "ReuseHouse$Cells" "limit" "I", Cond.fieldLink RX1 15 "ReuseHouse$Cells" "fresh" "I", Cond.fieldLink RX1 18 "ReuseHouse$Cells" "firstFree" "I", Cond.fieldLink RX1 21 "ReuseHouse$Cells" "held" "I"]
def wsL_law0_r8 : List Cond := [Cond.fieldLink RX1 24 "ReuseHouse$Cells" "mostHeld" "I", Cond.fieldLink RX1 27 "ReuseHouse$Cells" "made" "I", Cond.fieldLink RX1 30 "ReuseHouse$Cells" "reused" "I", Cond.fieldLink RX1 33 "ReuseHouse$Cells" "freed" "I", Cond.fieldLink RX1 36 "ReuseHouse$Cells" "doubled" "I", Cond.methodLink RX1 39 Lib.Math.max.name, Cond.static Lib.Math.max.name, Cond.initialized "java/lang/Math", Cond.code Lib.Math.max.name Lib.Math.max.code 2 (some .int), Cond.fieldLink RX1 45 "ReuseHouse$Cells" "kind" "[I", Cond.fieldLink RX1 49 "ReuseHouse$Cells" "count" "[I", Cond.fieldLink RX1 52 "ReuseHouse$Cells" "fields" "[J", Cond.classLink RX1 56 RX4, Cond.fieldLink RX1 59 "ReuseHouse$Cells" "kinds" "LReuseHouse$Kinds;", Cond.methodLink RX11 42 yX1_init, Cond.instanceMethod yX8_init, Cond.code yX8_init cX8_init 1 none, Cond.methodLink RX8 3 objectInit, Cond.fieldLink RX8 9 "ReuseHouse$Printer" "bytes" "[B", Cond.fieldLink RX8 15 "ReuseHouse$Printer" "size" "I", Cond.fieldLink RX8 19 "ReuseHouse$Printer" "spare" "[B", Cond.fieldLink RX8 22 "ReuseHouse$Printer" "spareSize" "I", Cond.fieldLink RX8 25 "ReuseHouse$Printer" "tooLong" "Z", Cond.fieldLink RX8 29 "ReuseHouse$Printer" "openCell" "[I"]
def wsL_law0_r9 : List Cond := [Cond.fieldLink RX8 33 "ReuseHouse$Printer" "openField" "[I", Cond.fieldLink RX8 36 "ReuseHouse$Printer" "open" "I", Cond.methodLink RL 18 yX14_init, Cond.instanceMethod yX14_init, Cond.code yX14_init cX14_init 1 none, Cond.methodLink RX14 1 objectInit, Cond.classLink RX14 7 RX13, Cond.instantiable RX13 8, Cond.initialized RX13, Cond.fieldLink RX14 10 "ReuseHouseModel" "stop" "LReuseHouseModel$Stop;", Cond.fieldLink RX14 16 "ReuseHouseModel" "tape" "[B", Cond.classLink RX14 20 RX12, Cond.instantiable RX12 22, Cond.initialized RX12, Cond.fieldLink RX14 23 "ReuseHouseModel" "p" "LReuseHouseModel$Program;", Cond.fieldLink RX14 27 "ReuseHouseModel" "spare" "LReuseHouseModel$Program;", Cond.fieldLink RX14 30 "ReuseHouseModel" "scope" "[J", Cond.fieldLink RX14 34 "ReuseHouseModel" "where" "I", Cond.fieldLink RX14 38 "ReuseHouseModel" "cellKind" "[I", Cond.fieldLink RX14 42 "ReuseHouseModel" "cellCount" "[I", Cond.fieldLink RX14 45 "ReuseHouseModel" "free" "[I", Cond.fieldLink RX14 48 "ReuseHouseModel" "pile" "[I", Cond.fieldLink RX14 51 "ReuseHouseModel" "cellField" "[J", Cond.fieldLink RX14 54 "ReuseHouseModel" "otherKind" "[I"]
def wsL_law0_r10 : List Cond := [Cond.fieldLink RX14 57 "ReuseHouseModel" "otherField" "[J", Cond.fieldLink RX14 60 "ReuseHouseModel" "taskWhat" "[B", Cond.fieldLink RX14 63 "ReuseHouseModel" "taskPart" "[I", Cond.fieldLink RX14 66 "ReuseHouseModel" "values" "[J", Cond.fieldLink RX14 69 "ReuseHouseModel" "slots" "[J", Cond.fieldLink RX14 72 "ReuseHouseModel" "present" "[I", Cond.fieldLink RX14 75 "ReuseHouseModel" "shell" "[I", Cond.fieldLink RX14 78 "ReuseHouseModel" "shellArm" "[I", Cond.fieldLink RX14 81 "ReuseHouseModel" "shellCall" "[I", Cond.fieldLink RX14 84 "ReuseHouseModel" "keptCounts" "[I", Cond.fieldLink RX14 87 "ReuseHouseModel" "asideKind" "[I", Cond.fieldLink RX14 90 "ReuseHouseModel" "asideCount" "[I", Cond.fieldLink RX14 93 "ReuseHouseModel" "asideField" "[J", Cond.fieldLink RX14 96 "ReuseHouseModel" "out" "[B", Cond.fieldLink RX14 99 "ReuseHouseModel" "side" "[B", Cond.fieldLink RX14 102 "ReuseHouseModel" "saying" "[J", Cond.methodLink RX14 9 yX13_init, Cond.instanceMethod yX13_init, Cond.code yX13_init cX13_init 1 none, Cond.instanceMethod yX12_init, Cond.code yX12_init cX12_init 1 none, Cond.methodLink RX12 3 objectInit, Cond.fieldLink RX12 9 "ReuseHouseModel$Program" "what" "[B", Cond.fieldLink RX12 15 "ReuseHouseModel$Program" "place" "[I"]
def wsL_law0_r11 : List Cond := [Cond.fieldLink RX12 19 "ReuseHouseModel$Program" "own" "[I", Cond.fieldLink RX12 22 "ReuseHouseModel$Program" "one" "[I", Cond.fieldLink RX12 25 "ReuseHouseModel$Program" "two" "[I", Cond.fieldLink RX12 28 "ReuseHouseModel$Program" "three" "[I", Cond.fieldLink RX12 31 "ReuseHouseModel$Program" "beside" "[I", Cond.fieldLink RX12 34 "ReuseHouseModel$Program" "many" "[I", Cond.fieldLink RX12 37 "ReuseHouseModel$Program" "uses" "[I", Cond.fieldLink RX12 40 "ReuseHouseModel$Program" "behind" "[I", Cond.fieldLink RX12 43 "ReuseHouseModel$Program" "name" "[J", Cond.fieldLink RX12 47 "ReuseHouseModel$Program" "makes" "[B", Cond.fieldLink RX12 50 "ReuseHouseModel$Program" "functionName" "[J", Cond.fieldLink RX12 53 "ReuseHouseModel$Program" "kindName" "[J", Cond.fieldLink RX12 56 "ReuseHouseModel$Program" "told" "[I", Cond.fieldLink RX12 59 "ReuseHouseModel$Program" "body" "[I", Cond.fieldLink RX12 62 "ReuseHouseModel$Program" "first" "[I", Cond.fieldLink RX12 65 "ReuseHouseModel$Program" "widest" "[I", Cond.fieldLink RX12 68 "ReuseHouseModel$Program" "fields" "[I", Cond.methodLink RL 19 yX11_feed, Cond.instanceMethod yX11_feed, Cond.selects RX11 yX11_feed yX11_feed, Cond.code yX11_feed cX11_feed 6 (some .int), Cond.methodLink RX11 88 yX11_putFour, Cond.instanceMethod yX11_putFour, Cond.selects RX11 yX11_putFour yX11_putFour]
def wsL_law0_r12 : List Cond := [Cond.code yX11_putFour cX11_putFour 3 none, Cond.methodLink RL 23 yX14_feed, Cond.instanceMethod yX14_feed, Cond.selects RX14 yX14_feed yX14_feed, Cond.code yX14_feed cX14_feed 8 (some .int), Cond.fieldLink RX14 105 "ReuseHouseModel" "thrown" "I", Cond.fieldLink RX14 350 "ReuseHouseModel" "taped" "I", Cond.methodLink RL 24 yX11_program, Cond.instanceMethod yX11_program, Cond.selects RX11 yX11_program yX11_program, Cond.code yX11_program cX11_program 3 (some .int), Cond.fieldLink RX11 95 "ReuseHouse$Parser" "faultNumber" "I", Cond.fieldLink RX11 96 "ReuseHouse$Parser" "faultPlace" "I", Cond.fieldLink RX11 99 "ReuseHouse$Parser" "draft" "LReuseHouse$Program;", Cond.fieldLink RX11 102 "ReuseHouse$Program" "functions" "LReuseHouse$Functions;", Cond.fieldLink RX11 106 "ReuseHouse$Functions" "size" "I", Cond.methodLink RX11 91 yX7_reads, Cond.instanceMethod yX7_reads, Cond.selects RX7 yX7_reads yX7_reads, Cond.codeWith yX7_reads cX7_reads 4 (some .boolean) [(26, 72, 75, 73)], Cond.classLink RX7 73 "java/lang/IllegalStateException", Cond.fieldLink RX7 60 "ReuseHouse$Tokens" "sort" "I", Cond.methodLink RX7 53 yX10_read, Cond.instanceMethod yX10_read]
def wsL_law0_r13 : List Cond := [Cond.selects RX10 yX10_read yX10_read, Cond.code yX10_read cX10_read 7 none, Cond.methodLink RX10 39 Lib.Math.min.name, Cond.static Lib.Math.min.name, Cond.code Lib.Math.min.name Lib.Math.min.code 2 (some .int), Cond.methodLink RX10 45 Lib.Math.max.name, Cond.methodLink RX10 48 yX10_isWordByte, Cond.static yX10_isWordByte, Cond.code yX10_isWordByte cX10_isWordByte 1 (some .boolean), Cond.methodLink RX10 62 yX10_isSmall, Cond.static yX10_isSmall, Cond.code yX10_isSmall cX10_isSmall 1 (some .boolean), Cond.methodLink RX10 72 yX10_isGreat, Cond.static yX10_isGreat, Cond.code yX10_isGreat cX10_isGreat 1 (some .boolean), Cond.methodLink RX10 65 yX10_isDigit, Cond.static yX10_isDigit, Cond.code yX10_isDigit cX10_isDigit 1 (some .boolean), Cond.methodLink RX10 52 yX10_readWord, Cond.instanceMethod yX10_readWord, Cond.selects RX10 yX10_readWord yX10_readWord, Cond.code yX10_readWord cX10_readWord 11 (some .int), Cond.methodLink RX10 68 yX10_sortOfSmall, Cond.static yX10_sortOfSmall]
def wsL_law0_r14 : List Cond := [Cond.code yX10_sortOfSmall cX10_sortOfSmall 2 (some .int), Cond.constantLong RX10 75 (7103860), Cond.constantLong RX10 77 (26990), Cond.constantLong RX10 79 (26982), Cond.constantLong RX10 81 (1952998766), Cond.constantLong RX10 83 (1701606245), Cond.constantLong RX10 85 (469786452840), Cond.constantLong RX10 87 (6714734), Cond.methodLink RX10 56 yX10_readSign, Cond.instanceMethod yX10_readSign, Cond.selects RX10 yX10_readSign yX10_readSign, Cond.code yX10_readSign cX10_readSign 5 (some .int), Cond.methodLink RX10 91 yJ0_indexOf_0f7a4, Cond.instanceMethod yJ0_indexOf_0f7a4, Cond.selects RJ0 yJ0_indexOf_0f7a4 yJ0_indexOf_0f7a4, Cond.initialized RJ0, Cond.code yJ0_indexOf_0f7a4 cJ0_indexOf_0f7a4 2 (some .int), Cond.methodLink RJ0 633 yJ0_indexOf_7cf53, Cond.instanceMethod yJ0_indexOf_7cf53, Cond.selects RJ0 yJ0_indexOf_7cf53 yJ0_indexOf_7cf53, Cond.code yJ0_indexOf_7cf53 cJ0_indexOf_7cf53 3 (some .int), Cond.fieldLink RJ0 9 "java/lang/String" "value" "[B", Cond.methodLink RJ0 492 yJ0_isLatin1_aae02, Cond.instanceMethod yJ0_isLatin1_aae02]
def wsL_law0_r15 : List Cond := [Cond.selects RJ0 yJ0_isLatin1_aae02 yJ0_isLatin1_aae02, Cond.code yJ0_isLatin1_aae02 cJ0_isLatin1_aae02 1 (some .boolean), Cond.fieldLink RJ0 38 "java/lang/String" "COMPACT_STRINGS" "Z", Cond.fieldLink RJ0 15 "java/lang/String" "coder" "B", Cond.methodLink RJ0 505 yJ0_length_8abf5, Cond.instanceMethod yJ0_length_8abf5, Cond.selects RJ0 yJ0_length_8abf5 yJ0_length_8abf5, Cond.code yJ0_length_8abf5 cJ0_length_8abf5 1 (some .int), Cond.methodLink RJ0 335 yJ0_coder_7d493, Cond.instanceMethod yJ0_coder_7d493, Cond.selects RJ0 yJ0_coder_7d493 yJ0_coder_7d493, Cond.code yJ0_coder_7d493 cJ0_coder_7d493 1 (some .byte), Cond.methodLink RJ0 637 yJ1_indexOf_4cfef, Cond.static yJ1_indexOf_4cfef, Cond.initialized RJ1, Cond.code yJ1_indexOf_4cfef cJ1_indexOf_4cfef 4 (some .int), Cond.methodLink RJ1 92 Lib.Math.max.name, Cond.methodLink RJ1 38 Lib.Math.min.name, Cond.methodLink RJ1 88 yJ1_canEncode_9a6ad, Cond.static yJ1_canEncode_9a6ad, Cond.code yJ1_canEncode_9a6ad cJ1_canEncode_9a6ad 1 (some .boolean), Cond.methodLink RJ1 95 yJ1_indexOfChar_4cfef, Cond.static yJ1_indexOfChar_4cfef, Cond.code yJ1_indexOfChar_4cfef cJ1_indexOfChar_4cfef 6 (some .int)]
def wsL_law0_r16 : List Cond := [Cond.methodLink RJ0 640 yJ2_indexOf_4cfef, Cond.static yJ2_indexOf_4cfef, Cond.initialized RJ2, Cond.code yJ2_indexOf_4cfef cJ2_indexOf_4cfef 4 (some .int), Cond.methodLink RJ2 224 Lib.Math.max.name, Cond.methodLink RJ2 183 Lib.Math.min.name, Cond.constant RJ2 227 (65536), Cond.methodLink RJ2 228 yJ2_indexOfChar_4cfef, Cond.static yJ2_indexOfChar_4cfef, Cond.code yJ2_indexOfChar_4cfef cJ2_indexOfChar_4cfef 4 (some .int), Cond.methodLink RJ2 96 yJ2_checkBoundsBeginEnd_d044e, Cond.static yJ2_checkBoundsBeginEnd_d044e, Cond.code yJ2_checkBoundsBeginEnd_d044e cJ2_checkBoundsBeginEnd_d044e 3 none, Cond.methodLink RJ2 48 yJ2_length_9d52b, Cond.static yJ2_length_9d52b, Cond.code yJ2_length_9d52b cJ2_length_9d52b 1 (some .int), Cond.methodLink RJ2 241 yJ0_checkBoundsBeginEnd_23922, Cond.static yJ0_checkBoundsBeginEnd_23922, Cond.code yJ0_checkBoundsBeginEnd_23922 cJ0_checkBoundsBeginEnd_23922 3 none, Cond.fieldLink RJ0 1053 "jdk/internal/util/Preconditions" "SIOOBE_FORMATTER" "Ljava/util/function/BiFunction;", Cond.methodLink RJ0 1062 yJ3_checkFromToIndex_8c36e, Cond.static yJ3_checkFromToIndex_8c36e, Cond.initialized RJ3, Cond.code yJ3_checkFromToIndex_8c36e cJ3_checkFromToIndex_8c36e 4 (some .int)]
def wsL_law0_r17 : List Cond := [Cond.methodLink RJ2 244 yJ2_indexOfCharUnsafe_4cfef, Cond.static yJ2_indexOfCharUnsafe_4cfef, Cond.code yJ2_indexOfCharUnsafe_4cfef cJ2_indexOfCharUnsafe_4cfef 5 (some .int), Cond.methodLink RJ2 71 yJ2_getChar_3b067, Cond.static yJ2_getChar_3b067, Cond.code yJ2_getChar_3b067 cJ2_getChar_3b067 2 (some .char), Cond.fieldLink RJ2 44 "java/lang/StringUTF16" "$assertionsDisabled" "Z", Cond.fieldLink RJ2 59 "java/lang/StringUTF16" "HI_BYTE_SHIFT" "I", Cond.fieldLink RJ2 63 "java/lang/StringUTF16" "LO_BYTE_SHIFT" "I", Cond.methodLink RJ2 232 yJ2_indexOfSupplementary_4cfef, Cond.static yJ2_indexOfSupplementary_4cfef, Cond.code yJ2_indexOfSupplementary_4cfef cJ2_indexOfSupplementary_4cfef 7 (some .int), Cond.methodLink RJ2 164 yJ11_isValidCodePoint_9a6ad, Cond.static yJ11_isValidCodePoint_9a6ad, Cond.initialized RJ11, Cond.code yJ11_isValidCodePoint_9a6ad cJ11_isValidCodePoint_9a6ad 2 (some .boolean), Cond.methodLink RJ2 157 yJ11_highSurrogate_5068e, Cond.static yJ11_highSurrogate_5068e, Cond.code yJ11_highSurrogate_5068e cJ11_highSurrogate_5068e 1 (some .char), Cond.constant RJ11 110 (55232), Cond.methodLink RJ2 161 yJ11_lowSurrogate_5068e, Cond.static yJ11_lowSurrogate_5068e, Cond.code yJ11_lowSurrogate_5068e cJ11_lowSurrogate_5068e 1 (some .char), Cond.constant RJ11 76 (56320)]
def wsL_law0_r18 : List Cond := [Cond.methodLink RX10 59 yX10_advance, Cond.instanceMethod yX10_advance, Cond.selects RX10 yX10_advance yX10_advance, Cond.code yX10_advance cX10_advance 1 none, Cond.methodLink RX7 57 yX9_clear, Cond.instanceMethod yX9_clear, Cond.selects RX9 yX9_clear yX9_clear, Cond.code yX9_clear cX9_clear 1 none, Cond.fieldLink RX9 40 "ReuseHouse$Arms" "size" "I", Cond.fieldLink RX9 44 "ReuseHouse$Kinds" "size" "I", Cond.fieldLink RX9 45 "ReuseHouse$Functions" "size" "I", Cond.methodLink RX9 37 yX2_clear, Cond.instanceMethod yX2_clear, Cond.selects RX2 yX2_clear yX2_clear, Cond.code yX2_clear cX2_clear 1 none, Cond.methodLink RX7 63 yX7_definition, Cond.instanceMethod yX7_definition, Cond.selects RX7 yX7_definition yX7_definition, Cond.code yX7_definition cX7_definition 1 none, Cond.fieldLink RX7 115 "ReuseHouse$Program" "functions" "LReuseHouse$Functions;", Cond.fieldLink RX7 119 "ReuseHouse$Functions" "size" "I", Cond.fieldLink RX7 95 "ReuseHouse$Tokens" "word" "J", Cond.fieldLink RX7 80 "ReuseHouse$Tokens" "place" "I", Cond.fieldLink RX7 134 "ReuseHouse$Functions" "enter" "[I"]
def wsL_law0_r19 : List Cond := [Cond.fieldLink RX7 137 "ReuseHouse$Program" "code" "LReuseHouse$Code;", Cond.methodLink RX7 124 yX7_failMany, Cond.instanceMethod yX7_failMany, Cond.selects RX7 yX7_failMany yX7_failMany, Cond.code yX7_failMany cX7_failMany 2 none, Cond.fieldLink RX7 91 "ReuseHouse$Program" "kinds" "LReuseHouse$Kinds;", Cond.methodLink RX7 87 yX10_opensBracketNext, Cond.instanceMethod yX10_opensBracketNext, Cond.selects RX10 yX10_opensBracketNext yX10_opensBracketNext, Cond.code yX10_opensBracketNext cX10_opensBracketNext 1 (some .boolean), Cond.methodLink RX7 99 yX4_find, Cond.instanceMethod yX4_find, Cond.selects RX4 yX4_find yX4_find, Cond.code yX4_find cX4_find 4 (some .int), Cond.methodLink RX7 105 yX4_fieldsOf, Cond.instanceMethod yX4_fieldsOf, Cond.selects RX4 yX4_fieldsOf yX4_fieldsOf, Cond.code yX4_fieldsOf cX4_fieldsOf 2 (some .int), Cond.methodLink RX7 83 yX7_fail, Cond.instanceMethod yX7_fail, Cond.selects RX7 yX7_fail yX7_fail, Cond.code yX7_fail cX7_fail 3 none, Cond.initialized "java/lang/IllegalStateException", Cond.methodLink RX7 66 yX7_expect]
def wsL_law0_r20 : List Cond := [Cond.instanceMethod yX7_expect, Cond.selects RX7 yX7_expect yX7_expect, Cond.code yX7_expect cX7_expect 2 none, Cond.methodLink RX7 109 yX7_failForm, Cond.instanceMethod yX7_failForm, Cond.selects RX7 yX7_failForm yX7_failForm, Cond.code yX7_failForm cX7_failForm 1 none, Cond.methodLink RX7 112 yX10_advance, Cond.methodLink RX7 127 yX3_find, Cond.instanceMethod yX3_find, Cond.selects RX3 yX3_find yX3_find, Cond.code yX3_find cX3_find 4 (some .int), Cond.methodLink RX7 128 yX3_add, Cond.instanceMethod yX3_add, Cond.selects RX3 yX3_add yX3_add, Cond.code yX3_add cX3_add 5 (some .int), Cond.methodLink RX7 131 yX7_toldNames, Cond.instanceMethod yX7_toldNames, Cond.selects RX7 yX7_toldNames yX7_toldNames, Cond.code yX7_toldNames cX7_toldNames 2 none, Cond.methodLink RX7 150 yX7_newName, Cond.instanceMethod yX7_newName, Cond.selects RX7 yX7_newName yX7_newName, Cond.code yX7_newName cX7_newName 1 none]
def wsL_law0_r21 : List Cond := [Cond.methodLink RX7 159 yX7_slotOf, Cond.instanceMethod yX7_slotOf, Cond.selects RX7 yX7_slotOf yX7_slotOf, Cond.code yX7_slotOf cX7_slotOf 4 (some .int), Cond.methodLink RX7 153 yX7_tell, Cond.instanceMethod yX7_tell, Cond.selects RX7 yX7_tell yX7_tell, Cond.code yX7_tell cX7_tell 3 (some .int), Cond.methodLink RX7 162 yX3_fact, Cond.instanceMethod yX3_fact, Cond.selects RX3 yX3_fact yX3_fact, Cond.code yX3_fact cX3_fact 3 (some .int), Cond.methodLink RX3 26 yX3_has, Cond.instanceMethod yX3_has, Cond.selects RX3 yX3_has yX3_has, Cond.code yX3_has cX3_has 2 (some .boolean), Cond.methodLink RX7 156 yX3_oneMore, Cond.instanceMethod yX3_oneMore, Cond.selects RX3 yX3_oneMore yX3_oneMore, Cond.code yX3_oneMore cX3_oneMore 3 none, Cond.methodLink RX7 141 yX2_append, Cond.instanceMethod yX2_append, Cond.selects RX2 yX2_append yX2_append, Cond.code yX2_append cX2_append 5 (some .int)]
def wsL_law0_r22 : List Cond := [Cond.methodLink RX2 37 yX2_insertBehind, Cond.instanceMethod yX2_insertBehind, Cond.selects RX2 yX2_insertBehind yX2_insertBehind, Cond.code yX2_insertBehind cX2_insertBehind 5 (some .int), Cond.methodLink RX7 147 yX7_expression, Cond.instanceMethod yX7_expression, Cond.selects RX7 yX7_expression yX7_expression, Cond.code yX7_expression cX7_expression 2 none, Cond.methodLink RX7 166 yX7_mustBeginExpression, Cond.instanceMethod yX7_mustBeginExpression, Cond.selects RX7 yX7_mustBeginExpression yX7_mustBeginExpression, Cond.code yX7_mustBeginExpression cX7_mustBeginExpression 1 none, Cond.methodLink RX7 169 yX7_letExpression, Cond.instanceMethod yX7_letExpression, Cond.selects RX7 yX7_letExpression yX7_letExpression, Cond.methodLink RX7 172 yX7_ifExpression, Cond.instanceMethod yX7_ifExpression, Cond.selects RX7 yX7_ifExpression yX7_ifExpression, Cond.methodLink RX7 175 yX7_matchExpression, Cond.instanceMethod yX7_matchExpression, Cond.selects RX7 yX7_matchExpression yX7_matchExpression, Cond.methodLink RX7 178 yX7_comparison, Cond.instanceMethod yX7_comparison, Cond.selects RX7 yX7_comparison yX7_comparison]
def wsL_law0_r23 : List Cond := [Cond.code yX7_arguments cX7_arguments 5 (some .int), Cond.code yX7_arm cX7_arm 8 (some .int), Cond.fieldLink RX7 194 "ReuseHouse$Program" "arms" "LReuseHouse$Arms;", Cond.fieldLink RX7 206 "ReuseHouse$Code" "b" "[I", Cond.fieldLink RX7 212 "ReuseHouse$Arms" "next" "[I", Cond.fieldLink RX7 198 "ReuseHouse$Arms" "kind" "[I", Cond.methodLink RX7 215 yX7_refuseKindTwice, Cond.instanceMethod yX7_refuseKindTwice, Cond.selects RX7 yX7_refuseKindTwice yX7_refuseKindTwice, Cond.code yX7_refuseKindTwice cX7_refuseKindTwice 5 none, Cond.methodLink RX7 218 yX7_kindAtHand, Cond.instanceMethod yX7_kindAtHand, Cond.selects RX7 yX7_kindAtHand yX7_kindAtHand, Cond.code yX7_kindAtHand cX7_kindAtHand 2 (some .int), Cond.fieldLink RX7 240 "ReuseHouse$Kinds" "size" "I", Cond.methodLink RX7 241 yX4_add, Cond.instanceMethod yX4_add, Cond.selects RX4 yX4_add yX4_add, Cond.code yX4_add cX4_add 3 (some .int), Cond.methodLink RX7 222 yX0_add, Cond.instanceMethod yX0_add, Cond.selects RX0 yX0_add yX0_add, Cond.code yX0_add cX0_add 4 (some .int), Cond.methodLink RX7 224 yX7_pattern]
def wsL_law0_r24 : List Cond := [Cond.instanceMethod yX7_pattern, Cond.selects RX7 yX7_pattern yX7_pattern, Cond.code yX7_pattern cX7_pattern 5 none, Cond.methodLink RX7 236 yX7_toldToEnd, Cond.instanceMethod yX7_toldToEnd, Cond.selects RX7 yX7_toldToEnd yX7_toldToEnd, Cond.code yX7_toldToEnd cX7_toldToEnd 4 none, Cond.fieldLink RX7 242 "ReuseHouse$Kinds" "fields" "[I", Cond.methodLink RX7 227 yX7_armBody, Cond.instanceMethod yX7_armBody, Cond.selects RX7 yX7_armBody yX7_armBody, Cond.code yX7_armBody cX7_armBody 6 none, Cond.fieldLink RX7 230 "ReuseHouse$Arms" "before" "[I", Cond.fieldLink RX7 187 "ReuseHouse$Code" "tail" "I", Cond.fieldLink RX7 233 "ReuseHouse$Arms" "builds" "[I", Cond.fieldLink RX7 209 "ReuseHouse$Arms" "leave" "[I", Cond.code yX7_atom cX7_atom 2 none, Cond.methodLink RX7 257 yX7_nameAtom, Cond.instanceMethod yX7_nameAtom, Cond.selects RX7 yX7_nameAtom yX7_nameAtom, Cond.methodLink RX7 260 yX7_kindAtom, Cond.instanceMethod yX7_kindAtom, Cond.selects RX7 yX7_kindAtom yX7_kindAtom, Cond.code yX7_comparison cX7_comparison 4 none]
def wsL_law0_r25 : List Cond := [Cond.methodLink RX7 245 yX7_sum, Cond.instanceMethod yX7_sum, Cond.selects RX7 yX7_sum yX7_sum, Cond.methodLink RX7 248 yX2_insertBehind, Cond.code yX7_ifExpression cX7_ifExpression 5 none, Cond.fieldLink RX7 184 "ReuseHouse$Code" "a" "[I", Cond.methodLink RX7 181 yX2_appendStep, Cond.instanceMethod yX2_appendStep, Cond.selects RX2 yX2_appendStep yX2_appendStep, Cond.code yX2_appendStep cX2_appendStep 2 none, Cond.code yX7_kindAtom cX7_kindAtom 5 none, Cond.methodLink RX7 266 yX7_arguments, Cond.instanceMethod yX7_arguments, Cond.selects RX7 yX7_arguments yX7_arguments, Cond.code yX7_letExpression cX7_letExpression 4 none, Cond.code yX7_matchExpression cX7_matchExpression 8 none, Cond.methodLink RX7 190 yX7_arm, Cond.instanceMethod yX7_arm, Cond.selects RX7 yX7_arm yX7_arm, Cond.methodLink RX7 203 yX7_joinArms, Cond.instanceMethod yX7_joinArms, Cond.selects RX7 yX7_joinArms yX7_joinArms, Cond.code yX7_joinArms cX7_joinArms 4 none, Cond.code yX7_nameAtom cX7_nameAtom 6 none]
def wsL_law0_r26 : List Cond := [Cond.fieldLink RX7 263 "ReuseHouse$Tokens" "at" "I", Cond.methodLink RX7 269 yX7_writeCall, Cond.instanceMethod yX7_writeCall, Cond.selects RX7 yX7_writeCall yX7_writeCall, Cond.code yX7_writeCall cX7_writeCall 5 none, Cond.code yX7_part cX7_part 5 none, Cond.methodLink RX7 254 yX7_atom, Cond.instanceMethod yX7_atom, Cond.selects RX7 yX7_atom yX7_atom, Cond.code yX7_sum cX7_sum 6 none, Cond.methodLink RX7 251 yX7_part, Cond.instanceMethod yX7_part, Cond.selects RX7 yX7_part yX7_part, Cond.methodLink RX7 70 yX7_resolveCalls, Cond.instanceMethod yX7_resolveCalls, Cond.selects RX7 yX7_resolveCalls yX7_resolveCalls, Cond.code yX7_resolveCalls cX7_resolveCalls 5 none, Cond.fieldLink RX7 273 "ReuseHouse$Code" "size" "I", Cond.fieldLink RX7 281 "ReuseHouse$Code" "place" "[I", Cond.methodLink RX7 274 yX7_isCall, Cond.instanceMethod yX7_isCall, Cond.selects RX7 yX7_isCall yX7_isCall, Cond.code yX7_isCall cX7_isCall 2 (some .boolean), Cond.fieldLink RX7 283 "ReuseHouse$Code" "op" "[I"]
def wsL_law0_r27 : List Cond := [Cond.methodLink RX7 278 yX7_resolveCall, Cond.instanceMethod yX7_resolveCall, Cond.selects RX7 yX7_resolveCall yX7_resolveCall, Cond.code yX7_resolveCall cX7_resolveCall 3 (some .int), Cond.methodLink RX7 286 yX10_wordOf, Cond.instanceMethod yX10_wordOf, Cond.selects RX10 yX10_wordOf yX10_wordOf, Cond.code yX10_wordOf cX10_wordOf 2 (some .long), Cond.methodLink RX7 75 yX6_mark, Cond.instanceMethod yX6_mark, Cond.selects RX6 yX6_mark yX6_mark, Cond.code yX6_mark cX6_mark 7 none, Cond.fieldLink RX6 15 "ReuseHouse$Program" "code" "LReuseHouse$Code;", Cond.fieldLink RX6 21 "ReuseHouse$Code" "size" "I", Cond.fieldLink RX6 27 "ReuseHouse$Code" "next" "[I", Cond.fieldLink RX6 30 "ReuseHouse$Code" "needed" "[I", Cond.fieldLink RX6 37 "ReuseHouse$Code" "op" "[I", Cond.fieldLink RX6 40 "ReuseHouse$Code" "a" "[I", Cond.methodLink RX6 33 yX6_neededAt, Cond.instanceMethod yX6_neededAt, Cond.selects RX6 yX6_neededAt yX6_neededAt, Cond.code yX6_neededAt cX6_neededAt 5 (some .int), Cond.fieldLink RX6 51 "ReuseHouse$Code" "b" "[I", Cond.methodLink RX6 47 yX2_neededBehind]
def wsL_law0_r28 : List Cond := [Cond.instanceMethod yX2_neededBehind, Cond.selects RX2 yX2_neededBehind yX2_neededBehind, Cond.code yX2_neededBehind cX2_neededBehind 3 (some .int), Cond.methodLink RX6 54 yX6_neededInArms, Cond.instanceMethod yX6_neededInArms, Cond.selects RX6 yX6_neededInArms yX6_neededInArms, Cond.code yX6_neededInArms cX6_neededInArms 7 (some .int), Cond.fieldLink RX6 60 "ReuseHouse$Program" "arms" "LReuseHouse$Arms;", Cond.fieldLink RX6 64 "ReuseHouse$Arms" "firstSlot" "[I", Cond.fieldLink RX6 69 "ReuseHouse$Arms" "before" "[I", Cond.fieldLink RX6 72 "ReuseHouse$Arms" "next" "[I", Cond.methodLink RX6 57 yX9_armFields, Cond.instanceMethod yX9_armFields, Cond.selects RX9 yX9_armFields yX9_armFields, Cond.code yX9_armFields cX9_armFields 2 (some .int), Cond.fieldLink RX9 46 "ReuseHouse$Arms" "kind" "[I", Cond.methodLink RX9 50 yX4_fieldsOf, Cond.methodLink RX6 43 yX6_countShells, Cond.instanceMethod yX6_countShells, Cond.selects RX6 yX6_countShells yX6_countShells, Cond.code yX6_countShells cX6_countShells 8 none, Cond.fieldLink RX6 77 "ReuseHouse$Program" "functions" "LReuseHouse$Functions;", Cond.methodLink RX6 73 yX9_buildsAsMany, Cond.instanceMethod yX9_buildsAsMany]
def wsL_law0_r29 : List Cond := [Cond.selects RX9 yX9_buildsAsMany yX9_buildsAsMany, Cond.code yX9_buildsAsMany cX9_buildsAsMany 2 (some .boolean), Cond.fieldLink RX9 54 "ReuseHouse$Arms" "builds" "[I", Cond.methodLink RX9 57 yX9_armFields, Cond.methodLink RX6 81 yX3_oneMore, Cond.methodLink RL 27 yX14_program, Cond.instanceMethod yX14_program, Cond.selects RX14 yX14_program yX14_program, Cond.codeWith yX14_program cX14_program 3 (some .int) [(44, 48, 51, 7)], Cond.fieldLink RX14 353 "ReuseHouseModel" "fault" "I", Cond.fieldLink RX14 114 "ReuseHouseModel" "length" "I", Cond.fieldLink RX14 144 "ReuseHouseModel" "at" "I", Cond.fieldLink RX14 359 "ReuseHouseModel" "isTaken" "Z", Cond.fieldLink RX14 363 "ReuseHouseModel" "hasRun" "Z", Cond.fieldLink RX14 366 "ReuseHouseModel" "hasValue" "Z", Cond.fieldLink RX14 369 "ReuseHouseModel" "hasOther" "Z", Cond.methodLink RX14 356 yX14_reads, Cond.instanceMethod yX14_reads, Cond.selects RX14 yX14_reads yX14_reads, Cond.code yX14_reads cX14_reads 6 none, Cond.fieldLink RX14 151 "ReuseHouseModel" "place" "I", Cond.fieldLink RX14 152 "ReuseHouseModel" "sort" "I", Cond.fieldLink RX14 168 "ReuseHouseModel" "letters" "J", Cond.fieldLink RX14 220 "ReuseHouseModel" "scoped" "I"]
def wsL_law0_r30 : List Cond := [Cond.fieldLink RX14 252 "ReuseHouseModel" "deep" "I", Cond.methodLink RX14 184 yX14_next, Cond.instanceMethod yX14_next, Cond.selects RX14 yX14_next yX14_next, Cond.code yX14_next cX14_next 6 none, Cond.fieldLink RX14 155 "ReuseHouseModel" "sign" "I", Cond.constantLong RX14 172 (10), Cond.methodLink RX14 147 yX14_byteAt, Cond.instanceMethod yX14_byteAt, Cond.selects RX14 yX14_byteAt yX14_byteAt, Cond.code yX14_byteAt cX14_byteAt 2 (some .int), Cond.methodLink RX14 158 yX14_isSmall, Cond.static yX14_isSmall, Cond.code yX14_isSmall cX14_isSmall 1 (some .boolean), Cond.methodLink RX14 162 yX14_isGreat, Cond.static yX14_isGreat, Cond.code yX14_isGreat cX14_isGreat 1 (some .boolean), Cond.methodLink RX14 165 yX14_isDigit, Cond.static yX14_isDigit, Cond.code yX14_isDigit cX14_isDigit 1 (some .boolean), Cond.methodLink RX14 174 yX14_isKept, Cond.static yX14_isKept, Cond.code yX14_isKept cX14_isKept 2 (some .boolean), Cond.methodLink RX14 128 yX14_lettersOf]
def wsL_law0_r31 : List Cond := [Cond.static yX14_lettersOf, Cond.code yX14_lettersOf cX14_lettersOf 4 (some .long), Cond.methodLink RX14 117 yJ0_length_8abf5, Cond.methodLink RX14 122 yJ0_charAt_5068e, Cond.instanceMethod yJ0_charAt_5068e, Cond.selects RJ0 yJ0_charAt_5068e yJ0_charAt_5068e, Cond.code yJ0_charAt_5068e cJ0_charAt_5068e 2 (some .char), Cond.methodLink RJ0 495 yJ1_charAt_3b067, Cond.static yJ1_charAt_3b067, Cond.code yJ1_charAt_3b067 cJ1_charAt_3b067 2 (some .char), Cond.methodLink RJ1 9 yJ0_checkIndex_df160, Cond.static yJ0_checkIndex_df160, Cond.code yJ0_checkIndex_df160 cJ0_checkIndex_df160 2 none, Cond.methodLink RJ0 1059 yJ3_checkIndex_8e157, Cond.static yJ3_checkIndex_8e157, Cond.code yJ3_checkIndex_8e157 cJ3_checkIndex_8e157 3 (some .int), Cond.methodLink RJ0 498 yJ2_charAt_3b067, Cond.static yJ2_charAt_3b067, Cond.code yJ2_charAt_3b067 cJ2_charAt_3b067 2 (some .char), Cond.methodLink RJ2 67 yJ2_checkIndex_2214a, Cond.static yJ2_checkIndex_2214a, Cond.code yJ2_checkIndex_2214a cJ2_checkIndex_2214a 2 none, Cond.methodLink RJ2 414 yJ0_checkIndex_df160, Cond.methodLink RX14 187 yX14_isWord]
def wsL_law0_r32 : List Cond := [Cond.instanceMethod yX14_isWord, Cond.selects RX14 yX14_isWord yX14_isWord, Cond.code yX14_isWord cX14_isWord 2 (some .boolean), Cond.methodLink RX14 318 yX14_functionOf, Cond.static yX14_functionOf, Cond.code yX14_functionOf cX14_functionOf 4 (some .int), Cond.methodLink RX14 223 yX14_slotOf, Cond.instanceMethod yX14_slotOf, Cond.selects RX14 yX14_slotOf yX14_slotOf, Cond.code yX14_slotOf cX14_slotOf 4 (some .int), Cond.methodLink RX14 265 yX14_tells, Cond.instanceMethod yX14_tells, Cond.selects RX14 yX14_tells yX14_tells, Cond.code yX14_tells cX14_tells 1 (some .int), Cond.methodLink RX14 233 Lib.Math.max.name, Cond.methodLink RX14 268 yX14_need, Cond.instanceMethod yX14_need, Cond.selects RX14 yX14_need yX14_need, Cond.code yX14_need cX14_need 2 none, Cond.methodLink RX14 178 yX14_is, Cond.instanceMethod yX14_is, Cond.selects RX14 yX14_is yX14_is, Cond.code yX14_is cX14_is 2 (some .boolean), Cond.methodLink RX14 272 yX14_expr]
def wsL_law0_r33 : List Cond := [Cond.instanceMethod yX14_expr, Cond.selects RX14 yX14_expr yX14_expr, Cond.code yX14_expr cX14_expr 2 (some .int), Cond.methodLink RX14 248 yX14_begins, Cond.instanceMethod yX14_begins, Cond.selects RX14 yX14_begins yX14_begins, Cond.code yX14_begins cX14_begins 1 (some .boolean), Cond.methodLink RX14 255 yX14_let, Cond.instanceMethod yX14_let, Cond.selects RX14 yX14_let yX14_let, Cond.methodLink RX14 257 yX14_ifs, Cond.instanceMethod yX14_ifs, Cond.selects RX14 yX14_ifs yX14_ifs, Cond.methodLink RX14 260 yX14_match, Cond.instanceMethod yX14_match, Cond.selects RX14 yX14_match yX14_match, Cond.methodLink RX14 262 yX14_compared, Cond.instanceMethod yX14_compared, Cond.selects RX14 yX14_compared yX14_compared, Cond.code yX14_arguments cX14_arguments 7 (some .int), Cond.fieldLink RX14 312 "ReuseHouseModel" "counted" "I", Cond.code yX14_atom cX14_atom 6 (some .int), Cond.methodLink RX14 279 yX14_part, Cond.instanceMethod yX14_part]
def wsL_law0_r34 : List Cond := [Cond.selects RX14 yX14_part yX14_part, Cond.code yX14_part cX14_part 4 (some .int), Cond.methodLink RX14 306 yX14_named, Cond.instanceMethod yX14_named, Cond.selects RX14 yX14_named yX14_named, Cond.methodLink RX14 285 yX14_kind, Cond.instanceMethod yX14_kind, Cond.selects RX14 yX14_kind yX14_kind, Cond.code yX14_kind cX14_kind 2 (some .int), Cond.methodLink RX14 309 yX14_arguments, Cond.instanceMethod yX14_arguments, Cond.selects RX14 yX14_arguments yX14_arguments, Cond.methodLink RX14 289 yX14_has, Cond.instanceMethod yX14_has, Cond.selects RX14 yX14_has yX14_has, Cond.code yX14_has cX14_has 4 none, Cond.code yX14_compared cX14_compared 3 (some .int), Cond.methodLink RX14 293 yX14_sum, Cond.instanceMethod yX14_sum, Cond.selects RX14 yX14_sum yX14_sum, Cond.methodLink RX14 296 yX14_both, Cond.instanceMethod yX14_both, Cond.selects RX14 yX14_both yX14_both, Cond.code yX14_both cX14_both 6 (some .int)]
def wsL_law0_r35 : List Cond := [Cond.code yX14_ifs cX14_ifs 6 (some .int), Cond.methodLink RX14 275 yX14_needWord, Cond.instanceMethod yX14_needWord, Cond.selects RX14 yX14_needWord yX14_needWord, Cond.code yX14_needWord cX14_needWord 2 none, Cond.code yX14_let cX14_let 9 (some .int), Cond.code yX14_match cX14_match 15 (some .int), Cond.methodLink RX14 287 yX14_fields, Cond.instanceMethod yX14_fields, Cond.selects RX14 yX14_fields yX14_fields, Cond.code yX14_fields cX14_fields 4 (some .int), Cond.code yX14_named cX14_named 7 (some .int), Cond.code yX14_product cX14_product 3 (some .int), Cond.methodLink RX14 303 yX14_atom, Cond.instanceMethod yX14_atom, Cond.selects RX14 yX14_atom yX14_atom, Cond.code yX14_sum cX14_sum 4 (some .int), Cond.methodLink RX14 300 yX14_product, Cond.instanceMethod yX14_product, Cond.selects RX14 yX14_product yX14_product, Cond.methodLink RX14 331 yX14_needed, Cond.instanceMethod yX14_needed, Cond.selects RX14 yX14_needed yX14_needed, Cond.code yX14_needed cX14_needed 9 none]
def wsL_law0_r36 : List Cond := [Cond.methodLink RX14 334 yX14_bit, Cond.static yX14_bit, Cond.code yX14_bit cX14_bit 1 (some .int), Cond.methodLink RX14 343 yX14_ofArm, Cond.static yX14_ofArm, Cond.code yX14_ofArm cX14_ofArm 2 (some .int), Cond.methodLink RL 28 yX11_fault, Cond.instanceMethod yX11_fault, Cond.selects RX11 yX11_fault yX11_fault, Cond.code yX11_fault cX11_fault 1 (some .int), Cond.methodLink RL 32 yX14_fault, Cond.instanceMethod yX14_fault, Cond.selects RX14 yX14_fault yX14_fault, Cond.code yX14_fault cX14_fault 1 (some .int), Cond.methodLink RL 33 yX11_where, Cond.instanceMethod yX11_where, Cond.selects RX11 yX11_where yX11_where, Cond.code yX11_where cX11_where 1 (some .int), Cond.methodLink RL 36 yX14_where, Cond.instanceMethod yX14_where, Cond.selects RX14 yX14_where yX14_where, Cond.code yX14_where cX14_where 1 (some .int), Cond.methodLink RL 37 yX11_about, Cond.instanceMethod yX11_about]
def wsL_law0_r37 : List Cond := [Cond.selects RX11 yX11_about yX11_about, Cond.code yX11_about cX11_about 3 (some .int), Cond.methodLink RX11 111 yX3_has, Cond.methodLink RX11 115 yX3_fact, Cond.methodLink RL 41 yX14_about, Cond.instanceMethod yX14_about, Cond.selects RX14 yX14_about yX14_about, Cond.code yX14_about cX14_about 8 (some .int), Cond.methodLink RX14 372 yX14_isNeeded, Cond.instanceMethod yX14_isNeeded, Cond.selects RX14 yX14_isNeeded yX14_isNeeded, Cond.code yX14_isNeeded cX14_isNeeded 3 (some .boolean), Cond.methodLink RX14 376 yX14_isMade, Cond.instanceMethod yX14_isMade, Cond.selects RX14 yX14_isMade yX14_isMade, Cond.code yX14_isMade cX14_isMade 2 (some .boolean), Cond.methodLink RL 42 yX11_run, Cond.instanceMethod yX11_run, Cond.selects RX11 yX11_run yX11_run, Cond.code yX11_run cX11_run 8 (some .int), Cond.fieldLink RX11 123 "ReuseHouse$Program" "kinds" "LReuseHouse$Kinds;", Cond.fieldLink RX11 141 "ReuseHouse$Machine" "stopPlace" "I", Cond.fieldLink RX11 142 "ReuseHouse$Machine" "steps" "I", Cond.fieldLink RX11 145 "ReuseHouse$Machine" "mostOpen" "I"]
def wsL_law0_r38 : List Cond := [Cond.fieldLink RX11 148 "ReuseHouse$Machine" "how" "I", Cond.fieldLink RX11 151 "ReuseHouse$Machine" "result" "J", Cond.fieldLink RX11 154 "ReuseHouse$Cells" "held" "I", Cond.methodLink RX11 119 yX11_mayWork, Cond.instanceMethod yX11_mayWork, Cond.selects RX11 yX11_mayWork yX11_mayWork, Cond.code yX11_mayWork cX11_mayWork 3 (some .boolean), Cond.methodLink RX11 127 yX1_begin, Cond.instanceMethod yX1_begin, Cond.selects RX1 yX1_begin yX1_begin, Cond.code yX1_begin cX1_begin 3 none, Cond.methodLink RX1 63 Lib.Math.min.name, Cond.methodLink RX11 131 yX5_begin, Cond.instanceMethod yX5_begin, Cond.selects RX5 yX5_begin yX5_begin, Cond.code yX5_begin cX5_begin 5 none, Cond.methodLink RX11 134 yX11_tellInts, Cond.instanceMethod yX11_tellInts, Cond.selects RX11 yX11_tellInts yX11_tellInts, Cond.code yX11_tellInts cX11_tellInts 9 none, Cond.methodLink RX11 157 yX1_ofInt, Cond.static yX1_ofInt, Cond.code yX1_ofInt cX1_ofInt 1 (some .long), Cond.constantLong RX1 66 (4294967295)]
def wsL_law0_r39 : List Cond := [Cond.methodLink RX11 161 yX5_push, Cond.instanceMethod yX5_push, Cond.selects RX5 yX5_push yX5_push, Cond.code yX5_push cX5_push 3 none, Cond.methodLink RX11 138 yX5_work, Cond.instanceMethod yX5_work, Cond.selects RX5 yX5_work yX5_work, Cond.code yX5_work cX5_work 3 none, Cond.constant RX5 91 (100000), Cond.methodLink RX5 87 yX5_openCall, Cond.instanceMethod yX5_openCall, Cond.selects RX5 yX5_openCall yX5_openCall, Cond.code yX5_openCall cX5_openCall 3 none, Cond.fieldLink RX5 165 "ReuseHouse$Program" "functions" "LReuseHouse$Functions;", Cond.methodLink RX5 210 Lib.Math.max.name, Cond.methodLink RX5 215 Lib.Math.min.name, Cond.fieldLink RX5 218 "ReuseHouse$Functions" "enter" "[I", Cond.methodLink RX5 208 yX3_has, Cond.methodLink RX5 169 yX3_fact, Cond.methodLink RX5 92 yX5_turn, Cond.instanceMethod yX5_turn, Cond.selects RX5 yX5_turn yX5_turn, Cond.code yX5_turn cX5_turn 2 none, Cond.fieldLink RX5 95 "ReuseHouse$Code" "next" "[I"]
def wsL_law0_r40 : List Cond := [Cond.fieldLink RX5 100 "ReuseHouse$Code" "op" "[I", Cond.fieldLink RX5 103 "ReuseHouse$Code" "a" "[I", Cond.methodLink RX5 106 yX5_toldBits, Cond.instanceMethod yX5_toldBits, Cond.selects RX5 yX5_toldBits yX5_toldBits, Cond.code yX5_toldBits cX5_toldBits 2 (some .int), Cond.methodLink RX5 110 yX2_neededBehind, Cond.methodLink RX5 113 yX5_dropNames, Cond.instanceMethod yX5_dropNames, Cond.selects RX5 yX5_dropNames yX5_dropNames, Cond.code yX5_dropNames cX5_dropNames 3 none, Cond.methodLink RX5 175 yX5_has, Cond.static yX5_has, Cond.code yX5_has cX5_has 2 (some .boolean), Cond.methodLink RX5 179 yX1_drop, Cond.instanceMethod yX1_drop, Cond.selects RX1 yX1_drop yX1_drop, Cond.code yX1_drop cX1_drop 7 none, Cond.methodLink RX1 88 yX1_lower, Cond.instanceMethod yX1_lower, Cond.selects RX1 yX1_lower yX1_lower, Cond.code yX1_lower cX1_lower 5 (some .int), Cond.methodLink RX1 78 yX1_isCell, Cond.static yX1_isCell]
def wsL_law0_r41 : List Cond := [Cond.code yX1_isCell cX1_isCell 2 (some .boolean), Cond.constantLong RX1 72 (2), Cond.methodLink RX1 85 yX1_width, Cond.instanceMethod yX1_width, Cond.selects RX1 yX1_width yX1_width, Cond.code yX1_width cX1_width 2 (some .int), Cond.methodLink RX1 81 yX4_fieldsOf, Cond.methodLink RX1 92 yX1_field, Cond.instanceMethod yX1_field, Cond.selects RX1 yX1_field yX1_field, Cond.code yX1_field cX1_field 3 (some .long), Cond.methodLink RX1 96 yX1_free, Cond.instanceMethod yX1_free, Cond.selects RX1 yX1_free yX1_free, Cond.code yX1_free cX1_free 2 none, Cond.methodLink RX5 116 yX5_step, Cond.instanceMethod yX5_step, Cond.selects RX5 yX5_step yX5_step, Cond.code yX5_step cX5_step 2 (some .boolean), Cond.methodLink RX5 162 yX5_stop, Cond.instanceMethod yX5_stop, Cond.selects RX5 yX5_stop yX5_stop, Cond.code yX5_stop cX5_stop 3 none, Cond.fieldLink RX5 159 "ReuseHouse$Code" "place" "[I"]
def wsL_law0_r42 : List Cond := [Cond.methodLink RX5 120 yX5_number, Cond.instanceMethod yX5_number, Cond.selects RX5 yX5_number yX5_number, Cond.code yX5_number cX5_number 2 none, Cond.methodLink RX5 183 yX1_ofInt, Cond.methodLink RX5 187 yX5_push, Cond.methodLink RX5 123 yX5_useName, Cond.instanceMethod yX5_useName, Cond.selects RX5 yX5_useName yX5_useName, Cond.code yX5_useName cX5_useName 5 none, Cond.methodLink RX5 193 yX1_copy, Cond.instanceMethod yX1_copy, Cond.selects RX1 yX1_copy yX1_copy, Cond.code yX1_copy cX1_copy 3 none, Cond.methodLink RX5 126 yX5_kindAlone, Cond.instanceMethod yX5_kindAlone, Cond.selects RX5 yX5_kindAlone yX5_kindAlone, Cond.code yX5_kindAlone cX5_kindAlone 2 none, Cond.methodLink RX5 190 yX1_ofKind, Cond.static yX1_ofKind, Cond.code yX1_ofKind cX1_ofKind 1 (some .long), Cond.constantLong RX1 68 (4294967296), Cond.methodLink RX5 129 yX5_build, Cond.instanceMethod yX5_build]
def wsL_law0_r43 : List Cond := [Cond.selects RX5 yX5_build yX5_build, Cond.code yX5_build cX5_build 5 none, Cond.fieldLink RX5 221 "ReuseHouse$Program" "kinds" "LReuseHouse$Kinds;", Cond.fieldLink RX5 237 "ReuseHouse$Cells" "reused" "I", Cond.methodLink RX5 225 yX4_fieldsOf, Cond.methodLink RX5 230 yX5_takeShell, Cond.instanceMethod yX5_takeShell, Cond.selects RX5 yX5_takeShell yX5_takeShell, Cond.code yX5_takeShell cX5_takeShell 5 (some .int), Cond.methodLink RX5 247 yX1_width, Cond.methodLink RX5 233 yX1_take, Cond.instanceMethod yX1_take, Cond.selects RX1 yX1_take yX1_take, Cond.code yX1_take cX1_take 2 (some .int), Cond.methodLink RX5 240 yX1_fill, Cond.instanceMethod yX1_fill, Cond.selects RX1 yX1_fill yX1_fill, Cond.code yX1_fill cX1_fill 6 none, Cond.methodLink RX5 244 yX1_ofCell, Cond.static yX1_ofCell, Cond.code yX1_ofCell cX1_ofCell 1 (some .long), Cond.constantLong RX1 70 (8589934592), Cond.methodLink RX5 132 yX5_callAlone, Cond.instanceMethod yX5_callAlone]
def wsL_law0_r44 : List Cond := [Cond.selects RX5 yX5_callAlone yX5_callAlone, Cond.code yX5_callAlone cX5_callAlone 2 none, Cond.methodLink RX5 135 yX5_call, Cond.instanceMethod yX5_call, Cond.selects RX5 yX5_call yX5_call, Cond.code yX5_call cX5_call 2 none, Cond.methodLink RX5 138 yX5_bind, Cond.instanceMethod yX5_bind, Cond.selects RX5 yX5_bind yX5_bind, Cond.code yX5_bind cX5_bind 3 none, Cond.methodLink RX5 196 yX5_pop, Cond.instanceMethod yX5_pop, Cond.selects RX5 yX5_pop yX5_pop, Cond.code yX5_pop cX5_pop 1 (some .long), Cond.methodLink RX5 141 yX5_choose, Cond.instanceMethod yX5_choose, Cond.selects RX5 yX5_choose yX5_choose, Cond.code yX5_choose cX5_choose 6 none, Cond.methodLink RX5 200 yX1_isInt, Cond.static yX1_isInt, Cond.code yX1_isInt cX1_isInt 2 (some .boolean), Cond.methodLink RX5 144 yX5_goBehind, Cond.instanceMethod yX5_goBehind, Cond.selects RX5 yX5_goBehind yX5_goBehind]
def wsL_law0_r45 : List Cond := [Cond.code yX5_goBehind cX5_goBehind 2 none, Cond.methodLink RX5 147 yX5_match, Cond.instanceMethod yX5_match, Cond.selects RX5 yX5_match yX5_match, Cond.code yX5_match cX5_match 9 none, Cond.fieldLink RX5 250 "ReuseHouse$Code" "b" "[I", Cond.fieldLink RX5 260 "ReuseHouse$Program" "arms" "LReuseHouse$Arms;", Cond.fieldLink RX5 264 "ReuseHouse$Arms" "before" "[I", Cond.fieldLink RX5 276 "ReuseHouse$Arms" "kind" "[I", Cond.fieldLink RX5 286 "ReuseHouse$Code" "needed" "[I", Cond.methodLink RX5 253 yX1_kindOf, Cond.instanceMethod yX1_kindOf, Cond.selects RX1 yX1_kindOf yX1_kindOf, Cond.code yX1_kindOf cX1_kindOf 3 (some .int), Cond.methodLink RX1 74 yX1_isInt, Cond.methodLink RX5 257 yX5_fittingArm, Cond.instanceMethod yX5_fittingArm, Cond.selects RX5 yX5_fittingArm yX5_fittingArm, Cond.code yX5_fittingArm cX5_fittingArm 6 (some .int), Cond.fieldLink RX5 289 "ReuseHouse$Arms" "next" "[I", Cond.methodLink RX5 269 yX5_bindPlainly, Cond.instanceMethod yX5_bindPlainly, Cond.selects RX5 yX5_bindPlainly yX5_bindPlainly, Cond.code yX5_bindPlainly cX5_bindPlainly 5 none]
def wsL_law0_r46 : List Cond := [Cond.fieldLink RX5 293 "ReuseHouse$Arms" "firstSlot" "[I", Cond.methodLink RX5 290 yX9_armFields, Cond.methodLink RX5 279 yX1_isCell, Cond.methodLink RX5 296 yX1_field, Cond.methodLink RX5 273 yX5_keepShell, Cond.instanceMethod yX5_keepShell, Cond.selects RX5 yX5_keepShell yX5_keepShell, Cond.code yX5_keepShell cX5_keepShell 2 none, Cond.methodLink RX5 282 yX5_takeApart, Cond.instanceMethod yX5_takeApart, Cond.selects RX5 yX5_takeApart yX5_takeApart, Cond.code yX5_takeApart cX5_takeApart 10 (some .int), Cond.fieldLink RX5 300 "ReuseHouse$Cells" "count" "[I", Cond.methodLink RX5 303 yX9_buildsAsMany, Cond.methodLink RX5 306 yX1_free, Cond.methodLink RX5 150 yX5_leaveArm, Cond.instanceMethod yX5_leaveArm, Cond.selects RX5 yX5_leaveArm yX5_leaveArm, Cond.code yX5_leaveArm cX5_leaveArm 2 none, Cond.methodLink RX5 153 yX5_closeCall, Cond.instanceMethod yX5_closeCall, Cond.selects RX5 yX5_closeCall yX5_closeCall, Cond.code yX5_closeCall cX5_closeCall 3 none, Cond.methodLink RX5 156 yX5_sign]
def wsL_law0_r47 : List Cond := [Cond.instanceMethod yX5_sign, Cond.selects RX5 yX5_sign yX5_sign, Cond.code yX5_sign cX5_sign 6 none, Cond.methodLink RX5 204 yX5_reckon, Cond.static yX5_reckon, Cond.code yX5_reckon cX5_reckon 3 (some .int), Cond.methodLink RL 46 yX14_run, Cond.instanceMethod yX14_run, Cond.selects RX14 yX14_run yX14_run, Cond.code yX14_run cX14_run 9 (some .int), Cond.fieldLink RX14 392 "ReuseHouseModel" "isPlain" "Z", Cond.fieldLink RX14 383 "ReuseHouseModel" "given" "I", Cond.fieldLink RX14 386 "ReuseHouseModel" "freeCount" "I", Cond.fieldLink RX14 431 "ReuseHouseModel" "steps" "I", Cond.fieldLink RX14 487 "ReuseHouseModel" "made" "I", Cond.fieldLink RX14 484 "ReuseHouseModel" "reused" "I", Cond.fieldLink RX14 389 "ReuseHouseModel" "freed" "I", Cond.fieldLink RX14 490 "ReuseHouseModel" "most" "I", Cond.fieldLink RX14 398 "ReuseHouseModel" "doubled" "I", Cond.fieldLink RX14 424 "ReuseHouseModel" "openMost" "I", Cond.fieldLink RX14 512 "ReuseHouseModel" "value" "J", Cond.methodLink RX14 505 yX14_isGood, Cond.instanceMethod yX14_isGood, Cond.selects RX14 yX14_isGood yX14_isGood]
def wsL_law0_r48 : List Cond := [Cond.code yX14_isGood cX14_isGood 3 (some .boolean), Cond.methodLink RX14 508 yX14_worked, Cond.instanceMethod yX14_worked, Cond.selects RX14 yX14_worked yX14_worked, Cond.codeWith yX14_worked cX14_worked 10 (some .int) [(93, 196, 199, 7)], Cond.fieldLink RX14 404 "ReuseHouseModel" "tasks" "I", Cond.fieldLink RX14 407 "ReuseHouseModel" "valued" "I", Cond.fieldLink RX14 410 "ReuseHouseModel" "open" "I", Cond.fieldLink RX14 478 "ReuseHouseModel" "shells" "I", Cond.methodLink RX14 434 yX14_ofInt, Cond.static yX14_ofInt, Cond.code yX14_ofInt cX14_ofInt 1 (some .long), Cond.constantLong RX14 381 (4294967295), Cond.methodLink RX14 438 yX14_push, Cond.instanceMethod yX14_push, Cond.selects RX14 yX14_push yX14_push, Cond.code yX14_push cX14_push 5 none, Cond.methodLink RX14 460 yX14_enters, Cond.instanceMethod yX14_enters, Cond.selects RX14 yX14_enters yX14_enters, Cond.code yX14_enters cX14_enters 6 none, Cond.methodLink RX14 417 yX14_call, Cond.instanceMethod yX14_call, Cond.selects RX14 yX14_call yX14_call]
def wsL_law0_r49 : List Cond := [Cond.code yX14_call cX14_call 1 (some .int), Cond.methodLink RX14 427 yX14_gets, Cond.instanceMethod yX14_gets, Cond.selects RX14 yX14_gets yX14_gets, Cond.code yX14_gets cX14_gets 5 none, Cond.methodLink RX14 413 yX14_drops, Cond.instanceMethod yX14_drops, Cond.selects RX14 yX14_drops yX14_drops, Cond.code yX14_drops cX14_drops 8 none, Cond.methodLink RX14 395 yX14_isCell, Cond.static yX14_isCell, Cond.code yX14_isCell cX14_isCell 2 (some .boolean), Cond.constantLong RX14 379 (2), Cond.methodLink RX14 401 yX14_frees, Cond.instanceMethod yX14_frees, Cond.selects RX14 yX14_frees yX14_frees, Cond.code yX14_frees cX14_frees 2 none, Cond.methodLink RX14 420 yX14_task, Cond.instanceMethod yX14_task, Cond.selects RX14 yX14_task yX14_task, Cond.code yX14_task cX14_task 6 none, Cond.methodLink RX14 496 yX14_works, Cond.instanceMethod yX14_works, Cond.selects RX14 yX14_works yX14_works]
def wsL_law0_r50 : List Cond := [Cond.code yX14_works cX14_works 6 none, Cond.methodLink RX14 441 yX14_doubles, Cond.instanceMethod yX14_doubles, Cond.selects RX14 yX14_doubles yX14_doubles, Cond.code yX14_doubles cX14_doubles 3 none, Cond.methodLink RX14 444 yX14_matches, Cond.instanceMethod yX14_matches, Cond.selects RX14 yX14_matches yX14_matches, Cond.code yX14_matches cX14_matches 16 none, Cond.methodLink RX14 454 yX14_isInt, Cond.static yX14_isInt, Cond.code yX14_isInt cX14_isInt 2 (some .boolean), Cond.methodLink RX14 457 yX14_wayBegins, Cond.instanceMethod yX14_wayBegins, Cond.selects RX14 yX14_wayBegins yX14_wayBegins, Cond.code yX14_wayBegins cX14_wayBegins 5 none, Cond.methodLink RX14 447 yX14_puts, Cond.instanceMethod yX14_puts, Cond.selects RX14 yX14_puts yX14_puts, Cond.code yX14_puts cX14_puts 6 none, Cond.methodLink RX14 499 yX14_does, Cond.instanceMethod yX14_does, Cond.selects RX14 yX14_does yX14_does, Cond.code yX14_does cX14_does 9 none]
def wsL_law0_r51 : List Cond := [Cond.methodLink RX14 450 yX14_pop, Cond.instanceMethod yX14_pop, Cond.selects RX14 yX14_pop yX14_pop, Cond.code yX14_pop cX14_pop 1 (some .long), Cond.methodLink RX14 463 yX14_makes, Cond.instanceMethod yX14_makes, Cond.selects RX14 yX14_makes yX14_makes, Cond.code yX14_makes cX14_makes 5 none, Cond.constantLong RX14 465 (4294967296), Cond.constantLong RX14 473 (8589934592), Cond.methodLink RX14 467 yX14_plainCell, Cond.instanceMethod yX14_plainCell, Cond.selects RX14 yX14_plainCell yX14_plainCell, Cond.code yX14_plainCell cX14_plainCell 2 (some .int), Cond.fieldLink RX14 475 "ReuseHouseModel" "nextPlain" "I", Cond.methodLink RX14 470 yX14_cell, Cond.instanceMethod yX14_cell, Cond.selects RX14 yX14_cell yX14_cell, Cond.code yX14_cell cX14_cell 5 (some .int), Cond.methodLink RX14 481 yX14_takesShell, Cond.instanceMethod yX14_takesShell, Cond.selects RX14 yX14_takesShell yX14_takesShell, Cond.code yX14_takesShell cX14_takesShell 3 none, Cond.methodLink RX14 493 yX14_held]
def wsL_law0_r52 : List Cond := [Cond.instanceMethod yX14_held, Cond.selects RX14 yX14_held yX14_held, Cond.code yX14_held cX14_held 1 (some .int), Cond.methodLink RX14 502 yX14_ends, Cond.instanceMethod yX14_ends, Cond.selects RX14 yX14_ends yX14_ends, Cond.code yX14_ends cX14_ends 3 none, Cond.methodLink RL 47 yX11_plain, Cond.instanceMethod yX11_plain, Cond.selects RX11 yX11_plain yX11_plain, Cond.code yX11_plain cX11_plain 7 (some .int), Cond.methodLink RL 51 yX14_plain, Cond.instanceMethod yX14_plain, Cond.selects RX14 yX14_plain yX14_plain, Cond.code yX14_plain cX14_plain 11 (some .int), Cond.fieldLink RX14 515 "ReuseHouseModel" "other" "J", Cond.methodLink RL 52 yX11_show, Cond.instanceMethod yX11_show, Cond.selects RX11 yX11_show yX11_show, Cond.code yX11_show cX11_show 2 (some .int), Cond.methodLink RX11 165 yX8_print, Cond.instanceMethod yX8_print, Cond.selects RX8 yX8_print yX8_print, Cond.code yX8_print cX8_print 5 (some .int)]
def wsL_law0_r53 : List Cond := [Cond.methodLink RX8 39 yX8_putValue, Cond.instanceMethod yX8_putValue, Cond.selects RX8 yX8_putValue yX8_putValue, Cond.code yX8_putValue cX8_putValue 4 none, Cond.fieldLink RX8 68 "ReuseHouse$Cells" "kinds" "LReuseHouse$Kinds;", Cond.methodLink RX8 61 yX1_isInt, Cond.methodLink RX8 65 yX8_putInt, Cond.instanceMethod yX8_putInt, Cond.selects RX8 yX8_putInt yX8_putInt, Cond.code yX8_putInt cX8_putInt 6 none, Cond.constantLong RX8 92 (1000000000), Cond.constantLong RX8 94 (10), Cond.methodLink RX8 53 yX8_put, Cond.instanceMethod yX8_put, Cond.selects RX8 yX8_put yX8_put, Cond.code yX8_put cX8_put 2 none, Cond.methodLink RX8 72 yX1_kindOf, Cond.methodLink RX8 76 yX4_wordOf, Cond.instanceMethod yX4_wordOf, Cond.selects RX4 yX4_wordOf yX4_wordOf, Cond.code yX4_wordOf cX4_wordOf 2 (some .long), Cond.methodLink RX8 82 yX8_putKind, Cond.instanceMethod yX8_putKind, Cond.selects RX8 yX8_putKind yX8_putKind]
def wsL_law0_r54 : List Cond := [Cond.code yX8_putKind cX8_putKind 5 none, Cond.methodLink RX8 86 yX1_isCell, Cond.methodLink RX8 89 yX8_openFields, Cond.instanceMethod yX8_openFields, Cond.selects RX8 yX8_openFields yX8_openFields, Cond.code yX8_openFields cX8_openFields 2 none, Cond.methodLink RX8 43 yX8_putNextField, Cond.instanceMethod yX8_putNextField, Cond.selects RX8 yX8_putNextField yX8_putNextField, Cond.code yX8_putNextField cX8_putNextField 4 none, Cond.methodLink RX8 47 yX1_width, Cond.methodLink RX8 57 yX1_field, Cond.methodLink RL 56 yX14_show, Cond.instanceMethod yX14_show, Cond.selects RX14 yX14_show yX14_show, Cond.codeWith yX14_show cX14_show 3 (some .int) [(33, 53, 56, 7)], Cond.fieldLink RX14 518 "ReuseHouseModel" "sides" "I", Cond.fieldLink RX14 540 "ReuseHouseModel" "outs" "I", Cond.methodLink RX14 536 yX14_says, Cond.instanceMethod yX14_says, Cond.selects RX14 yX14_says yX14_says, Cond.code yX14_says cX14_says 9 none, Cond.constantLong RX14 532 (-41), Cond.constantLong RX14 534 (-44)]
def wsL_law0_r55 : List Cond := [Cond.methodLink RX14 521 yX14_say, Cond.instanceMethod yX14_say, Cond.selects RX14 yX14_say yX14_say, Cond.code yX14_say cX14_say 2 none, Cond.methodLink RX14 526 yX14_sayInt, Cond.instanceMethod yX14_sayInt, Cond.selects RX14 yX14_sayInt yX14_sayInt, Cond.code yX14_sayInt cX14_sayInt 5 none, Cond.methodLink RX14 529 yX14_sayKind, Cond.instanceMethod yX14_sayKind, Cond.selects RX14 yX14_sayKind yX14_sayKind, Cond.code yX14_sayKind cX14_sayKind 6 none, Cond.constantLong RX14 524 (63), Cond.methodLink RL 57 yL_out, Cond.static yL_out, Cond.initialized RL, Cond.codeWith yL_out cL_out 4 (some .int) [(0, 9, 12, 13)], Cond.classLink RL 13 "java/util/NoSuchElementException", Cond.methodLink RL 7 yX11_out, Cond.instanceMethod yX11_out, Cond.selects RX11 yX11_out yX11_out, Cond.code yX11_out cX11_out 2 (some .int), Cond.classLink RX11 170 "java/util/NoSuchElementException", Cond.initialized "java/util/NoSuchElementException"]
def wsL_law0_r56 : List Cond := [Cond.fieldLink RX11 173 "ReuseHouse$Printer" "bytes" "[B", Cond.methodLink RX11 169 yX8_has, Cond.instanceMethod yX8_has, Cond.selects RX8 yX8_has yX8_has, Cond.code yX8_has cX8_has 2 (some .boolean), Cond.methodLink RL 62 yX14_out, Cond.instanceMethod yX14_out, Cond.selects RX14 yX14_out yX14_out, Cond.code yX14_out cX14_out 2 (some .int), Cond.methodLink RL 63 yX14_thrown, Cond.instanceMethod yX14_thrown, Cond.selects RX14 yX14_thrown yX14_thrown, Cond.code yX14_thrown cX14_thrown 1 (some .int), Cond.methodLink RL 66 yX11_release, Cond.instanceMethod yX11_release, Cond.selects RX11 yX11_release yX11_release, Cond.code yX11_release cX11_release 2 (some .int), Cond.fieldLink RX11 176 "ReuseHouse$Cells" "freed" "I", Cond.methodLink RX11 179 yX1_drop, Cond.methodLink RL 69 yX14_release, Cond.instanceMethod yX14_release, Cond.selects RX14 yX14_release yX14_release, Cond.code yX14_release cX14_release 2 (some .int), Cond.methodLink RL 70 yX11_count]
def wsL_law0_r57 : List Cond := [Cond.instanceMethod yX11_count, Cond.selects RX11 yX11_count yX11_count, Cond.code yX11_count cX11_count 2 (some .int), Cond.fieldLink RX11 182 "ReuseHouse$Cells" "made" "I", Cond.fieldLink RX11 185 "ReuseHouse$Cells" "reused" "I", Cond.fieldLink RX11 188 "ReuseHouse$Cells" "mostHeld" "I", Cond.fieldLink RX11 191 "ReuseHouse$Cells" "doubled" "I", Cond.methodLink RL 73 yX14_count, Cond.instanceMethod yX14_count, Cond.selects RX14 yX14_count yX14_count, Cond.code yX14_count cX14_count 2 (some .int)]
def wsL_law0 : List Cond := (wsL_law0_r1 ++ (wsL_law0_r2 ++ (wsL_law0_r3 ++ (wsL_law0_r4 ++ (wsL_law0_r5 ++ (wsL_law0_r6 ++ (wsL_law0_r7 ++ (wsL_law0_r8 ++ (wsL_law0_r9 ++ (wsL_law0_r10 ++ (wsL_law0_r11 ++ (wsL_law0_r12 ++ (wsL_law0_r13 ++ (wsL_law0_r14 ++ (wsL_law0_r15 ++ (wsL_law0_r16 ++ (wsL_law0_r17 ++ (wsL_law0_r18 ++ (wsL_law0_r19 ++ (wsL_law0_r20 ++ (wsL_law0_r21 ++ (wsL_law0_r22 ++ (wsL_law0_r23 ++ (wsL_law0_r24 ++ (wsL_law0_r25 ++ (wsL_law0_r26 ++ (wsL_law0_r27 ++ (wsL_law0_r28 ++ (wsL_law0_r29 ++ (wsL_law0_r30 ++ (wsL_law0_r31 ++ (wsL_law0_r32 ++ (wsL_law0_r33 ++ (wsL_law0_r34 ++ (wsL_law0_r35 ++ (wsL_law0_r36 ++ (wsL_law0_r37 ++ (wsL_law0_r38 ++ (wsL_law0_r39 ++ (wsL_law0_r40 ++ (wsL_law0_r41 ++ (wsL_law0_r42 ++ (wsL_law0_r43 ++ (wsL_law0_r44 ++ (wsL_law0_r45 ++ (wsL_law0_r46 ++ (wsL_law0_r47 ++ (wsL_law0_r48 ++ (wsL_law0_r49 ++ (wsL_law0_r50 ++ (wsL_law0_r51 ++ (wsL_law0_r52 ++ (wsL_law0_r53 ++ (wsL_law0_r54 ++ (wsL_law0_r55 ++ (wsL_law0_r56 ++ wsL_law0_r57)))))))))))))))))))))))))))))))))))))))))))))))))))))))) ++ wsX110 ++ wsX140 ++ wsX90 ++ wsX70 ++ wsX50 ++ wsX10 ++ wsX80 ++ wsX20 ++ wsX00 ++ wsX40 ++ wsX30 ++ wsX100 ++ wsX60 ++ wsX130 ++ wsX120 ++ ([] : List Cond)
def wsL_law : List Cond := wsL_law0 ++ (vx_at0 RX7 79 "java/lang/IllegalStateException" ["java/lang/RuntimeException", "java/lang/Exception"]).filter goodWord ++ (vx_at0 RX11 172 "java/util/NoSuchElementException" ["java/lang/RuntimeException", "java/lang/Exception"]).filter goodWord
set_option maxRecDepth 20000 in
theorem wsL_law_in0 : ∀ w ∈ wsL_law0, w ∈ lw_tbl := fun w h => (goodIn_p wsL_law0 [160, 163, 168, 174, 225, 268, 288, 338, 344, 379, 422, 428, 432, 556, 1374, 1387, 1409, 639, 643, 1694, 647, 656, 659, 663, 666, 669, 672, 676, 679, 690, 695, 699, 703, 709, 713, 716, 719, 724, 727, 733, 736, 739, 742, 747, 750, 753, 762, 765, 768, 772, 777, 781, 785, 789, 793, 797, 801, 805, 809, 876, 880, 885, 889, 893, 897, 901, 905, 909, 913, 917, 921, 925, 929, 933, 1009, 953, 957, 961, 965, 969, 973, 977, 981, 1001, 989, 945, 941, 1017, 937, 949, 985, 1005, 1013, 997, 993, 1022, 1026, 1030, 1034, 1038, 1042, 1046, 1050, 1054, 1059, 1063, 1702, 1706, 1710, 1713, 1716, 1719, 1723, 1727, 1732, 1735, 1738, 1741, 1744, 1747, 1758, 1765, 1769, 1773, 1778, 1782, 1786, 1790, 1850, 1842, 1802, 1818, 1826, 1830, 1854, 1806, 1798, 1794, 1810, 1822, 1846, 1838, 1834, 1858, 1861, 1864, 1069, 1868, 1073, 1872, 1077, 1876, 1880, 1884, 1083, 1087, 1091, 1096, 1100, 1103, 1108, 1112, 1116, 1125, 1129, 1134, 1137, 1141, 1145, 1148, 1153, 1158, 1162, 1166, 1170, 1174, 1180, 1184, 1188, 1191, 1196, 1201, 1206, 1210, 1213, 1218, 1222, 1226, 1230, 1234, 1237, 1241, 1245, 1249, 1254, 1258, 1265, 1269, 1275, 1279, 1283, 1286, 1888, 1892, 1899, 1904, 1908, 1912, 1916, 1920, 1923, 1928, 1932, 1936, 1940, 1944, 1947, 1951, 1955, 1959, 1963, 1967, 1972, 1976, 1980, 1984, 1989, 1290, 1993, 1294, 1298, 1302, 1307, 1311, 1318, 1322, 1327, 1331, 2001, 2005, 2009, 2013, 1350, 1354, 2020, 1690, 1337, 2024, 1342, 2028] (by decide +kernel) (by decide +kernel) w h).1
theorem wsL_law_x0 : ∀ w ∈ (vx_at0 RX7 79 "java/lang/IllegalStateException" ["java/lang/RuntimeException", "java/lang/Exception"]).filter goodWord, w ∈ lw_tbl := by decide +kernel
theorem wsL_law_x1 : ∀ w ∈ (vx_at0 RX11 172 "java/util/NoSuchElementException" ["java/lang/RuntimeException", "java/lang/Exception"]).filter goodWord, w ∈ lw_tbl := by decide +kernel
theorem wsL_law_in : ∀ w ∈ wsL_law, w ∈ lw_tbl := fun w h => (List.mem_append.mp h).elim (fun h => (List.mem_append.mp h).elim (fun h => wsL_law_in0 w h) (fun h => wsL_law_x0 w h)) (fun h => wsL_law_x1 w h)
theorem inlX0 : ∀ w ∈ wsX00, w ∈ wsL_law := fun _ h => List.mem_append_left _ (List.mem_append_left _ (List.mem_append_left _ (List.mem_append_left _ (List.mem_append_left _ (List.mem_append_left _ (List.mem_append_left _ (List.mem_append_left _ (List.mem_append_left _ (List.mem_append_right _ h)))))))))
theorem inX0 : ∀ w ∈ wsX00, w ∈ lw_tbl := fun w h => wsL_law_in w (inlX0 w h)
theorem inlX1 : ∀ w ∈ wsX10, w ∈ wsL_law := fun _ h => List.mem_append_left _ (List.mem_append_left _ (List.mem_append_left _ (List.mem_append_left _ (List.mem_append_left _ (List.mem_append_left _ (List.mem_append_left _ (List.mem_append_left _ (List.mem_append_left _ (List.mem_append_left _ (List.mem_append_left _ (List.mem_append_left _ (List.mem_append_right _ h))))))))))))
theorem inX1 : ∀ w ∈ wsX10, w ∈ lw_tbl := fun w h => wsL_law_in w (inlX1 w h)
theorem inlX2 : ∀ w ∈ wsX20, w ∈ wsL_law := fun _ h => List.mem_append_left _ (List.mem_append_left _ (List.mem_append_left _ (List.mem_append_left _ (List.mem_append_left _ (List.mem_append_left _ (List.mem_append_left _ (List.mem_append_left _ (List.mem_append_left _ (List.mem_append_left _ (List.mem_append_right _ h))))))))))
theorem inX2 : ∀ w ∈ wsX20, w ∈ lw_tbl := fun w h => wsL_law_in w (inlX2 w h)
theorem inlX3 : ∀ w ∈ wsX30, w ∈ wsL_law := fun _ h => List.mem_append_left _ (List.mem_append_left _ (List.mem_append_left _ (List.mem_append_left _ (List.mem_append_left _ (List.mem_append_left _ (List.mem_append_left _ (List.mem_append_right _ h)))))))
theorem inX3 : ∀ w ∈ wsX30, w ∈ lw_tbl := fun w h => wsL_law_in w (inlX3 w h)
theorem inlX4 : ∀ w ∈ wsX40, w ∈ wsL_law := fun _ h => List.mem_append_left _ (List.mem_append_left _ (List.mem_append_left _ (List.mem_append_left _ (List.mem_append_left _ (List.mem_append_left _ (List.mem_append_left _ (List.mem_append_left _ (List.mem_append_right _ h))))))))
theorem inX4 : ∀ w ∈ wsX40, w ∈ lw_tbl := fun w h => wsL_law_in w (inlX4 w h)
theorem inlX5 : ∀ w ∈ wsX50, w ∈ wsL_law := fun _ h => List.mem_append_left _ (List.mem_append_left _ (List.mem_append_left _ (List.mem_append_left _ (List.mem_append_left _ (List.mem_append_left _ (List.mem_append_left _ (List.mem_append_left _ (List.mem_append_left _ (List.mem_append_left _ (List.mem_append_left _ (List.mem_append_left _ (List.mem_append_left _ (List.mem_append_right _ h)))))))))))))
theorem inX5 : ∀ w ∈ wsX50, w ∈ lw_tbl := fun w h => wsL_law_in w (inlX5 w h)
theorem inlX6 : ∀ w ∈ wsX60, w ∈ wsL_law := fun _ h => List.mem_append_left _ (List.mem_append_left _ (List.mem_append_left _ (List.mem_append_left _ (List.mem_append_left _ (List.mem_append_right _ h)))))
theorem inX6 : ∀ w ∈ wsX60, w ∈ lw_tbl := fun w h => wsL_law_in w (inlX6 w h)
theorem inlX7 : ∀ w ∈ wsX70, w ∈ wsL_law := fun _ h => List.mem_append_left _ (List.mem_append_left _ (List.mem_append_left _ (List.mem_append_left _ (List.mem_append_left _ (List.mem_append_left _ (List.mem_append_left _ (List.mem_append_left _ (List.mem_append_left _ (List.mem_append_left _ (List.mem_append_left _ (List.mem_append_left _ (List.mem_append_left _ (List.mem_append_left _ (List.mem_append_right _ h))))))))))))))
theorem inX7 : ∀ w ∈ wsX70, w ∈ lw_tbl := fun w h => wsL_law_in w (inlX7 w h)
theorem inlX8 : ∀ w ∈ wsX80, w ∈ wsL_law := fun _ h => List.mem_append_left _ (List.mem_append_left _ (List.mem_append_left _ (List.mem_append_left _ (List.mem_append_left _ (List.mem_append_left _ (List.mem_append_left _ (List.mem_append_left _ (List.mem_append_left _ (List.mem_append_left _ (List.mem_append_left _ (List.mem_append_right _ h)))))))))))
theorem inX8 : ∀ w ∈ wsX80, w ∈ lw_tbl := fun w h => wsL_law_in w (inlX8 w h)
theorem inlX9 : ∀ w ∈ wsX90, w ∈ wsL_law := fun _ h => List.mem_append_left _ (List.mem_append_left _ (List.mem_append_left _ (List.mem_append_left _ (List.mem_append_left _ (List.mem_append_left _ (List.mem_append_left _ (List.mem_append_left _ (List.mem_append_left _ (List.mem_append_left _ (List.mem_append_left _ (List.mem_append_left _ (List.mem_append_left _ (List.mem_append_left _ (List.mem_append_left _ (List.mem_append_right _ h)))))))))))))))
theorem inX9 : ∀ w ∈ wsX90, w ∈ lw_tbl := fun w h => wsL_law_in w (inlX9 w h)
theorem inlX10 : ∀ w ∈ wsX100, w ∈ wsL_law := fun _ h => List.mem_append_left _ (List.mem_append_left _ (List.mem_append_left _ (List.mem_append_left _ (List.mem_append_left _ (List.mem_append_left _ (List.mem_append_right _ h))))))
theorem inX10 : ∀ w ∈ wsX100, w ∈ lw_tbl := fun w h => wsL_law_in w (inlX10 w h)
theorem inlX11 : ∀ w ∈ wsX110, w ∈ wsL_law := fun _ h => List.mem_append_left _ (List.mem_append_left _ (List.mem_append_left _ (List.mem_append_left _ (List.mem_append_left _ (List.mem_append_left _ (List.mem_append_left _ (List.mem_append_left _ (List.mem_append_left _ (List.mem_append_left _ (List.mem_append_left _ (List.mem_append_left _ (List.mem_append_left _ (List.mem_append_left _ (List.mem_append_left _ (List.mem_append_left _ (List.mem_append_left _ (List.mem_append_right _ h)))))))))))))))))
theorem inX11 : ∀ w ∈ wsX110, w ∈ lw_tbl := fun w h => wsL_law_in w (inlX11 w h)
theorem inlX12 : ∀ w ∈ wsX120, w ∈ wsL_law := fun _ h => List.mem_append_left _ (List.mem_append_left _ (List.mem_append_left _ (List.mem_append_right _ h)))
theorem inX12 : ∀ w ∈ wsX120, w ∈ lw_tbl := fun w h => wsL_law_in w (inlX12 w h)
theorem inlX13 : ∀ w ∈ wsX130, w ∈ wsL_law := fun _ h => List.mem_append_left _ (List.mem_append_left _ (List.mem_append_left _ (List.mem_append_left _ (List.mem_append_right _ h))))
theorem inX13 : ∀ w ∈ wsX130, w ∈ lw_tbl := fun w h => wsL_law_in w (inlX13 w h)
theorem inlX14 : ∀ w ∈ wsX140, w ∈ wsL_law := fun _ h => List.mem_append_left _ (List.mem_append_left _ (List.mem_append_left _ (List.mem_append_left _ (List.mem_append_left _ (List.mem_append_left _ (List.mem_append_left _ (List.mem_append_left _ (List.mem_append_left _ (List.mem_append_left _ (List.mem_append_left _ (List.mem_append_left _ (List.mem_append_left _ (List.mem_append_left _ (List.mem_append_left _ (List.mem_append_left _ (List.mem_append_right _ h))))))))))))))))
theorem inX14 : ∀ w ∈ wsX140, w ∈ lw_tbl := fun w h => wsL_law_in w (inlX14 w h)
theorem inJ11 : ∀ w ∈ wsJ110, w ∈ lw_tbl := by decide +kernel
theorem inJ9 : ∀ w ∈ wsJ90, w ∈ lw_tbl := by decide +kernel
theorem inJ0 : ∀ w ∈ wsJ00, w ∈ lw_tbl := by decide +kernel
theorem inJ1 : ∀ w ∈ wsJ10, w ∈ lw_tbl := by decide +kernel
theorem inJ2 : ∀ w ∈ wsJ20, w ∈ lw_tbl := by decide +kernel
theorem inJ3 : ∀ w ∈ wsJ30, w ∈ lw_tbl := by decide +kernel
set_option maxRecDepth 20000 in
theorem ggX1_init_X4_init : GoodIn wsX1_init wsX4_init := goodIn_r _ [27, 28, 2, 3, 20, 29, 17, 30, 31, 45, 46, 47] (by decide +kernel) (by decide +kernel)
set_option maxRecDepth 20000 in
theorem ggX5_init_X1_init : GoodIn wsX5_init wsX1_init := goodIn_r _ [32, 33, 2, 3, 34, 35, 36, 37, 38, 39, 40, 41, 42, 43, 44, 45, 46, 9, 47, 48, 5, 49, 50, 51, 52, 53, 54, 55, 56, 57, 58, 59, 84, 85, 86, 87, 88, 89, 90, 91, 92, 93, 94, 95, 96, 97, 98, 99] (by decide +kernel) (by decide +kernel)
set_option maxRecDepth 20000 in
theorem gX5_init_X1_init : GoodIn wsX5_init (wsX1_init) := ggX5_init_X1_init
set_option maxRecDepth 20000 in
theorem ggX7_init_X10_init : GoodIn wsX7_init wsX10_init := goodIn_r _ [25, 26, 2, 3, 15, 27, 28, 12, 29, 30, 31, 32, 33, 34, 92, 93, 94, 95, 96, 97, 98, 99] (by decide +kernel) (by decide +kernel)
set_option maxRecDepth 20000 in
theorem ggX7_init_X6_init : GoodIn wsX7_init wsX6_init := goodIn_r _ [36, 37, 2, 3, 15, 38, 109] (by decide +kernel) (by decide +kernel)
set_option maxRecDepth 20000 in
theorem ggX7_init_X9_init : GoodIn wsX7_init wsX9_init := goodIn_r _ [40, 41, 2, 3, 42, 43, 44, 45, 46, 47, 48, 49, 50, 51, 52, 53, 54, 55, 56, 57, 58, 59, 60, 15, 61, 62, 63, 64, 65, 66, 67, 68, 69, 70, 71, 72, 73, 74, 75, 76, 77, 78, 79, 80, 81, 12, 82, 83, 84, 85, 86, 87, 88, 89, 90, 91, 114, 115, 116, 117, 118, 119, 120, 121, 110, 111, 112, 113, 122, 123, 124, 125, 126, 127, 128, 129, 130, 131, 132, 133, 134, 135] (by decide +kernel) (by decide +kernel)
set_option maxRecDepth 20000 in
theorem ggX7_reads_X10_read : GoodIn wsX7_reads wsX10_read := goodIn_r _ [12, 13, 14, 15, 16, 17, 18, 19, 20, 21, 22, 23, 24, 25, 26, 11, 27, 28, 29, 30, 31, 32, 33, 34, 35, 36, 37, 38, 39, 40, 41, 42, 43, 44, 45, 46, 47, 48, 49, 50, 51, 52, 53, 54, 55, 56, 57, 58, 59, 60, 61, 62, 63, 64, 65, 66, 67, 68, 69, 70, 71, 72, 73, 74, 75, 76, 77, 78, 79, 80, 81, 82, 83, 84, 85, 86, 87, 88, 89, 90, 91, 92, 93, 94, 95, 96, 97, 98, 99, 100, 101, 102, 103, 104, 105, 106, 107, 108, 109, 110, 111, 112, 113, 114, 115, 116, 117, 118, 119, 120, 121, 122, 123, 124, 125, 126, 127, 128, 129, 130, 131, 132, 133, 134, 135, 136, 137, 138, 139, 140, 141, 142, 143, 144, 145, 458, 459, 460, 461, 462, 463, 464, 465] (by decide +kernel) (by decide +kernel)
set_option maxRecDepth 20000 in
theorem gX7_reads_X10_read : GoodIn wsX7_reads (wsV RX7 53 RX10 yX10_read wsX10_read) := goodIn_app (goodIn_of _ (by decide +kernel)) ggX7_reads_X10_read
set_option maxRecDepth 20000 in
theorem ggX7_reads_X9_clear : GoodIn wsX7_reads wsX9_clear := goodIn_r _ [150, 151, 152, 153, 154, 155, 156, 157, 158, 159, 160, 161, 162, 163, 164, 466, 467, 468, 469, 470, 471, 472, 473, 474, 475, 476, 477, 478, 479, 480, 481, 482, 483, 484, 485, 486, 487, 488, 489, 490, 491] (by decide +kernel) (by decide +kernel)
set_option maxRecDepth 20000 in
theorem gX7_reads_X9_clear : GoodIn wsX7_reads (wsV RX7 57 RX9 yX9_clear wsX9_clear) := goodIn_app (goodIn_of _ (by decide +kernel)) ggX7_reads_X9_clear
set_option maxRecDepth 20000 in
theorem ggX7_reads_X7_definition : GoodIn wsX7_reads wsX7_definition := goodIn_ca (goodIn_r _ [169, 2, 6, 3, 170, 171, 172, 173, 174, 175, 176, 177, 178, 179, 180, 168, 181, 182, 183, 184, 185, 11, 186, 24, 20, 22, 187, 188, 189, 190, 191, 192, 193, 194, 195, 196, 197, 198, 199, 200, 201, 202, 1, 203, 4, 5, 204, 205, 206, 207, 208, 209, 210, 211, 212, 140, 141, 142, 13, 14, 15, 16, 143, 21, 144, 23, 145, 213, 214, 215, 216, 217, 218, 219, 220, 221, 222, 223, 224, 225, 226, 227, 228, 229, 230, 231, 232, 233, 234, 235, 236, 237, 238, 239, 240, 241, 242, 243, 244, 245, 246, 247, 248, 249, 250, 251, 252, 253, 254, 255, 256, 257, 161, 258, 164, 259, 260, 261, 262, 263, 163, 264, 265, 266, 267, 268, 269, 270, 271, 272, 273, 274, 275, 276, 277, 278, 279, 280, 281, 282, 283, 284, 285, 286, 287, 288, 289, 290, 291, 292, 293, 294, 295, 296, 297, 298, 299, 300, 301, 302, 303, 304, 305, 306, 307, 308, 309, 310, 311, 312, 313, 314, 315, 316, 317, 318, 319, 320, 321, 322, 323, 324, 325, 326, 327, 328, 329, 330, 331, 332, 333, 334, 335, 336, 337, 338, 339, 340, 341, 342, 343, 344, 345, 346, 347, 348, 349, 350, 351, 352, 353, 354, 355, 356, 357, 358, 359, 360, 361, 362, 363, 364, 365, 366, 367, 368, 369, 370, 371, 372, 373, 374, 375, 376, 377, 378, 379, 380, 381, 382, 449, 450, 451, 452, 453, 454, 455, 456, 457, 458, 459, 460, 461, 462, 463, 464, 465, 466, 467, 468, 469, 480, 481, 482, 483, 477, 478, 479, 484, 485, 486, 487, 488, 489, 490, 491, 470, 471, 472, 473, 474, 475, 476] (by decide +kernel) (by decide +kernel)) (goodIn_sub (fun _ h => List.mem_cons_of_mem _ (List.mem_append_right _ h)) (by decide +kernel))
set_option maxRecDepth 20000 in
theorem gX7_reads_X7_definition : GoodIn wsX7_reads (wsV RX7 63 RX7 yX7_definition wsX7_definition) := goodIn_app (goodIn_of _ (by decide +kernel)) ggX7_reads_X7_definition
set_option maxRecDepth 20000 in
theorem ggX7_reads_X7_expect : GoodIn wsX7_reads wsX7_expect := goodIn_ca (goodIn_r _ [207, 2, 6, 208, 209, 210, 168, 211, 173, 199, 200, 201, 202, 1, 203, 4, 5, 212, 140, 141, 11, 142, 24, 20, 13, 14, 15, 16, 22, 143, 21, 144, 23, 145, 449, 450, 451, 452, 453, 454, 455, 456, 457, 458, 459, 460, 461, 462, 463, 464, 465] (by decide +kernel) (by decide +kernel)) (goodIn_sub (fun _ h => List.mem_cons_of_mem _ (List.mem_append_right _ h)) (by decide +kernel))
set_option maxRecDepth 20000 in
theorem gX7_reads_X7_expect : GoodIn wsX7_reads (wsV RX7 66 RX7 yX7_expect wsX7_expect) := goodIn_app (goodIn_of _ (by decide +kernel)) ggX7_reads_X7_expect
set_option maxRecDepth 20000 in
theorem ggX7_failForm_X7_fail : GoodIn wsX7_failForm wsX7_fail := goodIn_ca (goodIn_r _ [7, 8, 9, 10, 11, 12, 13, 14, 15, 16, 17, 18, 19, 20] (by decide +kernel) (by decide +kernel)) (goodIn_sub (fun _ h => List.mem_cons_of_mem _ (List.mem_append_right _ h)) (by decide +kernel))
set_option maxRecDepth 20000 in
theorem gX7_failForm_X7_fail : GoodIn wsX7_failForm (wsV RX7 83 RX7 yX7_fail wsX7_fail) := goodIn_app (goodIn_of _ (by decide +kernel)) ggX7_failForm_X7_fail
set_option maxRecDepth 20000 in
theorem ggX7_expect_X7_failForm : GoodIn wsX7_expect wsX7_failForm := goodIn_ca (goodIn_r _ [7, 1, 8, 9, 10, 11, 6, 12, 13, 14, 15, 16, 34, 35, 36, 37, 38, 39, 40, 41, 42, 43, 44, 45, 46, 47, 48, 49, 50] (by decide +kernel) (by decide +kernel)) (goodIn_sub (fun _ h => List.mem_cons_of_mem _ (List.mem_append_right _ h)) (by decide +kernel))
set_option maxRecDepth 20000 in
theorem gX7_expect_X7_failForm : GoodIn wsX7_expect (wsV RX7 109 RX7 yX7_failForm wsX7_failForm) := goodIn_app (goodIn_of _ (by decide +kernel)) ggX7_expect_X7_failForm
set_option maxRecDepth 20000 in
theorem ggX7_expect_X10_advance : GoodIn wsX7_expect wsX10_advance := goodIn_r _ [21, 22, 23, 24, 25, 26, 27, 28, 29, 30, 31, 32, 33, 43, 44, 45, 46, 47, 48, 49, 50] (by decide +kernel) (by decide +kernel)
set_option maxRecDepth 20000 in
theorem gX7_expect_X10_advance : GoodIn wsX7_expect (wsV RX7 112 RX10 yX10_advance wsX10_advance) := goodIn_app (goodIn_of _ (by decide +kernel)) ggX7_expect_X10_advance
set_option maxRecDepth 20000 in
theorem ggX7_definition_X7_expect : GoodIn wsX7_definition wsX7_expect := goodIn_ca (goodIn_r _ [49, 1, 2, 50, 51, 52, 15, 53, 7, 38, 39, 40, 41, 42, 43, 44, 45, 54, 55, 56, 21, 57, 23, 24, 58, 59, 60, 61, 25, 62, 63, 64, 65, 66, 240, 241, 242, 243, 244, 245, 246, 247, 248, 249, 250, 251, 252, 253, 254, 255, 256] (by decide +kernel) (by decide +kernel)) (goodIn_sub (fun _ h => List.mem_cons_of_mem _ (List.mem_append_right _ h)) (by decide +kernel))
set_option maxRecDepth 20000 in
theorem gX7_definition_X7_expect : GoodIn wsX7_definition (wsV RX7 66 RX7 yX7_expect wsX7_expect) := goodIn_app (goodIn_of _ (by decide +kernel)) ggX7_definition_X7_expect
set_option maxRecDepth 20000 in
theorem ggX7_definition_X7_failForm : GoodIn wsX7_definition wsX7_failForm := goodIn_ca (goodIn_r _ [53, 1, 7, 38, 39, 40, 15, 41, 42, 43, 44, 45, 240, 241, 242, 243, 244, 245, 246, 247, 248, 249, 250, 251, 252, 253, 254, 255, 256] (by decide +kernel) (by decide +kernel)) (goodIn_sub (fun _ h => List.mem_cons_of_mem _ (List.mem_append_right _ h)) (by decide +kernel))
set_option maxRecDepth 20000 in
theorem gX7_definition_X7_failForm : GoodIn wsX7_definition (wsV RX7 109 RX7 yX7_failForm wsX7_failForm) := goodIn_app (goodIn_of _ (by decide +kernel)) ggX7_definition_X7_failForm
set_option maxRecDepth 20000 in
theorem ggX7_definition_X7_fail : GoodIn wsX7_definition wsX7_fail := goodIn_ca (goodIn_r _ [41, 42, 43, 44, 45, 240, 241, 242, 243, 244, 245, 246, 247, 248] (by decide +kernel) (by decide +kernel)) (goodIn_sub (fun _ h => List.mem_cons_of_mem _ (List.mem_append_right _ h)) (by decide +kernel))
set_option maxRecDepth 20000 in
theorem gX7_definition_X7_fail : GoodIn wsX7_definition (wsV RX7 83 RX7 yX7_fail wsX7_fail) := goodIn_app (goodIn_of _ (by decide +kernel)) ggX7_definition_X7_fail
set_option maxRecDepth 20000 in
theorem ggX7_definition_X10_advance : GoodIn wsX7_definition wsX10_advance := goodIn_r _ [57, 23, 24, 58, 59, 60, 61, 25, 62, 63, 64, 65, 66, 249, 250, 251, 252, 253, 254, 255, 256] (by decide +kernel) (by decide +kernel)
set_option maxRecDepth 20000 in
theorem gX7_definition_X10_advance : GoodIn wsX7_definition (wsV RX7 112 RX10 yX10_advance wsX10_advance) := goodIn_app (goodIn_of _ (by decide +kernel)) ggX7_definition_X10_advance
set_option maxRecDepth 20000 in
theorem ggX9_init_X2_init : GoodIn wsX9_init wsX2_init := goodIn_r _ [21, 22, 2, 3, 23, 24, 25, 26, 27, 28, 29, 30, 31, 56, 57, 58, 59, 60, 61, 62, 63] (by decide +kernel) (by decide +kernel)
set_option maxRecDepth 20000 in
theorem ggX9_init_X0_init : GoodIn wsX9_init wsX0_init := goodIn_r _ [33, 34, 2, 3, 23, 35, 36, 37, 38, 39, 40, 41, 68, 69, 70, 71, 72, 73, 74] (by decide +kernel) (by decide +kernel)
set_option maxRecDepth 20000 in
theorem ggX9_init_X4_init : GoodIn wsX9_init wsX4_init := goodIn_r _ [43, 44, 2, 3, 45, 46, 23, 47, 48, 75, 76, 77] (by decide +kernel) (by decide +kernel)
set_option maxRecDepth 20000 in
theorem ggX9_init_X3_init : GoodIn wsX9_init wsX3_init := goodIn_r _ [50, 51, 2, 3, 45, 52, 23, 53, 54, 55, 78, 79, 80, 81] (by decide +kernel) (by decide +kernel)
set_option maxRecDepth 20000 in
theorem ggX9_clear_X2_clear : GoodIn wsX9_clear wsX2_clear := goodIn_r _ [12, 13, 14, 33, 34, 35, 36, 37, 38, 39, 40] (by decide +kernel) (by decide +kernel)
set_option maxRecDepth 20000 in
theorem gX9_clear_X2_clear : GoodIn wsX9_clear (wsV RX9 37 RX2 yX2_clear wsX2_clear) := goodIn_app (goodIn_of _ (by decide +kernel)) ggX9_clear_X2_clear
set_option maxRecDepth 20000 in
theorem ggX10_read_X10_advance : GoodIn wsX10_read wsX10_advance := goodIn_r _ [131, 12, 8, 1, 2, 3, 4, 10, 132, 9, 133, 11, 134, 135, 136, 137, 138, 139, 140, 141, 142] (by decide +kernel) (by decide +kernel)
set_option maxRecDepth 20000 in
theorem gX10_read_X10_advance : GoodIn wsX10_read (wsV RX10 59 RX10 yX10_advance wsX10_advance) := goodIn_app (goodIn_of _ (by decide +kernel)) ggX10_read_X10_advance
set_option maxRecDepth 20000 in
theorem ggX11_init_X9_init : GoodIn wsX11_init wsX9_init := goodIn_r _ [38, 39, 2, 3, 40, 41, 42, 43, 44, 45, 46, 47, 48, 49, 50, 51, 52, 53, 54, 55, 56, 57, 58, 59, 60, 61, 62, 63, 64, 65, 66, 67, 68, 69, 70, 71, 72, 73, 74, 75, 76, 77, 78, 79, 80, 81, 82, 83, 84, 85, 86, 87, 88, 89, 90, 91, 257, 258, 259, 260, 261, 262, 263, 264, 203, 204, 205, 206, 265, 266, 267, 268, 269, 270, 271, 272, 273, 274, 275, 276, 277, 278] (by decide +kernel) (by decide +kernel)
set_option maxRecDepth 20000 in
theorem ggX11_init_X7_init : GoodIn wsX11_init wsX7_init := goodIn_r _ [93, 94, 2, 3, 95, 96, 97, 98, 99, 100, 101, 102, 81, 103, 104, 59, 105, 106, 8, 9, 107, 108, 109, 110, 111, 112, 113, 114, 115, 116, 117, 118, 119, 120, 121, 122, 123, 124, 125, 37, 38, 39, 40, 41, 42, 43, 44, 45, 46, 47, 48, 49, 50, 51, 52, 53, 54, 55, 56, 57, 58, 60, 61, 62, 63, 64, 65, 66, 67, 68, 69, 70, 71, 72, 73, 74, 75, 76, 77, 78, 79, 80, 82, 83, 84, 85, 86, 87, 88, 89, 90, 91, 279, 280, 281, 282, 283, 284, 285, 286, 207, 208, 209, 210, 211, 212, 213, 214, 215, 287, 203, 204, 205, 206, 257, 258, 259, 260, 261, 262, 263, 264, 265, 266, 267, 268, 269, 270, 271, 272, 273, 274, 275, 276, 277, 278] (by decide +kernel) (by decide +kernel)
set_option maxRecDepth 20000 in
theorem ggX11_init_X5_init : GoodIn wsX11_init wsX5_init := goodIn_r _ [128, 129, 2, 3, 130, 81, 131, 132, 133, 59, 134, 135, 136, 137, 138, 139, 140, 141, 142, 143, 144, 145, 146, 147, 148, 149, 150, 20, 21, 151, 152, 153, 154, 155, 156, 157, 158, 159, 160, 161, 162, 163, 164, 165, 166, 167, 168, 169, 170, 171, 172, 49, 50, 173, 78, 79, 80, 82, 83, 84, 216, 217, 218, 219, 220, 221, 222, 223, 224, 225, 226, 227, 228, 229, 230, 231, 232, 233, 234, 235, 203, 204, 205, 206, 236, 237, 238, 239, 240, 241, 242, 243, 244, 245, 246, 247, 248, 272, 273, 274] (by decide +kernel) (by decide +kernel)
set_option maxRecDepth 20000 in
theorem gX11_init_X5_init : GoodIn wsX11_init (wsX5_init) := ggX11_init_X5_init
set_option maxRecDepth 20000 in
theorem ggX11_init_X1_init : GoodIn wsX11_init wsX1_init := goodIn_r _ [154, 155, 2, 3, 156, 157, 158, 159, 160, 161, 162, 163, 164, 165, 166, 167, 168, 59, 169, 170, 81, 171, 172, 49, 50, 173, 78, 79, 80, 82, 83, 84, 236, 237, 238, 239, 240, 241, 242, 243, 244, 245, 246, 247, 248, 272, 273, 274] (by decide +kernel) (by decide +kernel)
set_option maxRecDepth 20000 in
theorem gX11_init_X1_init : GoodIn wsX11_init (wsX1_init) := ggX11_init_X1_init
set_option maxRecDepth 20000 in
theorem ggX11_init_X8_init : GoodIn wsX11_init wsX8_init := goodIn_r _ [176, 177, 2, 3, 4, 178, 179, 180, 181, 182, 59, 183, 184, 185, 249, 250, 251, 252, 253, 254, 255, 256] (by decide +kernel) (by decide +kernel)
set_option maxRecDepth 20000 in
theorem ggX11_feed_X11_putFour : GoodIn wsX11_feed wsX11_putFour := goodIn_r _ [6, 1, 7, 8, 9, 10, 11, 12, 13, 14, 15, 16, 17, 18, 19, 20, 21, 22, 23, 24] (by decide +kernel) (by decide +kernel)
set_option maxRecDepth 20000 in
theorem gX11_feed_X11_putFour : GoodIn wsX11_feed (wsV RX11 88 RX11 yX11_putFour wsX11_putFour) := goodIn_app (goodIn_of _ (by decide +kernel)) ggX11_feed_X11_putFour
set_option maxRecDepth 20000 in
theorem ggX11_program_X7_reads : GoodIn wsX11_program wsX7_reads := goodIn_ca (goodIn_r _ [19, 20, 21, 22, 23, 24, 25, 26, 27, 28, 29, 30, 31, 32, 33, 34, 35, 36, 37, 38, 39, 40, 41, 42, 43, 44, 45, 46, 47, 48, 49, 50, 51, 52, 53, 54, 55, 56, 57, 58, 59, 60, 61, 62, 63, 64, 65, 66, 67, 68, 69, 70, 71, 72, 73, 74, 75, 76, 77, 78, 79, 80, 81, 82, 83, 84, 85, 86, 87, 88, 89, 90, 91, 92, 93, 94, 95, 96, 97, 98, 99, 100, 101, 102, 103, 104, 105, 106, 107, 108, 109, 110, 111, 112, 113, 114, 115, 116, 117, 118, 119, 120, 121, 122, 123, 124, 125, 126, 127, 128, 129, 130, 131, 132, 133, 134, 135, 136, 137, 138, 139, 140, 141, 142, 143, 144, 145, 146, 147, 148, 149, 150, 151, 152, 153, 154, 155, 156, 157, 158, 159, 160, 161, 162, 163, 164, 165, 166, 167, 168, 169, 170, 171, 172, 173, 174, 175, 176, 177, 178, 179, 180, 181, 182, 183, 184, 185, 186, 18, 187, 188, 189, 190, 191, 192, 193, 194, 195, 196, 197, 198, 199, 200, 201, 202, 203, 204, 205, 206, 207, 208, 209, 210, 211, 212, 213, 214, 215, 216, 217, 218, 219, 220, 221, 222, 223, 224, 225, 226, 227, 228, 229, 230, 231, 232, 233, 234, 235, 236, 237, 238, 239, 240, 241, 242, 243, 244, 245, 246, 247, 248, 249, 250, 251, 252, 253, 254, 255, 256, 257, 258, 259, 260, 261, 262, 263, 264, 265, 266, 267, 268, 269, 270, 271, 272, 273, 274, 275, 276, 277, 278, 279, 280, 281, 282, 283, 284, 285, 286, 287, 288, 289, 290, 291, 292, 293, 294, 295, 296, 297, 298, 299, 300, 301, 302, 303, 304, 305, 306, 307, 308, 309, 310, 311, 312, 313, 314, 315, 316, 317, 318, 319, 320, 321, 322, 323, 324, 325, 326, 327, 328, 329, 330, 331, 332, 333, 334, 335, 336, 337, 338, 339, 340, 341, 342, 343, 344, 345, 346, 347, 348, 349, 350, 351, 352, 353, 354, 355, 356, 357, 358, 359, 360, 361, 362, 363, 364, 365, 366, 367, 368, 369, 370, 371, 372, 373, 374, 375, 376, 377, 378, 379, 380, 381, 382, 383, 384, 385, 386, 387, 388, 389, 390, 391, 392, 393, 394, 395, 396, 397, 398, 399, 400, 401, 402, 403, 404, 405, 406, 407, 408, 409, 410, 411, 412, 413, 414, 415, 416, 417, 418, 419, 420, 421, 422, 423, 424, 425, 426, 427, 428, 429, 430, 431, 432, 433, 434, 435, 436, 437, 438, 439, 440, 441, 442, 443, 444, 445, 446, 447, 448, 449, 450, 451, 452, 453, 454, 455, 456, 457, 458, 459, 460, 461, 462, 463, 464, 465, 466, 484, 485, 486, 487, 488, 489, 490, 491, 492, 501, 502, 503, 504, 505, 506, 507, 508, 493, 494, 495, 496, 509, 510, 511, 512, 513, 514, 515, 516, 517, 518, 497, 498, 499, 500, 519, 520, 521, 522, 523, 524, 525, 526, 527] (by decide +kernel) (by decide +kernel)) (goodIn_sub (fun _ h => List.mem_cons_of_mem _ (List.mem_append_right _ h)) (by decide +kernel))
set_option maxRecDepth 20000 in
theorem gX11_program_X7_reads : GoodIn wsX11_program (wsV RX11 91 RX7 yX7_reads wsX7_reads) := goodIn_app (goodIn_of _ (by decide +kernel)) ggX11_program_X7_reads
set_option maxRecDepth 20000 in
theorem ggX11_about_X3_has : GoodIn wsX11_about wsX3_has := goodIn_r _ [7, 8, 36, 37, 38, 39] (by decide +kernel) (by decide +kernel)
set_option maxRecDepth 20000 in
theorem gX11_about_X3_has : GoodIn wsX11_about (wsV RX11 111 RX3 yX3_has wsX3_has) := goodIn_app (goodIn_of _ (by decide +kernel)) ggX11_about_X3_has
set_option maxRecDepth 20000 in
theorem ggX11_run_X11_mayWork : GoodIn wsX11_run wsX11_mayWork := goodIn_r _ [21, 2, 22, 23, 24, 25, 26, 27, 28, 317, 318, 319, 320, 321, 322, 323, 324, 325, 326, 327, 328, 329, 330, 331, 332, 333, 334, 335, 336, 337, 371, 372, 373, 374] (by decide +kernel) (by decide +kernel)
set_option maxRecDepth 20000 in
theorem gX11_run_X11_mayWork : GoodIn wsX11_run (wsV RX11 119 RX11 yX11_mayWork wsX11_mayWork) := goodIn_app (goodIn_of _ (by decide +kernel)) ggX11_run_X11_mayWork
set_option maxRecDepth 20000 in
theorem ggX11_plain_X11_mayWork : GoodIn wsX11_plain wsX11_mayWork := goodIn_r _ [15, 2, 16, 17, 18, 19, 20, 21, 22, 311, 312, 313, 314, 315, 316, 317, 318, 319, 320, 321, 322, 323, 324, 325, 326, 327, 328, 329, 330, 331, 352, 353, 354, 355] (by decide +kernel) (by decide +kernel)
set_option maxRecDepth 20000 in
theorem gX11_plain_X11_mayWork : GoodIn wsX11_plain (wsV RX11 119 RX11 yX11_mayWork wsX11_mayWork) := goodIn_app (goodIn_of _ (by decide +kernel)) ggX11_plain_X11_mayWork
set_option maxRecDepth 20000 in
theorem ggX11_mayWork_X3_has : GoodIn wsX11_mayWork wsX3_has := goodIn_r _ [7, 8, 30, 31, 32, 33] (by decide +kernel) (by decide +kernel)
set_option maxRecDepth 20000 in
theorem gX11_mayWork_X3_has : GoodIn wsX11_mayWork (wsV RX11 111 RX3 yX3_has wsX3_has) := goodIn_app (goodIn_of _ (by decide +kernel)) ggX11_mayWork_X3_has
set_option maxRecDepth 20000 in
theorem ggX11_out_X8_has : GoodIn wsX11_out wsX8_has := goodIn_r _ [9, 10, 28, 29, 30, 31, 32, 33, 34, 35] (by decide +kernel) (by decide +kernel)
set_option maxRecDepth 20000 in
theorem gX11_out_X8_has : GoodIn wsX11_out (wsV RX11 169 RX8 yX8_has wsX8_has) := goodIn_app (goodIn_of _ (by decide +kernel)) ggX11_out_X8_has
set_option maxRecDepth 20000 in
theorem ggX14_init_X13_init : GoodIn wsX14_init wsX13_init := goodIn_r _ [43] (by decide +kernel) (by decide +kernel)
set_option maxRecDepth 20000 in
theorem gX14_init_X13_init : GoodIn wsX14_init (wsX13_init) := ggX14_init_X13_init
set_option maxRecDepth 20000 in
theorem ggX14_init_X12_init : GoodIn wsX14_init wsX12_init := goodIn_r _ [45, 46, 2, 3, 8, 47, 18, 48, 49, 50, 51, 52, 53, 54, 55, 56, 15, 57, 58, 59, 60, 61, 62, 63, 64, 65, 137, 138, 139, 140, 141, 142, 143, 144, 145, 146, 147, 148, 149, 150, 151, 152, 153, 154, 155, 156, 157, 158] (by decide +kernel) (by decide +kernel)
set_option maxRecDepth 20000 in
theorem ggX14_next_X14_byteAt : GoodIn wsX14_next wsX14_byteAt := goodIn_r _ [11, 12, 13, 78, 79, 80, 81, 82, 83, 84, 85, 86, 87, 88, 89, 90, 91, 92, 93, 94, 95, 96, 97, 98, 99, 100, 101, 102, 103, 104, 105, 106, 107, 108, 109, 110, 111, 112, 113, 114, 115, 116, 117, 118, 119, 120, 121, 122, 123, 124, 125, 126, 127, 128, 129, 130, 131, 132, 133, 134, 135, 136, 137, 138, 139, 140] (by decide +kernel) (by decide +kernel)
set_option maxRecDepth 20000 in
theorem gX14_next_X14_byteAt : GoodIn wsX14_next (wsV RX14 147 RX14 yX14_byteAt wsX14_byteAt) := goodIn_app (goodIn_of _ (by decide +kernel)) ggX14_next_X14_byteAt
set_option maxRecDepth 20000 in
theorem ggX14_reads_X14_next : GoodIn wsX14_reads wsX14_next := goodIn_r _ [11, 12, 2, 3, 13, 4, 14, 15, 16, 17, 10, 18, 19, 20, 21, 22, 23, 24, 25, 26, 27, 28, 29, 30, 31, 32, 33, 34, 35, 36, 37, 38, 39, 40, 41, 42, 43, 44, 45, 46, 47, 48, 49, 50, 51, 52, 53, 54, 55, 56, 57, 58, 59, 60, 61, 62, 63, 64, 65, 66, 67, 68, 69, 70, 71, 72, 73, 74, 75, 76, 77, 78, 79, 80, 81, 82, 83, 84, 192, 193, 194, 195, 196, 197, 198, 199, 200, 201, 202, 203, 204, 205, 206, 207, 208, 209, 210, 211, 212, 213, 214, 215, 216, 217, 218, 219, 220, 221, 222, 223, 224, 225, 226, 227, 228, 229, 230, 231, 232, 233, 234, 235, 236, 237, 238, 239, 240, 241, 242, 243, 244, 245, 246, 247, 248, 249, 250, 251, 252, 253, 254] (by decide +kernel) (by decide +kernel)
set_option maxRecDepth 20000 in
theorem gX14_reads_X14_next : GoodIn wsX14_reads (wsV RX14 184 RX14 yX14_next wsX14_next) := goodIn_app (goodIn_of _ (by decide +kernel)) ggX14_reads_X14_next
set_option maxRecDepth 20000 in
theorem ggX14_reads_X14_isWord : GoodIn wsX14_reads wsX14_isWord := goodIn_r _ [88, 3, 4, 33, 34, 10, 35, 36, 37, 38, 39, 40, 41, 42, 43, 44, 45, 46, 47, 48, 49, 50, 51, 52, 53, 54, 55, 56, 57, 58, 59, 60, 61, 62, 63, 64, 65, 66, 67, 68, 69, 70, 71, 72, 73, 74, 75, 76, 77, 78, 79, 80, 81, 82, 83, 84, 192, 193, 194, 195, 196, 197, 198, 199, 200, 201, 202, 203, 204, 205, 206, 207, 208, 209, 210, 211, 212, 213, 214, 215, 216, 217, 218, 219, 220, 221, 222, 223, 224, 225, 226, 227, 228, 229, 230, 231, 232, 233, 234, 235, 236, 237, 238, 239, 240, 241, 242, 243, 244, 245, 246, 247, 248, 249, 250, 251, 252, 253, 254] (by decide +kernel) (by decide +kernel)
set_option maxRecDepth 20000 in
theorem gX14_reads_X14_isWord : GoodIn wsX14_reads (wsV RX14 187 RX14 yX14_isWord wsX14_isWord) := goodIn_app (goodIn_of _ (by decide +kernel)) ggX14_reads_X14_isWord
set_option maxRecDepth 20000 in
theorem ggX14_program_X14_reads : GoodIn wsX14_program wsX14_reads := goodIn_r _ [17, 8, 18, 19, 20, 21, 22, 23, 24, 25, 16, 26, 6, 27, 28, 29, 30, 31, 32, 5, 33, 34, 35, 36, 37, 38, 39, 40, 41, 42, 43, 44, 45, 46, 47, 48, 49, 50, 51, 52, 53, 54, 55, 56, 57, 58, 59, 60, 61, 62, 63, 64, 65, 66, 67, 68, 69, 70, 71, 72, 73, 74, 75, 76, 77, 78, 79, 80, 81, 82, 83, 84, 85, 86, 87, 88, 89, 90, 91, 92, 93, 94, 95, 96, 97, 98, 99, 100, 101, 102, 103, 104, 105, 106, 107, 108, 109, 110, 111, 112, 113, 114, 115, 116, 117, 118, 119, 120, 121, 122, 123, 124, 125, 126, 127, 128, 129, 130, 131, 132, 133, 134, 135, 136, 137, 138, 139, 140, 141, 142, 143, 144, 145, 146, 147, 148, 149, 150, 151, 152, 153, 154, 155, 156, 157, 158, 159, 160, 161, 162, 163, 164, 165, 166, 167, 168, 169, 170, 171, 172, 173, 174, 175, 176, 177, 178, 179, 180, 181, 182, 183, 184, 185, 186, 187, 188, 189, 190, 191, 192, 193, 194, 195, 196, 197, 198, 199, 200, 201, 202, 203, 204, 205, 206, 207, 208, 209, 210, 211, 212, 213, 214, 215, 216, 217, 218, 219, 220, 221, 222, 223, 224, 225, 226, 227, 228, 229, 230, 231, 232, 233, 234, 235, 236, 237, 238, 239, 240, 241, 242, 243, 244, 245, 246, 247, 248, 249, 250, 251, 252, 253, 254, 255, 256, 257, 258, 259, 260, 261, 262, 263, 264, 265, 266, 267, 276, 277, 278, 279, 280, 281, 282, 283, 284, 285, 286, 287, 288, 289, 290, 291, 292, 293, 294, 295, 296, 297] (by decide +kernel) (by decide +kernel)
set_option maxRecDepth 20000 in
theorem gX14_program_X14_reads : GoodIn wsX14_program (wsV RX14 356 RX14 yX14_reads wsX14_reads) := goodIn_app (goodIn_of _ (by decide +kernel)) ggX14_program_X14_reads
set_option maxRecDepth 20000 in
theorem ggX14_run_X14_isGood : GoodIn wsX14_run wsX14_isGood := goodIn_r _ [20, 21, 22, 156, 157, 158, 159, 160, 161, 162, 163, 164, 165, 166, 167, 168, 169, 170, 171, 172, 173, 174, 175, 176, 177, 178, 179, 180, 181, 182, 183, 184, 185, 186, 187, 188, 189, 190, 191, 192, 193, 194, 195, 196, 197, 198, 199, 200, 201, 202, 203, 204, 205, 206, 207, 208, 209, 210, 211, 212, 213, 214, 215, 216, 217, 218, 219, 220, 221, 222, 223, 224, 225, 226, 227, 228, 229, 230, 231, 232, 233, 234, 235, 236, 237, 238, 239, 240] (by decide +kernel) (by decide +kernel)
set_option maxRecDepth 20000 in
theorem gX14_run_X14_isGood : GoodIn wsX14_run (wsV RX14 505 RX14 yX14_isGood wsX14_isGood) := goodIn_app (goodIn_of _ (by decide +kernel)) ggX14_run_X14_isGood
set_option maxRecDepth 20000 in
theorem ggX14_plain_X14_isGood : GoodIn wsX14_plain wsX14_isGood := goodIn_r _ [27, 28, 29, 161, 162, 163, 164, 165, 166, 167, 168, 169, 170, 171, 172, 173, 174, 175, 176, 177, 178, 179, 180, 181, 182, 183, 184, 185, 186, 187, 188, 189, 190, 191, 192, 193, 194, 195, 196, 197, 198, 199, 200, 201, 202, 203, 204, 205, 206, 207, 208, 209, 210, 211, 212, 213, 214, 215, 216, 217, 218, 219, 220, 221, 222, 223, 224, 225, 226, 227, 228, 229, 230, 231, 232, 233, 234, 235, 236, 237, 238, 239, 240, 241, 242, 243, 244, 245] (by decide +kernel) (by decide +kernel)
set_option maxRecDepth 20000 in
theorem gX14_plain_X14_isGood : GoodIn wsX14_plain (wsV RX14 505 RX14 yX14_isGood wsX14_isGood) := goodIn_app (goodIn_of _ (by decide +kernel)) ggX14_plain_X14_isGood
set_option maxRecDepth 20000 in
theorem ggL_out_X11_out : GoodIn wsL_out wsX11_out := goodIn_ca (goodIn_r _ [6, 7, 8, 9, 10, 11, 12, 13, 14, 15, 16, 17, 18, 19, 20, 21, 22, 23, 24, 25, 26, 27, 28, 29, 30, 31, 32, 33, 34, 35, 36, 37, 38, 39, 40, 41] (by decide +kernel) (by decide +kernel)) (goodIn_sub (fun _ h => List.mem_cons_of_mem _ (List.mem_append_right _ h)) (by decide +kernel))
set_option maxRecDepth 20000 in
theorem gL_out_X11_out : GoodIn wsL_out (wsV RL 7 RX11 yX11_out wsX11_out) := goodIn_app (goodIn_of _ (by decide +kernel)) ggL_out_X11_out
set_option maxRecDepth 20000 in
theorem ggL_law_X11_init : GoodIn wsL_law wsX11_init := goodIn_r _ [9, 10, 11, 12, 13, 14, 15, 16, 17, 18, 19, 20, 21, 22, 23, 24, 25, 26, 27, 28, 29, 30, 31, 32, 33, 34, 35, 36, 37, 38, 39, 40, 41, 42, 43, 44, 45, 46, 47, 48, 49, 50, 51, 52, 53, 54, 55, 56, 57, 58, 59, 60, 61, 62, 63, 64, 65, 66, 67, 68, 69, 70, 71, 72, 73, 74, 75, 76, 77, 78, 79, 80, 81, 82, 83, 84, 85, 86, 87, 88, 89, 6, 90, 91, 92, 93, 94, 95, 96, 97, 98, 99, 100, 101, 102, 103, 104, 105, 106, 107, 108, 109, 110, 111, 112, 113, 114, 115, 116, 117, 118, 119, 120, 121, 122, 123, 124, 125, 126, 127, 128, 129, 130, 131, 132, 133, 134, 135, 136, 137, 138, 139, 140, 141, 142, 143, 144, 145, 146, 147, 148, 149, 150, 151, 152, 153, 154, 155, 156, 157, 158, 159, 160, 161, 162, 163, 164, 165, 166, 167, 168, 169, 170, 171, 172, 173, 174, 175, 176, 177, 178, 179, 180, 181, 182, 183, 184, 185, 186, 187, 188, 189, 190, 191, 192, 193, 1355, 1356, 1357, 1358, 1359, 1360, 1361, 1362, 1363, 1364, 1365, 1366, 1367, 1368, 1369, 1370, 1371, 1435, 1436, 1437, 1438, 1439, 1440, 1441, 1442, 1443, 1444, 1445, 1446, 1447, 1448, 1449, 1450, 1451, 1452, 1453, 1454, 1455, 1456, 1457, 1458, 1459, 1460, 1461, 1462, 1463, 1464, 1465, 1466, 1467, 1468, 1469, 1470, 1471, 1472, 1473, 1474, 1475, 1476, 1477, 1478, 1479, 1480, 1481, 1482, 1483, 1484, 1485, 1486, 1487, 1488, 1489, 1490, 1491, 1492, 1493, 1494, 1495, 1496, 1497, 1498, 1499, 1500, 1501, 1502, 1503, 1504, 1505, 1506, 1507, 1508, 1509, 1510, 1511, 1512, 1513, 1514, 1515, 1516, 1517, 1518, 1519] (by decide +kernel) (by decide +kernel)
set_option maxRecDepth 20000 in
theorem gL_law_X11_init : GoodIn wsL_law (wsX11_init) := ggL_law_X11_init
set_option maxRecDepth 20000 in
theorem ggL_law_X14_init : GoodIn wsL_law wsX14_init := goodIn_r _ [196, 197, 11, 12, 198, 199, 200, 201, 13, 202, 203, 204, 205, 206, 207, 6, 208, 209, 68, 210, 211, 212, 213, 214, 215, 216, 217, 218, 219, 220, 221, 222, 223, 224, 225, 226, 227, 228, 229, 230, 231, 232, 233, 234, 235, 236, 237, 238, 239, 240, 241, 242, 243, 244, 245, 246, 247, 248, 249, 250, 251, 252, 253, 254, 255, 256, 1520, 1521, 1522, 1523, 1524, 1525, 1526, 1527, 1372, 1373, 1374, 1375, 1376, 1377, 1378, 1379, 1380, 1381, 1382, 1383, 1384, 1385, 1386, 1387, 1388, 1389, 1390, 1391, 1392, 1393, 1394, 1395, 1396, 1397, 1398, 1399, 1400, 1401, 1402, 1403, 1404, 1405, 1406, 1407, 1408, 1409, 1410, 1411, 1412, 1413, 1414, 1415, 1416, 1417, 1418, 1419, 1420, 1421, 1422, 1423, 1424, 1425, 1426, 1427, 1428, 1429, 1430, 1431, 1432, 1433, 1434, 1528, 1529, 1530, 1531, 1532, 1533, 1534, 1535, 1536, 1537, 1538, 1539, 1540, 1541, 1542, 1543, 1544, 1545, 1546, 1547, 1548, 1549] (by decide +kernel) (by decide +kernel)
set_option maxRecDepth 20000 in
theorem gL_law_X14_init : GoodIn wsL_law (wsX14_init) := ggL_law_X14_init
set_option maxRecDepth 20000 in
theorem ggL_law_X11_feed : GoodIn wsL_law wsX11_feed := goodIn_r _ [260, 15, 261, 262, 263, 2, 264, 14, 1355, 1356, 1357, 1358, 1359, 1360, 1361, 1362, 1363, 1364, 1365, 1366, 1367, 1368, 1369, 1370, 1371] (by decide +kernel) (by decide +kernel)
set_option maxRecDepth 20000 in
theorem gL_law_X11_feed : GoodIn wsL_law (wsV RL 19 RX11 yX11_feed wsX11_feed) := goodIn_app (goodIn_of _ (by decide +kernel)) ggL_law_X11_feed
set_option maxRecDepth 20000 in
theorem ggL_law_X14_feed : GoodIn wsL_law wsX14_feed := goodIn_r _ [268, 269, 270, 202, 1372, 1373, 1374, 1375, 1376, 1377, 1378, 1379, 1380, 1381, 1382, 1383, 1384, 1385, 1386, 1387, 1388, 1389, 1390, 1391, 1392, 1393, 1394, 1395, 1396, 1397, 1398, 1399, 1400, 1401, 1402, 1403, 1404, 1405, 1406, 1407, 1408, 1409, 1410, 1411, 1412, 1413, 1414, 1415, 1416, 1417, 1418, 1419, 1420, 1421, 1422, 1423, 1424, 1425, 1426, 1427, 1428, 1429, 1430, 1431, 1432, 1433, 1434] (by decide +kernel) (by decide +kernel)
set_option maxRecDepth 20000 in
theorem gL_law_X14_feed : GoodIn wsL_law (wsV RL 23 RX14 yX14_feed wsX14_feed) := goodIn_app (goodIn_of _ (by decide +kernel)) ggL_law_X14_feed
set_option maxRecDepth 20000 in
theorem ggL_law_X11_program : GoodIn wsL_law wsX11_program := goodIn_ca (goodIn_r _ [274, 38, 37, 15, 23, 14, 275, 276, 19, 277, 39, 42, 44, 278, 279, 280, 281, 282, 22, 283, 284, 106, 115, 117, 118, 285, 110, 286, 287, 288, 105, 289, 290, 291, 175, 292, 293, 174, 176, 125, 123, 122, 124, 126, 294, 295, 296, 297, 298, 299, 300, 301, 302, 303, 304, 305, 306, 307, 308, 309, 310, 311, 312, 313, 314, 315, 316, 317, 318, 319, 320, 321, 322, 323, 324, 325, 326, 327, 328, 329, 330, 331, 332, 333, 334, 335, 336, 337, 338, 339, 340, 341, 342, 343, 344, 345, 346, 347, 348, 349, 350, 351, 352, 353, 354, 355, 356, 357, 358, 359, 360, 361, 362, 363, 364, 365, 366, 367, 368, 369, 370, 371, 372, 373, 374, 375, 376, 377, 378, 379, 380, 381, 382, 383, 384, 385, 386, 387, 388, 389, 390, 391, 392, 393, 394, 395, 396, 397, 398, 399, 400, 401, 402, 403, 404, 405, 406, 407, 408, 409, 410, 411, 127, 128, 129, 412, 413, 414, 18, 415, 52, 56, 416, 60, 417, 64, 418, 419, 420, 421, 51, 422, 75, 76, 423, 424, 425, 426, 427, 428, 429, 430, 116, 112, 431, 432, 433, 434, 435, 436, 437, 438, 439, 440, 441, 442, 443, 444, 59, 445, 92, 90, 446, 447, 448, 449, 91, 450, 451, 452, 453, 454, 455, 456, 457, 458, 459, 460, 461, 462, 463, 464, 465, 466, 63, 467, 99, 96, 468, 469, 470, 471, 97, 98, 472, 473, 474, 475, 476, 477, 478, 479, 480, 481, 482, 483, 111, 484, 485, 486, 487, 488, 489, 490, 491, 492, 493, 494, 495, 496, 497, 498, 499, 500, 501, 502, 503, 70, 504, 505, 506, 507, 69, 71, 72, 74, 73, 508, 509, 510, 511, 512, 513, 514, 515, 516, 517, 518, 519, 520, 521, 522, 523, 524, 525, 526, 527, 528, 529, 530, 531, 532, 533, 534, 535, 536, 537, 538, 539, 540, 541, 542, 543, 544, 545, 546, 547, 548, 549, 55, 550, 86, 80, 81, 82, 83, 84, 85, 551, 552, 553, 554, 555, 556, 557, 558, 559, 560, 561, 562, 563, 113, 564, 565, 566, 567, 568, 569, 570, 571, 572, 573, 574, 575, 576, 577, 578, 579, 580, 581, 582, 583, 584, 585, 586, 587, 588, 589, 590, 591, 592, 593, 594, 595, 596, 597, 598, 599, 600, 601, 602, 603, 604, 605, 606, 607, 608, 609, 610, 611, 612, 613, 614, 615, 616, 617, 618, 619, 620, 621, 622, 623, 624, 625, 626, 627, 628, 629, 630, 631, 632, 633, 634, 109, 635, 636, 637, 133, 638, 639, 640, 641, 642, 643, 644, 645, 646, 647, 648, 649, 650, 651, 652, 653, 654, 655, 656, 657, 658, 659, 660, 661, 662, 663, 664, 665, 666, 667, 668, 669, 670, 671, 672, 673, 674, 675, 676, 1355, 1356, 1357, 1358, 1359, 1360, 1361, 1362, 1363, 1364, 1365, 1366, 1367, 1368, 1369, 1370, 1371, 1439, 1440, 1441, 1442, 1443, 1444, 1445, 1446, 1447, 1435, 1436, 1437, 1438, 1507, 1508, 1509, 1510, 1511, 1512, 1513, 1514, 1515, 1516, 1517, 1518, 1497, 1498, 1499, 1500, 1501, 1502, 1503, 1504, 1505, 1506, 1489, 1490, 1491, 1492, 1493, 1494, 1495, 1496, 1519] (by decide +kernel) (by decide +kernel)) (goodIn_sub (fun _ h => List.mem_append_left _ (List.mem_append_right _ h)) (by decide +kernel))
set_option maxRecDepth 20000 in
theorem gL_law_X11_program : GoodIn wsL_law (wsV RL 24 RX11 yX11_program wsX11_program) := goodIn_app (goodIn_of _ (by decide +kernel)) ggL_law_X11_program
set_option maxRecDepth 20000 in
theorem ggL_law_X14_program : GoodIn wsL_law wsX14_program := goodIn_r _ [680, 269, 681, 209, 270, 682, 683, 206, 207, 684, 685, 686, 687, 688, 689, 690, 5, 691, 692, 693, 694, 695, 696, 697, 698, 699, 700, 701, 702, 703, 704, 705, 706, 202, 707, 708, 709, 710, 711, 712, 713, 714, 715, 716, 717, 718, 719, 720, 721, 722, 341, 342, 327, 343, 333, 344, 345, 346, 347, 338, 339, 723, 724, 725, 726, 334, 335, 336, 337, 727, 728, 350, 729, 730, 731, 732, 379, 733, 734, 382, 735, 736, 737, 362, 738, 739, 740, 741, 373, 374, 375, 742, 387, 388, 389, 390, 391, 392, 743, 744, 745, 746, 747, 748, 749, 750, 751, 752, 753, 208, 754, 755, 756, 757, 758, 174, 175, 176, 759, 760, 761, 762, 763, 764, 765, 766, 767, 768, 769, 770, 771, 772, 773, 774, 775, 776, 777, 778, 779, 780, 781, 782, 783, 784, 785, 786, 787, 788, 789, 790, 791, 792, 793, 794, 795, 796, 797, 798, 799, 800, 801, 802, 803, 804, 805, 806, 807, 808, 809, 810, 811, 812, 813, 814, 815, 816, 817, 818, 819, 820, 821, 822, 823, 824, 825, 826, 827, 828, 829, 830, 831, 832, 833, 834, 835, 836, 837, 838, 839, 840, 841, 842, 843, 844, 845, 1372, 1373, 1374, 1375, 1376, 1377, 1378, 1379, 1380, 1381, 1382, 1383, 1384, 1385, 1386, 1387, 1388, 1389, 1390, 1391, 1392, 1393, 1394, 1395, 1396, 1397, 1398, 1399, 1400, 1401, 1402, 1403, 1404, 1405, 1406, 1407, 1408, 1409, 1410, 1411, 1412, 1413, 1414, 1415, 1416, 1417, 1418, 1419, 1420, 1421, 1422, 1423, 1424, 1425, 1426, 1427, 1428, 1429, 1430, 1431, 1432, 1433, 1434, 1520, 1521, 1522, 1523, 1524, 1525, 1526, 1527, 1528, 1529, 1530, 1531, 1532, 1533, 1534, 1535, 1536, 1537, 1538, 1539, 1540, 1541, 1542, 1543, 1544, 1545, 1546, 1547, 1548, 1549] (by decide +kernel) (by decide +kernel)
set_option maxRecDepth 20000 in
theorem gL_law_X14_program : GoodIn wsL_law (wsV RL 27 RX14 yX14_program wsX14_program) := goodIn_app (goodIn_of _ (by decide +kernel)) ggL_law_X14_program
set_option maxRecDepth 20000 in
theorem ggL_law_X11_fault : GoodIn wsL_law wsX11_fault := goodIn_r _ [849, 37, 1355, 1356, 1357, 1358, 1359, 1360, 1361, 1362, 1363, 1364, 1365, 1366, 1367, 1368, 1369, 1370, 1371] (by decide +kernel) (by decide +kernel)
set_option maxRecDepth 20000 in
theorem gL_law_X11_fault : GoodIn wsL_law (wsV RL 28 RX11 yX11_fault wsX11_fault) := goodIn_app (goodIn_of _ (by decide +kernel)) ggL_law_X11_fault
set_option maxRecDepth 20000 in
theorem ggL_law_X14_fault : GoodIn wsL_law wsX14_fault := goodIn_r _ [853, 269, 681, 1372, 1373, 1374, 1375, 1376, 1377, 1378, 1379, 1380, 1381, 1382, 1383, 1384, 1385, 1386, 1387, 1388, 1389, 1390, 1391, 1392, 1393, 1394, 1395, 1396, 1397, 1398, 1399, 1400, 1401, 1402, 1403, 1404, 1405, 1406, 1407, 1408, 1409, 1410, 1411, 1412, 1413, 1414, 1415, 1416, 1417, 1418, 1419, 1420, 1421, 1422, 1423, 1424, 1425, 1426, 1427, 1428, 1429, 1430, 1431, 1432, 1433, 1434] (by decide +kernel) (by decide +kernel)
set_option maxRecDepth 20000 in
theorem gL_law_X14_fault : GoodIn wsL_law (wsV RL 32 RX14 yX14_fault wsX14_fault) := goodIn_app (goodIn_of _ (by decide +kernel)) ggL_law_X14_fault
set_option maxRecDepth 20000 in
theorem ggL_law_X11_where : GoodIn wsL_law wsX11_where := goodIn_r _ [857, 38, 1355, 1356, 1357, 1358, 1359, 1360, 1361, 1362, 1363, 1364, 1365, 1366, 1367, 1368, 1369, 1370, 1371] (by decide +kernel) (by decide +kernel)
set_option maxRecDepth 20000 in
theorem gL_law_X11_where : GoodIn wsL_law (wsV RL 33 RX11 yX11_where wsX11_where) := goodIn_app (goodIn_of _ (by decide +kernel)) ggL_law_X11_where
set_option maxRecDepth 20000 in
theorem ggL_law_X14_where : GoodIn wsL_law wsX14_where := goodIn_r _ [861, 269, 209, 1372, 1373, 1374, 1375, 1376, 1377, 1378, 1379, 1380, 1381, 1382, 1383, 1384, 1385, 1386, 1387, 1388, 1389, 1390, 1391, 1392, 1393, 1394, 1395, 1396, 1397, 1398, 1399, 1400, 1401, 1402, 1403, 1404, 1405, 1406, 1407, 1408, 1409, 1410, 1411, 1412, 1413, 1414, 1415, 1416, 1417, 1418, 1419, 1420, 1421, 1422, 1423, 1424, 1425, 1426, 1427, 1428, 1429, 1430, 1431, 1432, 1433, 1434] (by decide +kernel) (by decide +kernel)
set_option maxRecDepth 20000 in
theorem gL_law_X14_where : GoodIn wsL_law (wsV RL 36 RX14 yX14_where wsX14_where) := goodIn_app (goodIn_of _ (by decide +kernel)) ggL_law_X14_where
set_option maxRecDepth 20000 in
theorem ggL_law_X11_about : GoodIn wsL_law wsX11_about := goodIn_r _ [865, 19, 278, 866, 493, 494, 63, 495, 99, 867, 489, 490, 491, 98, 492, 1355, 1356, 1357, 1358, 1359, 1360, 1361, 1362, 1363, 1364, 1365, 1366, 1367, 1368, 1369, 1370, 1371, 1435, 1436, 1437, 1438, 1507, 1508, 1509, 1510] (by decide +kernel) (by decide +kernel)
set_option maxRecDepth 20000 in
theorem gL_law_X11_about : GoodIn wsL_law (wsV RL 37 RX11 yX11_about wsX11_about) := goodIn_app (goodIn_of _ (by decide +kernel)) ggL_law_X11_about
set_option maxRecDepth 20000 in
theorem ggL_law_X14_about : GoodIn wsL_law wsX14_about := goodIn_r _ [871, 269, 684, 206, 872, 873, 874, 5, 875, 876, 877, 878, 879, 1372, 1373, 1374, 1375, 1376, 1377, 1378, 1379, 1380, 1381, 1382, 1383, 1384, 1385, 1386, 1387, 1388, 1389, 1390, 1391, 1392, 1393, 1394, 1395, 1396, 1397, 1398, 1399, 1400, 1401, 1402, 1403, 1404, 1405, 1406, 1407, 1408, 1409, 1410, 1411, 1412, 1413, 1414, 1415, 1416, 1417, 1418, 1419, 1420, 1421, 1422, 1423, 1424, 1425, 1426, 1427, 1428, 1429, 1430, 1431, 1432, 1433, 1434, 1528, 1529, 1530, 1531, 1532, 1533, 1534, 1535, 1536, 1537, 1538, 1539, 1540, 1541, 1542, 1543, 1544, 1545, 1546, 1547, 1548, 1549] (by decide +kernel) (by decide +kernel)
set_option maxRecDepth 20000 in
theorem gL_law_X14_about : GoodIn wsL_law (wsV RL 41 RX14 yX14_about wsX14_about) := goodIn_app (goodIn_of _ (by decide +kernel)) ggL_law_X14_about
set_option maxRecDepth 20000 in
theorem ggL_law_X11_run : GoodIn wsL_law wsX11_run := goodIn_r _ [883, 31, 19, 884, 27, 885, 38, 39, 886, 40, 887, 41, 888, 42, 889, 43, 890, 891, 892, 893, 2, 894, 278, 866, 493, 494, 63, 495, 99, 895, 896, 897, 30, 898, 181, 177, 899, 291, 175, 292, 164, 165, 166, 167, 168, 169, 170, 171, 172, 900, 901, 902, 26, 903, 155, 156, 157, 159, 138, 149, 140, 141, 145, 147, 150, 151, 152, 153, 154, 904, 905, 906, 907, 867, 489, 490, 491, 98, 492, 908, 909, 910, 911, 912, 913, 914, 915, 139, 916, 917, 918, 919, 920, 148, 921, 922, 923, 924, 925, 926, 174, 176, 927, 142, 143, 144, 928, 929, 930, 931, 932, 933, 934, 935, 936, 937, 938, 939, 940, 941, 942, 648, 649, 51, 650, 73, 74, 943, 944, 945, 946, 947, 948, 949, 950, 951, 952, 953, 178, 954, 955, 956, 957, 958, 959, 960, 961, 962, 963, 964, 965, 966, 447, 448, 59, 449, 92, 91, 967, 968, 969, 970, 179, 971, 972, 973, 974, 975, 976, 977, 978, 979, 980, 981, 982, 983, 984, 985, 986, 987, 988, 989, 990, 991, 992, 993, 994, 995, 996, 997, 998, 999, 1000, 1001, 1002, 1003, 1004, 1005, 1006, 1007, 1008, 1009, 1010, 1011, 1012, 1013, 1014, 1015, 1016, 146, 1017, 1018, 1019, 1020, 1021, 173, 1022, 1023, 1024, 1025, 1026, 1027, 1028, 1029, 1030, 1031, 1032, 1033, 1034, 1035, 1036, 1037, 1038, 1039, 1040, 1041, 1042, 1043, 1044, 1045, 1046, 1047, 1048, 1049, 1050, 1051, 1052, 1053, 1054, 1055, 1056, 1057, 1058, 1059, 1060, 1061, 1062, 1063, 1064, 1065, 1066, 1067, 1068, 1069, 1070, 1071, 1072, 1073, 1074, 1075, 1076, 1077, 1078, 1079, 1080, 1081, 660, 661, 18, 662, 60, 56, 663, 664, 1082, 1083, 1084, 1085, 1086, 1087, 1088, 1089, 1090, 1091, 1092, 1093, 671, 672, 673, 674, 675, 1094, 1095, 1096, 1097, 1098, 1099, 1100, 1101, 1102, 1103, 1104, 1105, 1106, 1107, 1108, 1109, 1355, 1356, 1357, 1358, 1359, 1360, 1361, 1362, 1363, 1364, 1365, 1366, 1367, 1368, 1369, 1370, 1371, 1435, 1436, 1437, 1438, 1448, 1449, 1450, 1451, 1452, 1453, 1454, 1455, 1456, 1457, 1458, 1459, 1460, 1461, 1462, 1463, 1464, 1465, 1466, 1467, 1468, 1469, 1470, 1471, 1472, 1473, 1474, 1475, 1476, 1477, 1478, 1479, 1480, 1507, 1508, 1509, 1510, 1489, 1490, 1491, 1492, 1493, 1494, 1495, 1496, 1504, 1505, 1506, 1497, 1498, 1499, 1500, 1501, 1502, 1503] (by decide +kernel) (by decide +kernel)
set_option maxRecDepth 20000 in
theorem gL_law_X11_run : GoodIn wsL_law (wsV RL 42 RX11 yX11_run wsX11_run) := goodIn_app (goodIn_of _ (by decide +kernel)) ggL_law_X11_run
set_option maxRecDepth 20000 in
theorem ggL_law_X14_run : GoodIn wsL_law wsX14_run := goodIn_r _ [1113, 269, 1114, 1115, 1116, 212, 1117, 1118, 1119, 1120, 1121, 1122, 1123, 685, 686, 1124, 1125, 1126, 1127, 5, 1128, 684, 206, 1129, 1130, 1131, 1132, 1133, 1134, 1135, 1136, 68, 209, 217, 218, 1137, 1138, 1139, 1140, 1141, 1142, 1143, 1144, 219, 6, 1145, 1146, 1147, 1148, 758, 174, 175, 176, 221, 1149, 1150, 1151, 1152, 1153, 1154, 1155, 1156, 220, 1157, 1158, 1159, 1160, 213, 211, 210, 214, 1161, 1162, 1163, 1164, 1165, 1166, 1167, 1168, 840, 841, 842, 1169, 1170, 1171, 1172, 13, 1173, 1174, 1175, 1176, 1177, 1178, 1179, 1180, 1181, 1182, 1183, 1184, 222, 223, 224, 1185, 1186, 1187, 872, 873, 874, 875, 1188, 1189, 1190, 1191, 876, 877, 878, 879, 1192, 1193, 1194, 1195, 1196, 1197, 1198, 1199, 1200, 1201, 1202, 1203, 1204, 1205, 1206, 1207, 1208, 1209, 1210, 1211, 1212, 1213, 1214, 1215, 1216, 1217, 1218, 1219, 1220, 1221, 1222, 1223, 1224, 1225, 1226, 1227, 1228, 1229, 1230, 1372, 1373, 1374, 1375, 1376, 1377, 1378, 1379, 1380, 1381, 1382, 1383, 1384, 1385, 1386, 1387, 1388, 1389, 1390, 1391, 1392, 1393, 1394, 1395, 1396, 1397, 1398, 1399, 1400, 1401, 1402, 1403, 1404, 1405, 1406, 1407, 1408, 1409, 1410, 1411, 1412, 1413, 1414, 1415, 1416, 1417, 1418, 1419, 1420, 1421, 1422, 1423, 1424, 1425, 1426, 1427, 1428, 1429, 1430, 1431, 1432, 1433, 1434, 1528, 1529, 1530, 1531, 1532, 1533, 1534, 1535, 1536, 1537, 1538, 1539, 1540, 1541, 1542, 1543, 1544, 1545, 1546, 1547, 1548, 1549, 1520, 1521, 1522, 1523, 1524, 1525, 1526, 1527] (by decide +kernel) (by decide +kernel)
set_option maxRecDepth 20000 in
theorem gL_law_X14_run : GoodIn wsL_law (wsV RL 46 RX14 yX14_run wsX14_run) := goodIn_app (goodIn_of _ (by decide +kernel)) ggL_law_X14_run
set_option maxRecDepth 20000 in
theorem ggL_law_X11_plain : GoodIn wsL_law wsX11_plain := goodIn_r _ [1234, 32, 19, 884, 27, 885, 38, 888, 44, 889, 45, 891, 892, 893, 2, 894, 278, 866, 493, 494, 63, 495, 99, 895, 896, 897, 30, 898, 181, 177, 899, 291, 175, 292, 164, 165, 166, 167, 168, 169, 170, 171, 172, 900, 901, 902, 26, 903, 155, 156, 157, 159, 138, 149, 140, 141, 145, 147, 150, 151, 152, 153, 154, 904, 905, 906, 907, 867, 489, 490, 491, 98, 492, 908, 909, 910, 911, 912, 913, 914, 915, 139, 916, 917, 918, 919, 920, 148, 921, 922, 923, 924, 925, 926, 174, 176, 927, 142, 143, 144, 928, 929, 930, 931, 932, 933, 934, 935, 936, 937, 938, 939, 940, 941, 942, 648, 649, 51, 650, 73, 74, 943, 944, 945, 946, 947, 948, 949, 950, 951, 952, 953, 178, 954, 955, 956, 957, 958, 959, 960, 961, 962, 963, 964, 965, 966, 447, 448, 59, 449, 92, 91, 967, 968, 969, 970, 179, 971, 972, 973, 974, 975, 976, 977, 978, 979, 980, 981, 982, 983, 984, 985, 986, 987, 988, 989, 990, 991, 992, 993, 994, 995, 996, 997, 998, 999, 1000, 1001, 1002, 1003, 1004, 1005, 1006, 1007, 1008, 1009, 1010, 1011, 1012, 1013, 1014, 1015, 1016, 146, 1017, 1018, 1019, 1020, 1021, 173, 1022, 1023, 1024, 1025, 1026, 1027, 1028, 1029, 1030, 1031, 1032, 1033, 1034, 1035, 1036, 1037, 1038, 1039, 1040, 1041, 1042, 1043, 1044, 1045, 1046, 1047, 1048, 1049, 1050, 1051, 1052, 1053, 1054, 1055, 1056, 1057, 1058, 1059, 1060, 1061, 1062, 1063, 1064, 1065, 1066, 1067, 1068, 1069, 1070, 1071, 1072, 1073, 1074, 1075, 1076, 1077, 1078, 1079, 1080, 1081, 660, 661, 18, 662, 60, 56, 663, 664, 1082, 1083, 1084, 1085, 1086, 1087, 1088, 1089, 1090, 1091, 1092, 1093, 671, 672, 673, 674, 675, 1094, 1095, 1096, 1097, 1098, 1099, 1100, 1101, 1102, 1103, 1104, 1105, 1106, 1107, 1108, 1109, 1355, 1356, 1357, 1358, 1359, 1360, 1361, 1362, 1363, 1364, 1365, 1366, 1367, 1368, 1369, 1370, 1371, 1435, 1436, 1437, 1438, 1448, 1449, 1450, 1451, 1452, 1453, 1454, 1455, 1456, 1457, 1458, 1459, 1460, 1461, 1462, 1463, 1464, 1465, 1466, 1467, 1507, 1508, 1509, 1510, 1468, 1469, 1470, 1471, 1472, 1473, 1474, 1475, 1476, 1477, 1478, 1479, 1480, 1489, 1490, 1491, 1492, 1493, 1494, 1495, 1496, 1504, 1505, 1506, 1497, 1498, 1499, 1500, 1501, 1502, 1503] (by decide +kernel) (by decide +kernel)
set_option maxRecDepth 20000 in
theorem gL_law_X11_plain : GoodIn wsL_law (wsV RL 47 RX11 yX11_plain wsX11_plain) := goodIn_app (goodIn_of _ (by decide +kernel)) ggL_law_X11_plain
set_option maxRecDepth 20000 in
theorem ggL_law_X14_plain : GoodIn wsL_law wsX14_plain := goodIn_r _ [1238, 269, 68, 1117, 1118, 1119, 1120, 1121, 1122, 1123, 225, 226, 210, 227, 211, 228, 214, 1114, 1214, 687, 1239, 215, 216, 1125, 1126, 1127, 5, 1128, 684, 206, 1129, 1130, 1131, 1132, 1133, 1134, 1135, 1136, 209, 217, 218, 1137, 1138, 1139, 1140, 1141, 1142, 1143, 1144, 219, 6, 1145, 1146, 1147, 1148, 758, 174, 175, 176, 221, 1149, 1150, 1151, 1152, 1153, 1154, 1155, 1156, 220, 1157, 1158, 1159, 1160, 213, 1161, 1162, 1163, 1164, 1165, 1166, 1167, 1168, 212, 1116, 840, 841, 842, 1169, 1170, 1171, 1172, 13, 1173, 1174, 1175, 1176, 1177, 1178, 1179, 1180, 1181, 1182, 1183, 1184, 222, 223, 224, 1185, 1186, 1187, 872, 873, 874, 875, 1188, 1189, 1190, 1191, 876, 877, 878, 879, 1192, 1193, 1194, 1195, 1196, 1197, 1198, 1199, 1200, 1201, 1202, 1203, 1204, 1205, 1206, 1207, 1208, 1209, 1210, 1211, 1212, 1213, 1215, 1216, 1217, 1218, 1219, 1220, 1221, 1222, 1223, 1224, 1225, 1226, 1115, 1227, 1228, 1229, 1230, 1372, 1373, 1374, 1375, 1376, 1377, 1378, 1379, 1380, 1381, 1382, 1383, 1384, 1385, 1386, 1387, 1388, 1389, 1390, 1391, 1392, 1393, 1394, 1395, 1396, 1397, 1398, 1399, 1400, 1401, 1402, 1403, 1404, 1405, 1406, 1407, 1408, 1409, 1410, 1411, 1412, 1413, 1414, 1415, 1416, 1417, 1418, 1419, 1420, 1421, 1422, 1423, 1424, 1425, 1426, 1427, 1428, 1429, 1430, 1431, 1432, 1433, 1434, 1528, 1529, 1530, 1531, 1532, 1533, 1534, 1535, 1536, 1537, 1538, 1539, 1540, 1541, 1542, 1543, 1544, 1545, 1546, 1547, 1548, 1549, 1520, 1521, 1522, 1523, 1524, 1525, 1526, 1527] (by decide +kernel) (by decide +kernel)
set_option maxRecDepth 20000 in
theorem gL_law_X14_plain : GoodIn wsL_law (wsV RL 51 RX14 yX14_plain wsX14_plain) := goodIn_app (goodIn_of _ (by decide +kernel)) ggL_law_X14_plain
set_option maxRecDepth 20000 in
theorem ggL_law_X11_show : GoodIn wsL_law wsX11_show := goodIn_r _ [1243, 44, 36, 45, 32, 42, 43, 31, 1244, 1245, 1246, 35, 1247, 189, 190, 193, 186, 188, 187, 1248, 1249, 1250, 1251, 1252, 1253, 1051, 30, 1052, 1254, 1255, 1256, 1257, 1258, 1259, 1260, 1261, 1262, 1263, 1264, 1067, 1068, 1069, 177, 1070, 958, 959, 960, 961, 1265, 1266, 1267, 59, 1268, 92, 90, 1269, 1270, 1271, 1272, 1273, 1274, 1275, 1276, 1277, 191, 192, 1278, 1279, 1280, 1281, 1282, 963, 964, 965, 181, 966, 447, 448, 449, 91, 1283, 968, 969, 970, 179, 1355, 1356, 1357, 1358, 1359, 1360, 1361, 1362, 1363, 1364, 1365, 1366, 1367, 1368, 1369, 1370, 1371, 1481, 1482, 1483, 1484, 1485, 1486, 1487, 1488, 1468, 1469, 1470, 1471, 1472, 1473, 1474, 1475, 1476, 1477, 1478, 1479, 1480, 1504, 1505, 1506] (by decide +kernel) (by decide +kernel)
set_option maxRecDepth 20000 in
theorem gL_law_X11_show : GoodIn wsL_law (wsV RL 52 RX11 yX11_show wsX11_show) := goodIn_app (goodIn_of _ (by decide +kernel)) ggL_law_X11_show
set_option maxRecDepth 20000 in
theorem ggL_law_X14_show : GoodIn wsL_law wsX14_show := goodIn_r _ [1287, 269, 687, 686, 1288, 1239, 1124, 229, 230, 1289, 1290, 1291, 1292, 5, 1293, 231, 215, 210, 1294, 206, 216, 214, 1295, 1296, 1297, 1298, 1299, 1185, 1186, 1187, 1300, 1301, 1302, 1303, 1161, 1162, 1163, 1164, 1304, 1305, 1306, 1307, 1308, 1372, 1373, 1374, 1375, 1376, 1377, 1378, 1379, 1380, 1381, 1382, 1383, 1384, 1385, 1386, 1387, 1388, 1389, 1390, 1391, 1392, 1393, 1394, 1395, 1396, 1397, 1398, 1399, 1400, 1401, 1402, 1403, 1404, 1405, 1406, 1407, 1408, 1409, 1410, 1411, 1412, 1413, 1414, 1415, 1416, 1417, 1418, 1419, 1420, 1421, 1422, 1423, 1424, 1425, 1426, 1427, 1428, 1429, 1430, 1431, 1432, 1433, 1434, 1528, 1529, 1530, 1531, 1532, 1533, 1534, 1535, 1536, 1537, 1538, 1539, 1540, 1541, 1542, 1543, 1544, 1545, 1546, 1547, 1548, 1549] (by decide +kernel) (by decide +kernel)
set_option maxRecDepth 20000 in
theorem gL_law_X14_show : GoodIn wsL_law (wsV RL 56 RX14 yX14_show wsX14_show) := goodIn_app (goodIn_of _ (by decide +kernel)) ggL_law_X14_show
set_option maxRecDepth 20000 in
theorem ggL_law_L_out : GoodIn wsL_law wsL_out := goodIn_ca (goodIn_r _ [1312, 1313, 1314, 1315, 1316, 2, 1317, 1318, 1319, 36, 1320, 1321, 1322, 1323, 35, 1324, 187, 1355, 1356, 1357, 1358, 1359, 1360, 1361, 1362, 1363, 1364, 1365, 1366, 1367, 1368, 1369, 1370, 1371, 1481, 1482, 1483, 1484, 1485, 1486, 1487, 1488] (by decide +kernel) (by decide +kernel)) (goodIn_sub (fun _ h => List.mem_append_right _ h) (by decide +kernel))
set_option maxRecDepth 20000 in
theorem gL_law_L_out : GoodIn wsL_law (va_wsS RL 57 yL_out wsL_out) := goodIn_app (goodIn_of _ (by decide +kernel)) ggL_law_L_out
set_option maxRecDepth 20000 in
theorem ggL_law_X14_out : GoodIn wsL_law wsX14_out := goodIn_r _ [1328, 1289, 269, 229, 1372, 1373, 1374, 1375, 1376, 1377, 1378, 1379, 1380, 1381, 1382, 1383, 1384, 1385, 1386, 1387, 1388, 1389, 1390, 1391, 1392, 1393, 1394, 1395, 1396, 1397, 1398, 1399, 1400, 1401, 1402, 1403, 1404, 1405, 1406, 1407, 1408, 1409, 1410, 1411, 1412, 1413, 1414, 1415, 1416, 1417, 1418, 1419, 1420, 1421, 1422, 1423, 1424, 1425, 1426, 1427, 1428, 1429, 1430, 1431, 1432, 1433, 1434] (by decide +kernel) (by decide +kernel)
set_option maxRecDepth 20000 in
theorem gL_law_X14_out : GoodIn wsL_law (wsV RL 62 RX14 yX14_out wsX14_out) := goodIn_app (goodIn_of _ (by decide +kernel)) ggL_law_X14_out
set_option maxRecDepth 20000 in
theorem ggL_law_X14_thrown : GoodIn wsL_law wsX14_thrown := goodIn_r _ [1332, 269, 1372, 1373, 1374, 1375, 1376, 1377, 1378, 1379, 1380, 1381, 1382, 1383, 1384, 1385, 1386, 1387, 1388, 1389, 1390, 1391, 1392, 1393, 1394, 1395, 1396, 1397, 1398, 1399, 1400, 1401, 1402, 1403, 1404, 1405, 1406, 1407, 1408, 1409, 1410, 1411, 1412, 1413, 1414, 1415, 1416, 1417, 1418, 1419, 1420, 1421, 1422, 1423, 1424, 1425, 1426, 1427, 1428, 1429, 1430, 1431, 1432, 1433, 1434] (by decide +kernel) (by decide +kernel)
set_option maxRecDepth 20000 in
theorem gL_law_X14_thrown : GoodIn wsL_law (wsV RL 63 RX14 yX14_thrown wsX14_thrown) := goodIn_app (goodIn_of _ (by decide +kernel)) ggL_law_X14_thrown
set_option maxRecDepth 20000 in
theorem ggL_law_X11_release : GoodIn wsL_law wsX11_release := goodIn_r _ [1336, 42, 31, 1337, 43, 1338, 951, 952, 30, 953, 177, 178, 954, 955, 956, 957, 958, 959, 960, 961, 962, 963, 964, 965, 181, 966, 447, 448, 59, 449, 92, 91, 967, 968, 969, 970, 179, 971, 972, 973, 974, 166, 167, 171, 1355, 1356, 1357, 1358, 1359, 1360, 1361, 1362, 1363, 1364, 1365, 1366, 1367, 1368, 1369, 1370, 1371, 1468, 1469, 1470, 1471, 1472, 1473, 1474, 1475, 1476, 1477, 1478, 1479, 1480, 1504, 1505, 1506] (by decide +kernel) (by decide +kernel)
set_option maxRecDepth 20000 in
theorem gL_law_X11_release : GoodIn wsL_law (wsV RL 66 RX11 yX11_release wsX11_release) := goodIn_app (goodIn_of _ (by decide +kernel)) ggL_law_X11_release
set_option maxRecDepth 20000 in
theorem ggL_law_X14_release : GoodIn wsL_law wsX14_release := goodIn_r _ [1342, 269, 686, 1120, 1124, 1157, 1158, 1159, 5, 1160, 1114, 213, 211, 206, 210, 214, 1161, 1162, 1163, 1164, 1165, 1166, 1167, 1168, 212, 1116, 1372, 1373, 1374, 1375, 1376, 1377, 1378, 1379, 1380, 1381, 1382, 1383, 1384, 1385, 1386, 1387, 1388, 1389, 1390, 1391, 1392, 1393, 1394, 1395, 1396, 1397, 1398, 1399, 1400, 1401, 1402, 1403, 1404, 1405, 1406, 1407, 1408, 1409, 1410, 1411, 1412, 1413, 1414, 1415, 1416, 1417, 1418, 1419, 1420, 1421, 1422, 1423, 1424, 1425, 1426, 1427, 1428, 1429, 1430, 1431, 1432, 1433, 1434, 1528, 1529, 1530, 1531, 1532, 1533, 1534, 1535, 1536, 1537, 1538, 1539, 1540, 1541, 1542, 1543, 1544, 1545, 1546, 1547, 1548, 1549] (by decide +kernel) (by decide +kernel)
set_option maxRecDepth 20000 in
theorem gL_law_X14_release : GoodIn wsL_law (wsV RL 69 RX14 yX14_release wsX14_release) := goodIn_app (goodIn_of _ (by decide +kernel)) ggL_law_X14_release
set_option maxRecDepth 20000 in
theorem ggL_law_X11_count : GoodIn wsL_law wsX11_count := goodIn_r _ [1346, 39, 40, 31, 1347, 1348, 1337, 1349, 1350, 890, 41, 1355, 1356, 1357, 1358, 1359, 1360, 1361, 1362, 1363, 1364, 1365, 1366, 1367, 1368, 1369, 1370, 1371, 1468, 1469, 1470, 1471, 1472, 1473, 1474, 1475, 1476, 1477, 1478, 1479, 1480] (by decide +kernel) (by decide +kernel)
set_option maxRecDepth 20000 in
theorem gL_law_X11_count : GoodIn wsL_law (wsV RL 70 RX11 yX11_count wsX11_count) := goodIn_app (goodIn_of _ (by decide +kernel)) ggL_law_X11_count
set_option maxRecDepth 20000 in
theorem ggL_law_X14_count : GoodIn wsL_law wsX14_count := goodIn_r _ [1354, 269, 685, 1117, 1118, 1119, 1120, 1121, 1122, 1123, 1223, 1224, 1225, 5, 1226, 1115, 1116, 1372, 1373, 1374, 1375, 1376, 1377, 1378, 1379, 1380, 1381, 1382, 1383, 1384, 1385, 1386, 1387, 1388, 1389, 1390, 1391, 1392, 1393, 1394, 1395, 1396, 1397, 1398, 1399, 1400, 1401, 1402, 1403, 1404, 1405, 1406, 1407, 1408, 1409, 1410, 1411, 1412, 1413, 1414, 1415, 1416, 1417, 1418, 1419, 1420, 1421, 1422, 1423, 1424, 1425, 1426, 1427, 1428, 1429, 1430, 1431, 1432, 1433, 1434] (by decide +kernel) (by decide +kernel)
set_option maxRecDepth 20000 in
theorem gL_law_X14_count : GoodIn wsL_law (wsV RL 73 RX14 yX14_count wsX14_count) := goodIn_app (goodIn_of _ (by decide +kernel)) ggL_law_X14_count
end
