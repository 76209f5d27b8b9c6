section
-- ===== PART A: goes FIRST, ahead of the names: the tables' words, and 'selects' of the private methods out of them =====
/-- a private method of a class that the tables say can be made, by its rows of tables_1 -/
def lw_okq (q : MethodName × Nat) : Prop := (q.1.cls ≠ "java/lang/invoke/MethodHandle" ∧ q.1.cls ≠ "java/lang/invoke/VarHandle") ∧ Cond.instantiable q.1.cls q.2 ∈ tables_1 ∧ Cond.privateMethod q.1 ∈ tables_1 ∧ Cond.instanceMethod q.1 ∈ tables_1
theorem lw_p0 : lw_okq (⟨"MailHouse$Tokens", "skip", "()V"⟩, 11) := ⟨⟨by decide +kernel, by decide +kernel⟩, List.mem_of_getElem? (i := 108) (by decide +kernel), List.mem_of_getElem? (i := 562) (by decide +kernel), List.mem_of_getElem? (i := 563) (by decide +kernel)⟩
theorem lw_p1 : lw_okq (⟨"MailHouse$Tokens", "scan", "()I"⟩, 11) := ⟨⟨by decide +kernel, by decide +kernel⟩, List.mem_of_getElem? (i := 108) (by decide +kernel), List.mem_of_getElem? (i := 566) (by decide +kernel), List.mem_of_getElem? (i := 567) (by decide +kernel)⟩
theorem lw_p2 : lw_okq (⟨"MailHouse$Tokens", "number", "()I"⟩, 11) := ⟨⟨by decide +kernel, by decide +kernel⟩, List.mem_of_getElem? (i := 108) (by decide +kernel), List.mem_of_getElem? (i := 580) (by decide +kernel), List.mem_of_getElem? (i := 581) (by decide +kernel)⟩
theorem lw_p3 : lw_okq (⟨"MailHouse$Tokens", "word", "(I)I"⟩, 11) := ⟨⟨by decide +kernel, by decide +kernel⟩, List.mem_of_getElem? (i := 108) (by decide +kernel), List.mem_of_getElem? (i := 591) (by decide +kernel), List.mem_of_getElem? (i := 592) (by decide +kernel)⟩
theorem lw_p4 : lw_okq (⟨"MailHouse$Words", "isSame", "(I[BI)Z"⟩, 3) := ⟨⟨by decide +kernel, by decide +kernel⟩, List.mem_of_getElem? (i := 38) (by decide +kernel), List.mem_of_getElem? (i := 603) (by decide +kernel), List.mem_of_getElem? (i := 604) (by decide +kernel)⟩
theorem lw_p5 : lw_okq (⟨"MailHouse$Tokens", "string", "()I"⟩, 11) := ⟨⟨by decide +kernel, by decide +kernel⟩, List.mem_of_getElem? (i := 108) (by decide +kernel), List.mem_of_getElem? (i := 611) (by decide +kernel), List.mem_of_getElem? (i := 612) (by decide +kernel)⟩
theorem lw_p6 : lw_okq (⟨"MailHouse$Tokens", "signs", "(I)I"⟩, 11) := ⟨⟨by decide +kernel, by decide +kernel⟩, List.mem_of_getElem? (i := 108) (by decide +kernel), List.mem_of_getElem? (i := 615) (by decide +kernel), List.mem_of_getElem? (i := 616) (by decide +kernel)⟩
theorem lw_p7 : lw_okq (⟨"MailHouse$Parser", "look", "()I"⟩, 8) := ⟨⟨by decide +kernel, by decide +kernel⟩, List.mem_of_getElem? (i := 268) (by decide +kernel), List.mem_of_getElem? (i := 636) (by decide +kernel), List.mem_of_getElem? (i := 637) (by decide +kernel)⟩
theorem lw_p8 : lw_okq (⟨"MailHouse$Parser", "refuse", "(I)V"⟩, 8) := ⟨⟨by decide +kernel, by decide +kernel⟩, List.mem_of_getElem? (i := 268) (by decide +kernel), List.mem_of_getElem? (i := 640) (by decide +kernel), List.mem_of_getElem? (i := 641) (by decide +kernel)⟩
theorem lw_p9 : lw_okq (⟨"java/lang/Throwable", "fillInStackTrace", "(I)Ljava/lang/Throwable;"⟩, 6) := ⟨⟨by decide +kernel, by decide +kernel⟩, List.mem_of_getElem? (i := 682) (by decide +kernel), List.mem_of_getElem? (i := 680) (by decide +kernel), List.mem_of_getElem? (i := 681) (by decide +kernel)⟩
theorem lw_p10 : lw_okq (⟨"MailHouse$Parser", "oneFunction", "()V"⟩, 8) := ⟨⟨by decide +kernel, by decide +kernel⟩, List.mem_of_getElem? (i := 268) (by decide +kernel), List.mem_of_getElem? (i := 711) (by decide +kernel), List.mem_of_getElem? (i := 712) (by decide +kernel)⟩
theorem lw_p11 : lw_okq (⟨"MailHouse$Parser", "clause", "()I"⟩, 8) := ⟨⟨by decide +kernel, by decide +kernel⟩, List.mem_of_getElem? (i := 268) (by decide +kernel), List.mem_of_getElem? (i := 715) (by decide +kernel), List.mem_of_getElem? (i := 716) (by decide +kernel)⟩
theorem lw_p12 : lw_okq (⟨"MailHouse$Parser", "need", "(I)I"⟩, 8) := ⟨⟨by decide +kernel, by decide +kernel⟩, List.mem_of_getElem? (i := 268) (by decide +kernel), List.mem_of_getElem? (i := 719) (by decide +kernel), List.mem_of_getElem? (i := 720) (by decide +kernel)⟩
theorem lw_p13 : lw_okq (⟨"MailHouse$Parser", "rowUpTo", "(ZII)I"⟩, 8) := ⟨⟨by decide +kernel, by decide +kernel⟩, List.mem_of_getElem? (i := 268) (by decide +kernel), List.mem_of_getElem? (i := 723) (by decide +kernel), List.mem_of_getElem? (i := 724) (by decide +kernel)⟩
theorem lw_p14 : lw_okq (⟨"MailHouse$Parser", "row", "(ZI)I"⟩, 8) := ⟨⟨by decide +kernel, by decide +kernel⟩, List.mem_of_getElem? (i := 268) (by decide +kernel), List.mem_of_getElem? (i := 727) (by decide +kernel), List.mem_of_getElem? (i := 728) (by decide +kernel)⟩
theorem lw_p15 : lw_okq (⟨"MailHouse$Parser", "pattern", "()I"⟩, 8) := ⟨⟨by decide +kernel, by decide +kernel⟩, List.mem_of_getElem? (i := 268) (by decide +kernel), List.mem_of_getElem? (i := 731) (by decide +kernel), List.mem_of_getElem? (i := 732) (by decide +kernel)⟩
def lw_privs_1 : List (MethodName × Nat) := [(⟨"MailHouse$Tokens", "skip", "()V"⟩, 11), (⟨"MailHouse$Tokens", "scan", "()I"⟩, 11), (⟨"MailHouse$Tokens", "number", "()I"⟩, 11), (⟨"MailHouse$Tokens", "word", "(I)I"⟩, 11), (⟨"MailHouse$Words", "isSame", "(I[BI)Z"⟩, 3), (⟨"MailHouse$Tokens", "string", "()I"⟩, 11), (⟨"MailHouse$Tokens", "signs", "(I)I"⟩, 11), (⟨"MailHouse$Parser", "look", "()I"⟩, 8), (⟨"MailHouse$Parser", "refuse", "(I)V"⟩, 8), (⟨"java/lang/Throwable", "fillInStackTrace", "(I)Ljava/lang/Throwable;"⟩, 6), (⟨"MailHouse$Parser", "oneFunction", "()V"⟩, 8), (⟨"MailHouse$Parser", "clause", "()I"⟩, 8), (⟨"MailHouse$Parser", "need", "(I)I"⟩, 8), (⟨"MailHouse$Parser", "rowUpTo", "(ZII)I"⟩, 8), (⟨"MailHouse$Parser", "row", "(ZI)I"⟩, 8), (⟨"MailHouse$Parser", "pattern", "()I"⟩, 8)]
theorem lw_r1 : ∀ q ∈ lw_privs_1, lw_okq q := List.forall_mem_cons.mpr ⟨lw_p0, List.forall_mem_cons.mpr ⟨lw_p1, List.forall_mem_cons.mpr ⟨lw_p2, List.forall_mem_cons.mpr ⟨lw_p3, List.forall_mem_cons.mpr ⟨lw_p4, List.forall_mem_cons.mpr ⟨lw_p5, List.forall_mem_cons.mpr ⟨lw_p6, List.forall_mem_cons.mpr ⟨lw_p7, List.forall_mem_cons.mpr ⟨lw_p8, List.forall_mem_cons.mpr ⟨lw_p9, List.forall_mem_cons.mpr ⟨lw_p10, List.forall_mem_cons.mpr ⟨lw_p11, List.forall_mem_cons.mpr ⟨lw_p12, List.forall_mem_cons.mpr ⟨lw_p13, List.forall_mem_cons.mpr ⟨lw_p14, List.forall_mem_cons.mpr ⟨lw_p15, fun _ h => absurd h List.not_mem_nil⟩⟩⟩⟩⟩⟩⟩⟩⟩⟩⟩⟩⟩⟩⟩⟩
theorem lw_p16 : lw_okq (⟨"MailHouse$Parser", "opens", "(Z)V"⟩, 8) := ⟨⟨by decide +kernel, by decide +kernel⟩, List.mem_of_getElem? (i := 268) (by decide +kernel), List.mem_of_getElem? (i := 738) (by decide +kernel), List.mem_of_getElem? (i := 739) (by decide +kernel)⟩
theorem lw_p17 : lw_okq (⟨"MailHouse$Parser", "tuple", "(Z)I"⟩, 8) := ⟨⟨by decide +kernel, by decide +kernel⟩, List.mem_of_getElem? (i := 268) (by decide +kernel), List.mem_of_getElem? (i := 746) (by decide +kernel), List.mem_of_getElem? (i := 747) (by decide +kernel)⟩
theorem lw_p18 : lw_okq (⟨"MailHouse$Parser", "list", "(Z)I"⟩, 8) := ⟨⟨by decide +kernel, by decide +kernel⟩, List.mem_of_getElem? (i := 268) (by decide +kernel), List.mem_of_getElem? (i := 754) (by decide +kernel), List.mem_of_getElem? (i := 755) (by decide +kernel)⟩
theorem lw_p19 : lw_okq (⟨"MailHouse$Parser", "expression", "(Z)I"⟩, 8) := ⟨⟨by decide +kernel, by decide +kernel⟩, List.mem_of_getElem? (i := 268) (by decide +kernel), List.mem_of_getElem? (i := 758) (by decide +kernel), List.mem_of_getElem? (i := 759) (by decide +kernel)⟩
theorem lw_p20 : lw_okq (⟨"MailHouse$Parser", "signed", "()I"⟩, 8) := ⟨⟨by decide +kernel, by decide +kernel⟩, List.mem_of_getElem? (i := 268) (by decide +kernel), List.mem_of_getElem? (i := 765) (by decide +kernel), List.mem_of_getElem? (i := 766) (by decide +kernel)⟩
theorem lw_p21 : lw_okq (⟨"MailHouse$Parser", "unit", "()I"⟩, 8) := ⟨⟨by decide +kernel, by decide +kernel⟩, List.mem_of_getElem? (i := 268) (by decide +kernel), List.mem_of_getElem? (i := 769) (by decide +kernel), List.mem_of_getElem? (i := 770) (by decide +kernel)⟩
theorem lw_p22 : lw_okq (⟨"MailHouse$Parser", "primary", "()I"⟩, 8) := ⟨⟨by decide +kernel, by decide +kernel⟩, List.mem_of_getElem? (i := 268) (by decide +kernel), List.mem_of_getElem? (i := 773) (by decide +kernel), List.mem_of_getElem? (i := 774) (by decide +kernel)⟩
theorem lw_p23 : lw_okq (⟨"MailHouse$Parser", "leaf", "()I"⟩, 8) := ⟨⟨by decide +kernel, by decide +kernel⟩, List.mem_of_getElem? (i := 268) (by decide +kernel), List.mem_of_getElem? (i := 777) (by decide +kernel), List.mem_of_getElem? (i := 778) (by decide +kernel)⟩
theorem lw_p24 : lw_okq (⟨"MailHouse$Parser", "atomOrCall", "()I"⟩, 8) := ⟨⟨by decide +kernel, by decide +kernel⟩, List.mem_of_getElem? (i := 268) (by decide +kernel), List.mem_of_getElem? (i := 781) (by decide +kernel), List.mem_of_getElem? (i := 782) (by decide +kernel)⟩
theorem lw_p25 : lw_okq (⟨"MailHouse$Parser", "body", "()I"⟩, 8) := ⟨⟨by decide +kernel, by decide +kernel⟩, List.mem_of_getElem? (i := 268) (by decide +kernel), List.mem_of_getElem? (i := 785) (by decide +kernel), List.mem_of_getElem? (i := 786) (by decide +kernel)⟩
theorem lw_p26 : lw_okq (⟨"MailHouse$Parser", "caseOf", "()I"⟩, 8) := ⟨⟨by decide +kernel, by decide +kernel⟩, List.mem_of_getElem? (i := 268) (by decide +kernel), List.mem_of_getElem? (i := 789) (by decide +kernel), List.mem_of_getElem? (i := 790) (by decide +kernel)⟩
theorem lw_p27 : lw_okq (⟨"MailHouse$Parser", "parts", "(Z)I"⟩, 8) := ⟨⟨by decide +kernel, by decide +kernel⟩, List.mem_of_getElem? (i := 268) (by decide +kernel), List.mem_of_getElem? (i := 793) (by decide +kernel), List.mem_of_getElem? (i := 794) (by decide +kernel)⟩
theorem lw_p28 : lw_okq (⟨"MailHouse$Parser", "oneCase", "()I"⟩, 8) := ⟨⟨by decide +kernel, by decide +kernel⟩, List.mem_of_getElem? (i := 268) (by decide +kernel), List.mem_of_getElem? (i := 797) (by decide +kernel), List.mem_of_getElem? (i := 798) (by decide +kernel)⟩
theorem lw_p29 : lw_okq (⟨"MailHouse$Parser", "part", "(II)I"⟩, 8) := ⟨⟨by decide +kernel, by decide +kernel⟩, List.mem_of_getElem? (i := 268) (by decide +kernel), List.mem_of_getElem? (i := 801) (by decide +kernel), List.mem_of_getElem? (i := 802) (by decide +kernel)⟩
theorem lw_p30 : lw_okq (⟨"MailHouse$Parser", "choice", "()I"⟩, 8) := ⟨⟨by decide +kernel, by decide +kernel⟩, List.mem_of_getElem? (i := 268) (by decide +kernel), List.mem_of_getElem? (i := 805) (by decide +kernel), List.mem_of_getElem? (i := 806) (by decide +kernel)⟩
theorem lw_p31 : lw_okq (⟨"MailHouse$Parser", "chain", "(II)I"⟩, 8) := ⟨⟨by decide +kernel, by decide +kernel⟩, List.mem_of_getElem? (i := 268) (by decide +kernel), List.mem_of_getElem? (i := 809) (by decide +kernel), List.mem_of_getElem? (i := 810) (by decide +kernel)⟩
def lw_privs_2 : List (MethodName × Nat) := [(⟨"MailHouse$Parser", "opens", "(Z)V"⟩, 8), (⟨"MailHouse$Parser", "tuple", "(Z)I"⟩, 8), (⟨"MailHouse$Parser", "list", "(Z)I"⟩, 8), (⟨"MailHouse$Parser", "expression", "(Z)I"⟩, 8), (⟨"MailHouse$Parser", "signed", "()I"⟩, 8), (⟨"MailHouse$Parser", "unit", "()I"⟩, 8), (⟨"MailHouse$Parser", "primary", "()I"⟩, 8), (⟨"MailHouse$Parser", "leaf", "()I"⟩, 8), (⟨"MailHouse$Parser", "atomOrCall", "()I"⟩, 8), (⟨"MailHouse$Parser", "body", "()I"⟩, 8), (⟨"MailHouse$Parser", "caseOf", "()I"⟩, 8), (⟨"MailHouse$Parser", "parts", "(Z)I"⟩, 8), (⟨"MailHouse$Parser", "oneCase", "()I"⟩, 8), (⟨"MailHouse$Parser", "part", "(II)I"⟩, 8), (⟨"MailHouse$Parser", "choice", "()I"⟩, 8), (⟨"MailHouse$Parser", "chain", "(II)I"⟩, 8)]
theorem lw_r2 : ∀ q ∈ lw_privs_2, lw_okq q := List.forall_mem_cons.mpr ⟨lw_p16, List.forall_mem_cons.mpr ⟨lw_p17, List.forall_mem_cons.mpr ⟨lw_p18, List.forall_mem_cons.mpr ⟨lw_p19, List.forall_mem_cons.mpr ⟨lw_p20, List.forall_mem_cons.mpr ⟨lw_p21, List.forall_mem_cons.mpr ⟨lw_p22, List.forall_mem_cons.mpr ⟨lw_p23, List.forall_mem_cons.mpr ⟨lw_p24, List.forall_mem_cons.mpr ⟨lw_p25, List.forall_mem_cons.mpr ⟨lw_p26, List.forall_mem_cons.mpr ⟨lw_p27, List.forall_mem_cons.mpr ⟨lw_p28, List.forall_mem_cons.mpr ⟨lw_p29, List.forall_mem_cons.mpr ⟨lw_p30, List.forall_mem_cons.mpr ⟨lw_p31, fun _ h => absurd h List.not_mem_nil⟩⟩⟩⟩⟩⟩⟩⟩⟩⟩⟩⟩⟩⟩⟩⟩
theorem lw_p32 : lw_okq (⟨"MailHouse$Parser", "receive", "()I"⟩, 8) := ⟨⟨by decide +kernel, by decide +kernel⟩, List.mem_of_getElem? (i := 268) (by decide +kernel), List.mem_of_getElem? (i := 813) (by decide +kernel), List.mem_of_getElem? (i := 814) (by decide +kernel)⟩
theorem lw_p33 : lw_okq (⟨"MailHouse$Parser", "fun", "()I"⟩, 8) := ⟨⟨by decide +kernel, by decide +kernel⟩, List.mem_of_getElem? (i := 268) (by decide +kernel), List.mem_of_getElem? (i := 817) (by decide +kernel), List.mem_of_getElem? (i := 818) (by decide +kernel)⟩
theorem lw_p34 : lw_okq (⟨"MailHouse$Parser", "applied", "(I)I"⟩, 8) := ⟨⟨by decide +kernel, by decide +kernel⟩, List.mem_of_getElem? (i := 268) (by decide +kernel), List.mem_of_getElem? (i := 825) (by decide +kernel), List.mem_of_getElem? (i := 826) (by decide +kernel)⟩
theorem lw_p35 : lw_okq (⟨"MailHouse$Parser", "closeSigns", "(III)I"⟩, 8) := ⟨⟨by decide +kernel, by decide +kernel⟩, List.mem_of_getElem? (i := 268) (by decide +kernel), List.mem_of_getElem? (i := 832) (by decide +kernel), List.mem_of_getElem? (i := 833) (by decide +kernel)⟩
theorem lw_p36 : lw_okq (⟨"MailHouse$Parser", "matched", "(I)I"⟩, 8) := ⟨⟨by decide +kernel, by decide +kernel⟩, List.mem_of_getElem? (i := 268) (by decide +kernel), List.mem_of_getElem? (i := 836) (by decide +kernel), List.mem_of_getElem? (i := 837) (by decide +kernel)⟩
theorem lw_p37 : lw_okq (⟨"MailHouse$Compiler", "oneFunction", "(I)V"⟩, 15) := ⟨⟨by decide +kernel, by decide +kernel⟩, List.mem_of_getElem? (i := 299) (by decide +kernel), List.mem_of_getElem? (i := 854) (by decide +kernel), List.mem_of_getElem? (i := 855) (by decide +kernel)⟩
theorem lw_p38 : lw_okq (⟨"MailHouse$Compiler", "predefinedOf", "(II)I"⟩, 15) := ⟨⟨by decide +kernel, by decide +kernel⟩, List.mem_of_getElem? (i := 299) (by decide +kernel), List.mem_of_getElem? (i := 862) (by decide +kernel), List.mem_of_getElem? (i := 863) (by decide +kernel)⟩
theorem lw_p39 : lw_okq (⟨"MailHouse$Compiler", "fault", "(II)V"⟩, 15) := ⟨⟨by decide +kernel, by decide +kernel⟩, List.mem_of_getElem? (i := 299) (by decide +kernel), List.mem_of_getElem? (i := 872) (by decide +kernel), List.mem_of_getElem? (i := 873) (by decide +kernel)⟩
theorem lw_p40 : lw_okq (⟨"MailHouse$Compiler", "clause", "(III)V"⟩, 15) := ⟨⟨by decide +kernel, by decide +kernel⟩, List.mem_of_getElem? (i := 299) (by decide +kernel), List.mem_of_getElem? (i := 880) (by decide +kernel), List.mem_of_getElem? (i := 881) (by decide +kernel)⟩
theorem lw_p41 : lw_okq (⟨"MailHouse$Compiler", "tries", "(II)I"⟩, 15) := ⟨⟨by decide +kernel, by decide +kernel⟩, List.mem_of_getElem? (i := 299) (by decide +kernel), List.mem_of_getElem? (i := 884) (by decide +kernel), List.mem_of_getElem? (i := 885) (by decide +kernel)⟩
theorem lw_p42 : lw_okq (⟨"MailHouse$Compiler", "pattern", "(I)V"⟩, 15) := ⟨⟨by decide +kernel, by decide +kernel⟩, List.mem_of_getElem? (i := 299) (by decide +kernel), List.mem_of_getElem? (i := 897) (by decide +kernel), List.mem_of_getElem? (i := 898) (by decide +kernel)⟩
theorem lw_p43 : lw_okq (⟨"MailHouse$Compiler", "term", "(II)V"⟩, 15) := ⟨⟨by decide +kernel, by decide +kernel⟩, List.mem_of_getElem? (i := 299) (by decide +kernel), List.mem_of_getElem? (i := 901) (by decide +kernel), List.mem_of_getElem? (i := 902) (by decide +kernel)⟩
theorem lw_p44 : lw_okq (⟨"MailHouse$Compiler", "string", "(I)V"⟩, 15) := ⟨⟨by decide +kernel, by decide +kernel⟩, List.mem_of_getElem? (i := 299) (by decide +kernel), List.mem_of_getElem? (i := 905) (by decide +kernel), List.mem_of_getElem? (i := 906) (by decide +kernel)⟩
theorem lw_p45 : lw_okq (⟨"MailHouse$Compiler", "nameInPattern", "(II)V"⟩, 15) := ⟨⟨by decide +kernel, by decide +kernel⟩, List.mem_of_getElem? (i := 299) (by decide +kernel), List.mem_of_getElem? (i := 910) (by decide +kernel), List.mem_of_getElem? (i := 911) (by decide +kernel)⟩
theorem lw_p46 : lw_okq (⟨"MailHouse$Compiler", "isBound", "(III)Z"⟩, 15) := ⟨⟨by decide +kernel, by decide +kernel⟩, List.mem_of_getElem? (i := 299) (by decide +kernel), List.mem_of_getElem? (i := 914) (by decide +kernel), List.mem_of_getElem? (i := 915) (by decide +kernel)⟩
theorem lw_p47 : lw_okq (⟨"MailHouse$Compiler", "bind", "(I)V"⟩, 15) := ⟨⟨by decide +kernel, by decide +kernel⟩, List.mem_of_getElem? (i := 299) (by decide +kernel), List.mem_of_getElem? (i := 918) (by decide +kernel), List.mem_of_getElem? (i := 919) (by decide +kernel)⟩
def lw_privs_3 : List (MethodName × Nat) := [(⟨"MailHouse$Parser", "receive", "()I"⟩, 8), (⟨"MailHouse$Parser", "fun", "()I"⟩, 8), (⟨"MailHouse$Parser", "applied", "(I)I"⟩, 8), (⟨"MailHouse$Parser", "closeSigns", "(III)I"⟩, 8), (⟨"MailHouse$Parser", "matched", "(I)I"⟩, 8), (⟨"MailHouse$Compiler", "oneFunction", "(I)V"⟩, 15), (⟨"MailHouse$Compiler", "predefinedOf", "(II)I"⟩, 15), (⟨"MailHouse$Compiler", "fault", "(II)V"⟩, 15), (⟨"MailHouse$Compiler", "clause", "(III)V"⟩, 15), (⟨"MailHouse$Compiler", "tries", "(II)I"⟩, 15), (⟨"MailHouse$Compiler", "pattern", "(I)V"⟩, 15), (⟨"MailHouse$Compiler", "term", "(II)V"⟩, 15), (⟨"MailHouse$Compiler", "string", "(I)V"⟩, 15), (⟨"MailHouse$Compiler", "nameInPattern", "(II)V"⟩, 15), (⟨"MailHouse$Compiler", "isBound", "(III)Z"⟩, 15), (⟨"MailHouse$Compiler", "bind", "(I)V"⟩, 15)]
theorem lw_r3 : ∀ q ∈ lw_privs_3, lw_okq q := List.forall_mem_cons.mpr ⟨lw_p32, List.forall_mem_cons.mpr ⟨lw_p33, List.forall_mem_cons.mpr ⟨lw_p34, List.forall_mem_cons.mpr ⟨lw_p35, List.forall_mem_cons.mpr ⟨lw_p36, List.forall_mem_cons.mpr ⟨lw_p37, List.forall_mem_cons.mpr ⟨lw_p38, List.forall_mem_cons.mpr ⟨lw_p39, List.forall_mem_cons.mpr ⟨lw_p40, List.forall_mem_cons.mpr ⟨lw_p41, List.forall_mem_cons.mpr ⟨lw_p42, List.forall_mem_cons.mpr ⟨lw_p43, List.forall_mem_cons.mpr ⟨lw_p44, List.forall_mem_cons.mpr ⟨lw_p45, List.forall_mem_cons.mpr ⟨lw_p46, List.forall_mem_cons.mpr ⟨lw_p47, fun _ h => absurd h List.not_mem_nil⟩⟩⟩⟩⟩⟩⟩⟩⟩⟩⟩⟩⟩⟩⟩⟩
theorem lw_p48 : lw_okq (⟨"MailHouse$Compiler", "listPattern", "(I)V"⟩, 15) := ⟨⟨by decide +kernel, by decide +kernel⟩, List.mem_of_getElem? (i := 299) (by decide +kernel), List.mem_of_getElem? (i := 925) (by decide +kernel), List.mem_of_getElem? (i := 926) (by decide +kernel)⟩
theorem lw_p49 : lw_okq (⟨"MailHouse$Compiler", "expression", "(IZ)V"⟩, 15) := ⟨⟨by decide +kernel, by decide +kernel⟩, List.mem_of_getElem? (i := 299) (by decide +kernel), List.mem_of_getElem? (i := 929) (by decide +kernel), List.mem_of_getElem? (i := 930) (by decide +kernel)⟩
theorem lw_p50 : lw_okq (⟨"MailHouse$Compiler", "notInGuard", "(I)V"⟩, 15) := ⟨⟨by decide +kernel, by decide +kernel⟩, List.mem_of_getElem? (i := 299) (by decide +kernel), List.mem_of_getElem? (i := 933) (by decide +kernel), List.mem_of_getElem? (i := 934) (by decide +kernel)⟩
theorem lw_p51 : lw_okq (⟨"MailHouse$Compiler", "row", "(I)V"⟩, 15) := ⟨⟨by decide +kernel, by decide +kernel⟩, List.mem_of_getElem? (i := 299) (by decide +kernel), List.mem_of_getElem? (i := 937) (by decide +kernel), List.mem_of_getElem? (i := 938) (by decide +kernel)⟩
theorem lw_p52 : lw_okq (⟨"MailHouse$Compiler", "list", "(I)V"⟩, 15) := ⟨⟨by decide +kernel, by decide +kernel⟩, List.mem_of_getElem? (i := 299) (by decide +kernel), List.mem_of_getElem? (i := 941) (by decide +kernel), List.mem_of_getElem? (i := 942) (by decide +kernel)⟩
theorem lw_p53 : lw_okq (⟨"MailHouse$Compiler", "signs", "(I)V"⟩, 15) := ⟨⟨by decide +kernel, by decide +kernel⟩, List.mem_of_getElem? (i := 299) (by decide +kernel), List.mem_of_getElem? (i := 945) (by decide +kernel), List.mem_of_getElem? (i := 946) (by decide +kernel)⟩
theorem lw_p54 : lw_okq (⟨"MailHouse$Compiler", "forget", "(I)V"⟩, 15) := ⟨⟨by decide +kernel, by decide +kernel⟩, List.mem_of_getElem? (i := 299) (by decide +kernel), List.mem_of_getElem? (i := 949) (by decide +kernel), List.mem_of_getElem? (i := 950) (by decide +kernel)⟩
theorem lw_p55 : lw_okq (⟨"MailHouse$Compiler", "joining", "(II)V"⟩, 15) := ⟨⟨by decide +kernel, by decide +kernel⟩, List.mem_of_getElem? (i := 299) (by decide +kernel), List.mem_of_getElem? (i := 965) (by decide +kernel), List.mem_of_getElem? (i := 966) (by decide +kernel)⟩
theorem lw_p56 : lw_okq (⟨"MailHouse$Compiler", "call", "(IZ)V"⟩, 15) := ⟨⟨by decide +kernel, by decide +kernel⟩, List.mem_of_getElem? (i := 299) (by decide +kernel), List.mem_of_getElem? (i := 969) (by decide +kernel), List.mem_of_getElem? (i := 970) (by decide +kernel)⟩
theorem lw_p57 : lw_okq (⟨"MailHouse$Compiler", "apply", "(IZ)V"⟩, 15) := ⟨⟨by decide +kernel, by decide +kernel⟩, List.mem_of_getElem? (i := 299) (by decide +kernel), List.mem_of_getElem? (i := 973) (by decide +kernel), List.mem_of_getElem? (i := 974) (by decide +kernel)⟩
theorem lw_p58 : lw_okq (⟨"MailHouse$Compiler", "compound", "(IZ)V"⟩, 15) := ⟨⟨by decide +kernel, by decide +kernel⟩, List.mem_of_getElem? (i := 299) (by decide +kernel), List.mem_of_getElem? (i := 977) (by decide +kernel), List.mem_of_getElem? (i := 978) (by decide +kernel)⟩
theorem lw_p59 : lw_okq (⟨"MailHouse$Compiler", "body", "(IZ)V"⟩, 15) := ⟨⟨by decide +kernel, by decide +kernel⟩, List.mem_of_getElem? (i := 299) (by decide +kernel), List.mem_of_getElem? (i := 981) (by decide +kernel), List.mem_of_getElem? (i := 982) (by decide +kernel)⟩
theorem lw_p60 : lw_okq (⟨"MailHouse$Compiler", "parts", "(IIIZ)I"⟩, 15) := ⟨⟨by decide +kernel, by decide +kernel⟩, List.mem_of_getElem? (i := 299) (by decide +kernel), List.mem_of_getElem? (i := 985) (by decide +kernel), List.mem_of_getElem? (i := 986) (by decide +kernel)⟩
theorem lw_p61 : lw_okq (⟨"MailHouse$Compiler", "receive", "(IZ)V"⟩, 15) := ⟨⟨by decide +kernel, by decide +kernel⟩, List.mem_of_getElem? (i := 299) (by decide +kernel), List.mem_of_getElem? (i := 989) (by decide +kernel), List.mem_of_getElem? (i := 990) (by decide +kernel)⟩
theorem lw_p62 : lw_okq (⟨"MailHouse$Compiler", "fun", "(I)V"⟩, 15) := ⟨⟨by decide +kernel, by decide +kernel⟩, List.mem_of_getElem? (i := 299) (by decide +kernel), List.mem_of_getElem? (i := 993) (by decide +kernel), List.mem_of_getElem? (i := 994) (by decide +kernel)⟩
theorem lw_p63 : lw_okq (⟨"MailHouse$Compiler", "hold", "(II)I"⟩, 15) := ⟨⟨by decide +kernel, by decide +kernel⟩, List.mem_of_getElem? (i := 299) (by decide +kernel), List.mem_of_getElem? (i := 997) (by decide +kernel), List.mem_of_getElem? (i := 998) (by decide +kernel)⟩
def lw_privs_4 : List (MethodName × Nat) := [(⟨"MailHouse$Compiler", "listPattern", "(I)V"⟩, 15), (⟨"MailHouse$Compiler", "expression", "(IZ)V"⟩, 15), (⟨"MailHouse$Compiler", "notInGuard", "(I)V"⟩, 15), (⟨"MailHouse$Compiler", "row", "(I)V"⟩, 15), (⟨"MailHouse$Compiler", "list", "(I)V"⟩, 15), (⟨"MailHouse$Compiler", "signs", "(I)V"⟩, 15), (⟨"MailHouse$Compiler", "forget", "(I)V"⟩, 15), (⟨"MailHouse$Compiler", "joining", "(II)V"⟩, 15), (⟨"MailHouse$Compiler", "call", "(IZ)V"⟩, 15), (⟨"MailHouse$Compiler", "apply", "(IZ)V"⟩, 15), (⟨"MailHouse$Compiler", "compound", "(IZ)V"⟩, 15), (⟨"MailHouse$Compiler", "body", "(IZ)V"⟩, 15), (⟨"MailHouse$Compiler", "parts", "(IIIZ)I"⟩, 15), (⟨"MailHouse$Compiler", "receive", "(IZ)V"⟩, 15), (⟨"MailHouse$Compiler", "fun", "(I)V"⟩, 15), (⟨"MailHouse$Compiler", "hold", "(II)I"⟩, 15)]
theorem lw_r4 : ∀ q ∈ lw_privs_4, lw_okq q := List.forall_mem_cons.mpr ⟨lw_p48, List.forall_mem_cons.mpr ⟨lw_p49, List.forall_mem_cons.mpr ⟨lw_p50, List.forall_mem_cons.mpr ⟨lw_p51, List.forall_mem_cons.mpr ⟨lw_p52, List.forall_mem_cons.mpr ⟨lw_p53, List.forall_mem_cons.mpr ⟨lw_p54, List.forall_mem_cons.mpr ⟨lw_p55, List.forall_mem_cons.mpr ⟨lw_p56, List.forall_mem_cons.mpr ⟨lw_p57, List.forall_mem_cons.mpr ⟨lw_p58, List.forall_mem_cons.mpr ⟨lw_p59, List.forall_mem_cons.mpr ⟨lw_p60, List.forall_mem_cons.mpr ⟨lw_p61, List.forall_mem_cons.mpr ⟨lw_p62, List.forall_mem_cons.mpr ⟨lw_p63, fun _ h => absurd h List.not_mem_nil⟩⟩⟩⟩⟩⟩⟩⟩⟩⟩⟩⟩⟩⟩⟩⟩
theorem lw_p64 : lw_okq (⟨"MailHouse$Compiler", "funOf", "(I)V"⟩, 15) := ⟨⟨by decide +kernel, by decide +kernel⟩, List.mem_of_getElem? (i := 299) (by decide +kernel), List.mem_of_getElem? (i := 1003) (by decide +kernel), List.mem_of_getElem? (i := 1004) (by decide +kernel)⟩
theorem lw_p65 : lw_okq (⟨"MailHouse", "isFunction", "(I)Z"⟩, 11) := ⟨⟨by decide +kernel, by decide +kernel⟩, List.mem_of_getElem? (i := 30) (by decide +kernel), List.mem_of_getElem? (i := 1019) (by decide +kernel), List.mem_of_getElem? (i := 1020) (by decide +kernel)⟩
theorem lw_p66 : lw_okq (⟨"MailHouse$Terms", "write", "(I)V"⟩, 7) := ⟨⟨by decide +kernel, by decide +kernel⟩, List.mem_of_getElem? (i := 354) (by decide +kernel), List.mem_of_getElem? (i := 1088) (by decide +kernel), List.mem_of_getElem? (i := 1089) (by decide +kernel)⟩
theorem lw_p67 : lw_okq (⟨"MailHouse$Terms", "toWriteTuple", "([JII)I"⟩, 7) := ⟨⟨by decide +kernel, by decide +kernel⟩, List.mem_of_getElem? (i := 354) (by decide +kernel), List.mem_of_getElem? (i := 1092) (by decide +kernel), List.mem_of_getElem? (i := 1093) (by decide +kernel)⟩
theorem lw_p68 : lw_okq (⟨"MailHouse$Terms", "push", "(IJ)I"⟩, 7) := ⟨⟨by decide +kernel, by decide +kernel⟩, List.mem_of_getElem? (i := 354) (by decide +kernel), List.mem_of_getElem? (i := 1100) (by decide +kernel), List.mem_of_getElem? (i := 1101) (by decide +kernel)⟩
theorem lw_p69 : lw_okq (⟨"MailHouse$Terms", "toWritePair", "([JII)I"⟩, 7) := ⟨⟨by decide +kernel, by decide +kernel⟩, List.mem_of_getElem? (i := 354) (by decide +kernel), List.mem_of_getElem? (i := 1104) (by decide +kernel), List.mem_of_getElem? (i := 1105) (by decide +kernel)⟩
theorem lw_p70 : lw_okq (⟨"MailHouse$Terms", "toWriteRest", "([JI)I"⟩, 7) := ⟨⟨by decide +kernel, by decide +kernel⟩, List.mem_of_getElem? (i := 354) (by decide +kernel), List.mem_of_getElem? (i := 1108) (by decide +kernel), List.mem_of_getElem? (i := 1109) (by decide +kernel)⟩
theorem lw_p71 : lw_okq (⟨"MailHouse$Terms", "writeAlone", "(J)V"⟩, 7) := ⟨⟨by decide +kernel, by decide +kernel⟩, List.mem_of_getElem? (i := 354) (by decide +kernel), List.mem_of_getElem? (i := 1113) (by decide +kernel), List.mem_of_getElem? (i := 1114) (by decide +kernel)⟩
theorem lw_p72 : lw_okq (⟨"MailHouse$Terms", "writeNumber", "(I)V"⟩, 7) := ⟨⟨by decide +kernel, by decide +kernel⟩, List.mem_of_getElem? (i := 354) (by decide +kernel), List.mem_of_getElem? (i := 1117) (by decide +kernel), List.mem_of_getElem? (i := 1118) (by decide +kernel)⟩
theorem lw_p73 : lw_okq (⟨"MailHouse$Frames", "set", "(II)V"⟩, 10) := ⟨⟨by decide +kernel, by decide +kernel⟩, List.mem_of_getElem? (i := 1203) (by decide +kernel), List.mem_of_getElem? (i := 1360) (by decide +kernel), List.mem_of_getElem? (i := 1361) (by decide +kernel)⟩
theorem lw_p74 : lw_okq (⟨"MailHouse$Machine", "predefined", "(I)V"⟩, 15) := ⟨⟨by decide +kernel, by decide +kernel⟩, List.mem_of_getElem? (i := 456) (by decide +kernel), List.mem_of_getElem? (i := 1384) (by decide +kernel), List.mem_of_getElem? (i := 1385) (by decide +kernel)⟩
theorem lw_p75 : lw_okq (⟨"MailHouse$Machine", "spawn", "()V"⟩, 15) := ⟨⟨by decide +kernel, by decide +kernel⟩, List.mem_of_getElem? (i := 456) (by decide +kernel), List.mem_of_getElem? (i := 1388) (by decide +kernel), List.mem_of_getElem? (i := 1389) (by decide +kernel)⟩
theorem lw_p76 : lw_okq (⟨"MailHouse$Machine", "wrong", "(I)V"⟩, 15) := ⟨⟨by decide +kernel, by decide +kernel⟩, List.mem_of_getElem? (i := 456) (by decide +kernel), List.mem_of_getElem? (i := 1403) (by decide +kernel), List.mem_of_getElem? (i := 1404) (by decide +kernel)⟩
theorem lw_p77 : lw_okq (⟨"MailHouse$Machine", "tell", "(IIJ)V"⟩, 15) := ⟨⟨by decide +kernel, by decide +kernel⟩, List.mem_of_getElem? (i := 456) (by decide +kernel), List.mem_of_getElem? (i := 1411) (by decide +kernel), List.mem_of_getElem? (i := 1412) (by decide +kernel)⟩
theorem lw_p78 : lw_okq (⟨"MailHouse$Machine", "entryOf", "(I)I"⟩, 15) := ⟨⟨by decide +kernel, by decide +kernel⟩, List.mem_of_getElem? (i := 456) (by decide +kernel), List.mem_of_getElem? (i := 1419) (by decide +kernel), List.mem_of_getElem? (i := 1420) (by decide +kernel)⟩
theorem lw_p79 : lw_okq (⟨"MailHouse$Process", "clearHeap", "()V"⟩, 18) := ⟨⟨by decide +kernel, by decide +kernel⟩, List.mem_of_getElem? (i := 1197) (by decide +kernel), List.mem_of_getElem? (i := 1435) (by decide +kernel), List.mem_of_getElem? (i := 1436) (by decide +kernel)⟩
def lw_privs_5 : List (MethodName × Nat) := [(⟨"MailHouse$Compiler", "funOf", "(I)V"⟩, 15), (⟨"MailHouse", "isFunction", "(I)Z"⟩, 11), (⟨"MailHouse$Terms", "write", "(I)V"⟩, 7), (⟨"MailHouse$Terms", "toWriteTuple", "([JII)I"⟩, 7), (⟨"MailHouse$Terms", "push", "(IJ)I"⟩, 7), (⟨"MailHouse$Terms", "toWritePair", "([JII)I"⟩, 7), (⟨"MailHouse$Terms", "toWriteRest", "([JI)I"⟩, 7), (⟨"MailHouse$Terms", "writeAlone", "(J)V"⟩, 7), (⟨"MailHouse$Terms", "writeNumber", "(I)V"⟩, 7), (⟨"MailHouse$Frames", "set", "(II)V"⟩, 10), (⟨"MailHouse$Machine", "predefined", "(I)V"⟩, 15), (⟨"MailHouse$Machine", "spawn", "()V"⟩, 15), (⟨"MailHouse$Machine", "wrong", "(I)V"⟩, 15), (⟨"MailHouse$Machine", "tell", "(IIJ)V"⟩, 15), (⟨"MailHouse$Machine", "entryOf", "(I)I"⟩, 15), (⟨"MailHouse$Process", "clearHeap", "()V"⟩, 18)]
theorem lw_r5 : ∀ q ∈ lw_privs_5, lw_okq q := List.forall_mem_cons.mpr ⟨lw_p64, List.forall_mem_cons.mpr ⟨lw_p65, List.forall_mem_cons.mpr ⟨lw_p66, List.forall_mem_cons.mpr ⟨lw_p67, List.forall_mem_cons.mpr ⟨lw_p68, List.forall_mem_cons.mpr ⟨lw_p69, List.forall_mem_cons.mpr ⟨lw_p70, List.forall_mem_cons.mpr ⟨lw_p71, List.forall_mem_cons.mpr ⟨lw_p72, List.forall_mem_cons.mpr ⟨lw_p73, List.forall_mem_cons.mpr ⟨lw_p74, List.forall_mem_cons.mpr ⟨lw_p75, List.forall_mem_cons.mpr ⟨lw_p76, List.forall_mem_cons.mpr ⟨lw_p77, List.forall_mem_cons.mpr ⟨lw_p78, List.forall_mem_cons.mpr ⟨lw_p79, fun _ h => absurd h List.not_mem_nil⟩⟩⟩⟩⟩⟩⟩⟩⟩⟩⟩⟩⟩⟩⟩⟩
theorem lw_p80 : lw_okq (⟨"MailHouse$Machine", "hold", "(LMailHouse$Frames;[JJ)V"⟩, 15) := ⟨⟨by decide +kernel, by decide +kernel⟩, List.mem_of_getElem? (i := 456) (by decide +kernel), List.mem_of_getElem? (i := 1446) (by decide +kernel), List.mem_of_getElem? (i := 1447) (by decide +kernel)⟩
theorem lw_p81 : lw_okq (⟨"MailHouse$Machine", "answer", "(IJ)V"⟩, 15) := ⟨⟨by decide +kernel, by decide +kernel⟩, List.mem_of_getElem? (i := 456) (by decide +kernel), List.mem_of_getElem? (i := 1483) (by decide +kernel), List.mem_of_getElem? (i := 1484) (by decide +kernel)⟩
theorem lw_p82 : lw_okq (⟨"MailHouse$Machine", "naming", "(I)V"⟩, 15) := ⟨⟨by decide +kernel, by decide +kernel⟩, List.mem_of_getElem? (i := 456) (by decide +kernel), List.mem_of_getElem? (i := 1501) (by decide +kernel), List.mem_of_getElem? (i := 1502) (by decide +kernel)⟩
theorem lw_p83 : lw_okq (⟨"MailHouse$Machine", "processAt", "(I)LMailHouse$Process;"⟩, 15) := ⟨⟨by decide +kernel, by decide +kernel⟩, List.mem_of_getElem? (i := 456) (by decide +kernel), List.mem_of_getElem? (i := 1509) (by decide +kernel), List.mem_of_getElem? (i := 1510) (by decide +kernel)⟩
theorem lw_p84 : lw_okq (⟨"MailHouse$Machine", "test", "(I)V"⟩, 15) := ⟨⟨by decide +kernel, by decide +kernel⟩, List.mem_of_getElem? (i := 456) (by decide +kernel), List.mem_of_getElem? (i := 1514) (by decide +kernel), List.mem_of_getElem? (i := 1515) (by decide +kernel)⟩
theorem lw_p85 : lw_okq (⟨"MailHouse$Machine", "part", "(IJI)V"⟩, 15) := ⟨⟨by decide +kernel, by decide +kernel⟩, List.mem_of_getElem? (i := 456) (by decide +kernel), List.mem_of_getElem? (i := 1521) (by decide +kernel), List.mem_of_getElem? (i := 1522) (by decide +kernel)⟩
theorem lw_p86 : lw_okq (⟨"MailHouse$Machine", "alone", "(I)V"⟩, 15) := ⟨⟨by decide +kernel, by decide +kernel⟩, List.mem_of_getElem? (i := 456) (by decide +kernel), List.mem_of_getElem? (i := 1529) (by decide +kernel), List.mem_of_getElem? (i := 1530) (by decide +kernel)⟩
theorem lw_p87 : lw_okq (⟨"MailHouse$World", "keepWatch", "(II)V"⟩, 17) := ⟨⟨by decide +kernel, by decide +kernel⟩, List.mem_of_getElem? (i := 384) (by decide +kernel), List.mem_of_getElem? (i := 1537) (by decide +kernel), List.mem_of_getElem? (i := 1538) (by decide +kernel)⟩
theorem lw_p88 : lw_okq (⟨"MailHouse$Machine", "toward", "(I)V"⟩, 15) := ⟨⟨by decide +kernel, by decide +kernel⟩, List.mem_of_getElem? (i := 456) (by decide +kernel), List.mem_of_getElem? (i := 1541) (by decide +kernel), List.mem_of_getElem? (i := 1542) (by decide +kernel)⟩
theorem lw_p89 : lw_okq (⟨"MailHouse$Machine", "watch", "(LMailHouse$Process;)J"⟩, 15) := ⟨⟨by decide +kernel, by decide +kernel⟩, List.mem_of_getElem? (i := 456) (by decide +kernel), List.mem_of_getElem? (i := 1575) (by decide +kernel), List.mem_of_getElem? (i := 1576) (by decide +kernel)⟩
theorem lw_p90 : lw_okq (⟨"MailHouse$Machine", "value", "(I)V"⟩, 15) := ⟨⟨by decide +kernel, by decide +kernel⟩, List.mem_of_getElem? (i := 456) (by decide +kernel), List.mem_of_getElem? (i := 1584) (by decide +kernel), List.mem_of_getElem? (i := 1585) (by decide +kernel)⟩
theorem lw_p91 : lw_okq (⟨"MailHouse$Machine", "string", "(I)V"⟩, 15) := ⟨⟨by decide +kernel, by decide +kernel⟩, List.mem_of_getElem? (i := 456) (by decide +kernel), List.mem_of_getElem? (i := 1588) (by decide +kernel), List.mem_of_getElem? (i := 1589) (by decide +kernel)⟩
theorem lw_p92 : lw_okq (⟨"MailHouse$Machine", "room", "(I)Z"⟩, 15) := ⟨⟨by decide +kernel, by decide +kernel⟩, List.mem_of_getElem? (i := 456) (by decide +kernel), List.mem_of_getElem? (i := 1592) (by decide +kernel), List.mem_of_getElem? (i := 1593) (by decide +kernel)⟩
theorem lw_p93 : lw_okq (⟨"MailHouse$Machine", "endList", "(IIJ)V"⟩, 15) := ⟨⟨by decide +kernel, by decide +kernel⟩, List.mem_of_getElem? (i := 456) (by decide +kernel), List.mem_of_getElem? (i := 1596) (by decide +kernel), List.mem_of_getElem? (i := 1597) (by decide +kernel)⟩
theorem lw_p94 : lw_okq (⟨"MailHouse$Machine", "tuple", "(I)V"⟩, 15) := ⟨⟨by decide +kernel, by decide +kernel⟩, List.mem_of_getElem? (i := 456) (by decide +kernel), List.mem_of_getElem? (i := 1604) (by decide +kernel), List.mem_of_getElem? (i := 1605) (by decide +kernel)⟩
theorem lw_p95 : lw_okq (⟨"MailHouse$Machine", "sizes", "(II)I"⟩, 15) := ⟨⟨by decide +kernel, by decide +kernel⟩, List.mem_of_getElem? (i := 456) (by decide +kernel), List.mem_of_getElem? (i := 1608) (by decide +kernel), List.mem_of_getElem? (i := 1609) (by decide +kernel)⟩
def lw_privs_6 : List (MethodName × Nat) := [(⟨"MailHouse$Machine", "hold", "(LMailHouse$Frames;[JJ)V"⟩, 15), (⟨"MailHouse$Machine", "answer", "(IJ)V"⟩, 15), (⟨"MailHouse$Machine", "naming", "(I)V"⟩, 15), (⟨"MailHouse$Machine", "processAt", "(I)LMailHouse$Process;"⟩, 15), (⟨"MailHouse$Machine", "test", "(I)V"⟩, 15), (⟨"MailHouse$Machine", "part", "(IJI)V"⟩, 15), (⟨"MailHouse$Machine", "alone", "(I)V"⟩, 15), (⟨"MailHouse$World", "keepWatch", "(II)V"⟩, 17), (⟨"MailHouse$Machine", "toward", "(I)V"⟩, 15), (⟨"MailHouse$Machine", "watch", "(LMailHouse$Process;)J"⟩, 15), (⟨"MailHouse$Machine", "value", "(I)V"⟩, 15), (⟨"MailHouse$Machine", "string", "(I)V"⟩, 15), (⟨"MailHouse$Machine", "room", "(I)Z"⟩, 15), (⟨"MailHouse$Machine", "endList", "(IIJ)V"⟩, 15), (⟨"MailHouse$Machine", "tuple", "(I)V"⟩, 15), (⟨"MailHouse$Machine", "sizes", "(II)I"⟩, 15)]
theorem lw_r6 : ∀ q ∈ lw_privs_6, lw_okq q := List.forall_mem_cons.mpr ⟨lw_p80, List.forall_mem_cons.mpr ⟨lw_p81, List.forall_mem_cons.mpr ⟨lw_p82, List.forall_mem_cons.mpr ⟨lw_p83, List.forall_mem_cons.mpr ⟨lw_p84, List.forall_mem_cons.mpr ⟨lw_p85, List.forall_mem_cons.mpr ⟨lw_p86, List.forall_mem_cons.mpr ⟨lw_p87, List.forall_mem_cons.mpr ⟨lw_p88, List.forall_mem_cons.mpr ⟨lw_p89, List.forall_mem_cons.mpr ⟨lw_p90, List.forall_mem_cons.mpr ⟨lw_p91, List.forall_mem_cons.mpr ⟨lw_p92, List.forall_mem_cons.mpr ⟨lw_p93, List.forall_mem_cons.mpr ⟨lw_p94, List.forall_mem_cons.mpr ⟨lw_p95, fun _ h => absurd h List.not_mem_nil⟩⟩⟩⟩⟩⟩⟩⟩⟩⟩⟩⟩⟩⟩⟩⟩
theorem lw_p96 : lw_okq (⟨"MailHouse$Machine", "list", "(I)V"⟩, 15) := ⟨⟨by decide +kernel, by decide +kernel⟩, List.mem_of_getElem? (i := 456) (by decide +kernel), List.mem_of_getElem? (i := 1612) (by decide +kernel), List.mem_of_getElem? (i := 1613) (by decide +kernel)⟩
theorem lw_p97 : lw_okq (⟨"MailHouse$Machine", "fun", "(I)V"⟩, 15) := ⟨⟨by decide +kernel, by decide +kernel⟩, List.mem_of_getElem? (i := 456) (by decide +kernel), List.mem_of_getElem? (i := 1616) (by decide +kernel), List.mem_of_getElem? (i := 1617) (by decide +kernel)⟩
theorem lw_p98 : lw_okq (⟨"MailHouse$Machine", "funOf", "(I)V"⟩, 15) := ⟨⟨by decide +kernel, by decide +kernel⟩, List.mem_of_getElem? (i := 456) (by decide +kernel), List.mem_of_getElem? (i := 1620) (by decide +kernel), List.mem_of_getElem? (i := 1621) (by decide +kernel)⟩
theorem lw_p99 : lw_okq (⟨"MailHouse$Terms", "orderAlone", "([JJJ)I"⟩, 7) := ⟨⟨by decide +kernel, by decide +kernel⟩, List.mem_of_getElem? (i := 354) (by decide +kernel), List.mem_of_getElem? (i := 1628) (by decide +kernel), List.mem_of_getElem? (i := 1629) (by decide +kernel)⟩
theorem lw_p100 : lw_okq (⟨"MailHouse$Machine", "arithmetic", "(I)V"⟩, 15) := ⟨⟨by decide +kernel, by decide +kernel⟩, List.mem_of_getElem? (i := 456) (by decide +kernel), List.mem_of_getElem? (i := 1645) (by decide +kernel), List.mem_of_getElem? (i := 1646) (by decide +kernel)⟩
theorem lw_p101 : lw_okq (⟨"MailHouse$Machine", "number", "(IJI)V"⟩, 15) := ⟨⟨by decide +kernel, by decide +kernel⟩, List.mem_of_getElem? (i := 456) (by decide +kernel), List.mem_of_getElem? (i := 1649) (by decide +kernel), List.mem_of_getElem? (i := 1650) (by decide +kernel)⟩
theorem lw_p102 : lw_okq (⟨"MailHouse$Machine", "negate", "()V"⟩, 15) := ⟨⟨by decide +kernel, by decide +kernel⟩, List.mem_of_getElem? (i := 456) (by decide +kernel), List.mem_of_getElem? (i := 1653) (by decide +kernel), List.mem_of_getElem? (i := 1654) (by decide +kernel)⟩
theorem lw_p103 : lw_okq (⟨"MailHouse$Machine", "not", "()V"⟩, 15) := ⟨⟨by decide +kernel, by decide +kernel⟩, List.mem_of_getElem? (i := 456) (by decide +kernel), List.mem_of_getElem? (i := 1657) (by decide +kernel), List.mem_of_getElem? (i := 1658) (by decide +kernel)⟩
theorem lw_p104 : lw_okq (⟨"MailHouse$Machine", "hinge", "(ZI)V"⟩, 15) := ⟨⟨by decide +kernel, by decide +kernel⟩, List.mem_of_getElem? (i := 456) (by decide +kernel), List.mem_of_getElem? (i := 1661) (by decide +kernel), List.mem_of_getElem? (i := 1662) (by decide +kernel)⟩
theorem lw_p105 : lw_okq (⟨"MailHouse$Machine", "sendTo", "()V"⟩, 15) := ⟨⟨by decide +kernel, by decide +kernel⟩, List.mem_of_getElem? (i := 456) (by decide +kernel), List.mem_of_getElem? (i := 1669) (by decide +kernel), List.mem_of_getElem? (i := 1670) (by decide +kernel)⟩
theorem lw_p106 : lw_okq (⟨"MailHouse$Machine", "join", "()V"⟩, 15) := ⟨⟨by decide +kernel, by decide +kernel⟩, List.mem_of_getElem? (i := 456) (by decide +kernel), List.mem_of_getElem? (i := 1673) (by decide +kernel), List.mem_of_getElem? (i := 1674) (by decide +kernel)⟩
theorem lw_p107 : lw_okq (⟨"MailHouse$Machine", "without", "()V"⟩, 15) := ⟨⟨by decide +kernel, by decide +kernel⟩, List.mem_of_getElem? (i := 456) (by decide +kernel), List.mem_of_getElem? (i := 1677) (by decide +kernel), List.mem_of_getElem? (i := 1678) (by decide +kernel)⟩
theorem lw_p108 : lw_okq (⟨"MailHouse$Machine", "markGone", "(I)I"⟩, 15) := ⟨⟨by decide +kernel, by decide +kernel⟩, List.mem_of_getElem? (i := 456) (by decide +kernel), List.mem_of_getElem? (i := 1681) (by decide +kernel), List.mem_of_getElem? (i := 1682) (by decide +kernel)⟩
theorem lw_p109 : lw_okq (⟨"MailHouse$Machine", "flow", "(I)V"⟩, 15) := ⟨⟨by decide +kernel, by decide +kernel⟩, List.mem_of_getElem? (i := 456) (by decide +kernel), List.mem_of_getElem? (i := 1686) (by decide +kernel), List.mem_of_getElem? (i := 1687) (by decide +kernel)⟩
theorem lw_p110 : lw_okq (⟨"MailHouse$Machine", "tries", "(I)V"⟩, 15) := ⟨⟨by decide +kernel, by decide +kernel⟩, List.mem_of_getElem? (i := 456) (by decide +kernel), List.mem_of_getElem? (i := 1690) (by decide +kernel), List.mem_of_getElem? (i := 1691) (by decide +kernel)⟩
theorem lw_p111 : lw_okq (⟨"MailHouse$Machine", "fit", "(II)I"⟩, 15) := ⟨⟨by decide +kernel, by decide +kernel⟩, List.mem_of_getElem? (i := 456) (by decide +kernel), List.mem_of_getElem? (i := 1694) (by decide +kernel), List.mem_of_getElem? (i := 1695) (by decide +kernel)⟩
def lw_privs_7 : List (MethodName × Nat) := [(⟨"MailHouse$Machine", "list", "(I)V"⟩, 15), (⟨"MailHouse$Machine", "fun", "(I)V"⟩, 15), (⟨"MailHouse$Machine", "funOf", "(I)V"⟩, 15), (⟨"MailHouse$Terms", "orderAlone", "([JJJ)I"⟩, 7), (⟨"MailHouse$Machine", "arithmetic", "(I)V"⟩, 15), (⟨"MailHouse$Machine", "number", "(IJI)V"⟩, 15), (⟨"MailHouse$Machine", "negate", "()V"⟩, 15), (⟨"MailHouse$Machine", "not", "()V"⟩, 15), (⟨"MailHouse$Machine", "hinge", "(ZI)V"⟩, 15), (⟨"MailHouse$Machine", "sendTo", "()V"⟩, 15), (⟨"MailHouse$Machine", "join", "()V"⟩, 15), (⟨"MailHouse$Machine", "without", "()V"⟩, 15), (⟨"MailHouse$Machine", "markGone", "(I)I"⟩, 15), (⟨"MailHouse$Machine", "flow", "(I)V"⟩, 15), (⟨"MailHouse$Machine", "tries", "(I)V"⟩, 15), (⟨"MailHouse$Machine", "fit", "(II)I"⟩, 15)]
theorem lw_r7 : ∀ q ∈ lw_privs_7, lw_okq q := List.forall_mem_cons.mpr ⟨lw_p96, List.forall_mem_cons.mpr ⟨lw_p97, List.forall_mem_cons.mpr ⟨lw_p98, List.forall_mem_cons.mpr ⟨lw_p99, List.forall_mem_cons.mpr ⟨lw_p100, List.forall_mem_cons.mpr ⟨lw_p101, List.forall_mem_cons.mpr ⟨lw_p102, List.forall_mem_cons.mpr ⟨lw_p103, List.forall_mem_cons.mpr ⟨lw_p104, List.forall_mem_cons.mpr ⟨lw_p105, List.forall_mem_cons.mpr ⟨lw_p106, List.forall_mem_cons.mpr ⟨lw_p107, List.forall_mem_cons.mpr ⟨lw_p108, List.forall_mem_cons.mpr ⟨lw_p109, List.forall_mem_cons.mpr ⟨lw_p110, List.forall_mem_cons.mpr ⟨lw_p111, fun _ h => absurd h List.not_mem_nil⟩⟩⟩⟩⟩⟩⟩⟩⟩⟩⟩⟩⟩⟩⟩⟩
theorem lw_p112 : lw_okq (⟨"MailHouse$Machine", "fitsString", "(IJ)Z"⟩, 15) := ⟨⟨by decide +kernel, by decide +kernel⟩, List.mem_of_getElem? (i := 456) (by decide +kernel), List.mem_of_getElem? (i := 1698) (by decide +kernel), List.mem_of_getElem? (i := 1699) (by decide +kernel)⟩
theorem lw_p113 : lw_okq (⟨"MailHouse$Machine", "match", "()V"⟩, 15) := ⟨⟨by decide +kernel, by decide +kernel⟩, List.mem_of_getElem? (i := 456) (by decide +kernel), List.mem_of_getElem? (i := 1702) (by decide +kernel), List.mem_of_getElem? (i := 1703) (by decide +kernel)⟩
theorem lw_p114 : lw_okq (⟨"MailHouse$Machine", "guardFails", "()V"⟩, 15) := ⟨⟨by decide +kernel, by decide +kernel⟩, List.mem_of_getElem? (i := 456) (by decide +kernel), List.mem_of_getElem? (i := 1706) (by decide +kernel), List.mem_of_getElem? (i := 1707) (by decide +kernel)⟩
theorem lw_p115 : lw_okq (⟨"MailHouse$Machine", "call", "(IZ)V"⟩, 15) := ⟨⟨by decide +kernel, by decide +kernel⟩, List.mem_of_getElem? (i := 456) (by decide +kernel), List.mem_of_getElem? (i := 1714) (by decide +kernel), List.mem_of_getElem? (i := 1715) (by decide +kernel)⟩
theorem lw_p116 : lw_okq (⟨"MailHouse$Machine", "begins", "(ZI)Z"⟩, 15) := ⟨⟨by decide +kernel, by decide +kernel⟩, List.mem_of_getElem? (i := 456) (by decide +kernel), List.mem_of_getElem? (i := 1718) (by decide +kernel), List.mem_of_getElem? (i := 1719) (by decide +kernel)⟩
theorem lw_p117 : lw_okq (⟨"MailHouse$Machine", "enter", "(IIIZI)V"⟩, 15) := ⟨⟨by decide +kernel, by decide +kernel⟩, List.mem_of_getElem? (i := 456) (by decide +kernel), List.mem_of_getElem? (i := 1722) (by decide +kernel), List.mem_of_getElem? (i := 1723) (by decide +kernel)⟩
theorem lw_p118 : lw_okq (⟨"MailHouse$Machine", "apply", "(IZ)V"⟩, 15) := ⟨⟨by decide +kernel, by decide +kernel⟩, List.mem_of_getElem? (i := 456) (by decide +kernel), List.mem_of_getElem? (i := 1735) (by decide +kernel), List.mem_of_getElem? (i := 1736) (by decide +kernel)⟩
theorem lw_p119 : lw_okq (⟨"MailHouse$Machine", "waitOrLeave", "(II)V"⟩, 15) := ⟨⟨by decide +kernel, by decide +kernel⟩, List.mem_of_getElem? (i := 456) (by decide +kernel), List.mem_of_getElem? (i := 1747) (by decide +kernel), List.mem_of_getElem? (i := 1748) (by decide +kernel)⟩
theorem lw_p120 : lw_okq (⟨"MailHouse$Machine", "await", "(Z)V"⟩, 15) := ⟨⟨by decide +kernel, by decide +kernel⟩, List.mem_of_getElem? (i := 456) (by decide +kernel), List.mem_of_getElem? (i := 1751) (by decide +kernel), List.mem_of_getElem? (i := 1752) (by decide +kernel)⟩
theorem lw_p121 : lw_okq (⟨"MailHouse$Machine", "nextMessage", "(I)V"⟩, 15) := ⟨⟨by decide +kernel, by decide +kernel⟩, List.mem_of_getElem? (i := 456) (by decide +kernel), List.mem_of_getElem? (i := 1756) (by decide +kernel), List.mem_of_getElem? (i := 1757) (by decide +kernel)⟩
theorem lw_p122 : lw_okq (⟨"MailHouse$Machine", "returns", "()V"⟩, 15) := ⟨⟨by decide +kernel, by decide +kernel⟩, List.mem_of_getElem? (i := 456) (by decide +kernel), List.mem_of_getElem? (i := 1765) (by decide +kernel), List.mem_of_getElem? (i := 1766) (by decide +kernel)⟩
theorem lw_p123 : lw_okq (⟨"MailHouse$Machine", "raise", "()V"⟩, 15) := ⟨⟨by decide +kernel, by decide +kernel⟩, List.mem_of_getElem? (i := 456) (by decide +kernel), List.mem_of_getElem? (i := 1773) (by decide +kernel), List.mem_of_getElem? (i := 1774) (by decide +kernel)⟩
theorem lw_p124 : lw_okq (⟨"MailHouse$Machine", "wrap", "(I)Z"⟩, 15) := ⟨⟨by decide +kernel, by decide +kernel⟩, List.mem_of_getElem? (i := 456) (by decide +kernel), List.mem_of_getElem? (i := 1777) (by decide +kernel), List.mem_of_getElem? (i := 1778) (by decide +kernel)⟩
theorem lw_p125 : lw_okq (⟨"MailHouse$World", "tellWatchers", "(LMailHouse$Process;)V"⟩, 17) := ⟨⟨by decide +kernel, by decide +kernel⟩, List.mem_of_getElem? (i := 384) (by decide +kernel), List.mem_of_getElem? (i := 1798) (by decide +kernel), List.mem_of_getElem? (i := 1799) (by decide +kernel)⟩
theorem lw_p126 : lw_okq (⟨"MailHouseModel", "readTokens", "()V"⟩, 171) := ⟨⟨by decide +kernel, by decide +kernel⟩, List.mem_of_getElem? (i := 1828) (by decide +kernel), List.mem_of_getElem? (i := 2373) (by decide +kernel), List.mem_of_getElem? (i := 2374) (by decide +kernel)⟩
theorem lw_p127 : lw_okq (⟨"MailHouseModel", "allFirstAtoms", "()V"⟩, 171) := ⟨⟨by decide +kernel, by decide +kernel⟩, List.mem_of_getElem? (i := 1828) (by decide +kernel), List.mem_of_getElem? (i := 2377) (by decide +kernel), List.mem_of_getElem? (i := 2378) (by decide +kernel)⟩
def lw_privs_8 : List (MethodName × Nat) := [(⟨"MailHouse$Machine", "fitsString", "(IJ)Z"⟩, 15), (⟨"MailHouse$Machine", "match", "()V"⟩, 15), (⟨"MailHouse$Machine", "guardFails", "()V"⟩, 15), (⟨"MailHouse$Machine", "call", "(IZ)V"⟩, 15), (⟨"MailHouse$Machine", "begins", "(ZI)Z"⟩, 15), (⟨"MailHouse$Machine", "enter", "(IIIZI)V"⟩, 15), (⟨"MailHouse$Machine", "apply", "(IZ)V"⟩, 15), (⟨"MailHouse$Machine", "waitOrLeave", "(II)V"⟩, 15), (⟨"MailHouse$Machine", "await", "(Z)V"⟩, 15), (⟨"MailHouse$Machine", "nextMessage", "(I)V"⟩, 15), (⟨"MailHouse$Machine", "returns", "()V"⟩, 15), (⟨"MailHouse$Machine", "raise", "()V"⟩, 15), (⟨"MailHouse$Machine", "wrap", "(I)Z"⟩, 15), (⟨"MailHouse$World", "tellWatchers", "(LMailHouse$Process;)V"⟩, 17), (⟨"MailHouseModel", "readTokens", "()V"⟩, 171), (⟨"MailHouseModel", "allFirstAtoms", "()V"⟩, 171)]
theorem lw_r8 : ∀ q ∈ lw_privs_8, lw_okq q := List.forall_mem_cons.mpr ⟨lw_p112, List.forall_mem_cons.mpr ⟨lw_p113, List.forall_mem_cons.mpr ⟨lw_p114, List.forall_mem_cons.mpr ⟨lw_p115, List.forall_mem_cons.mpr ⟨lw_p116, List.forall_mem_cons.mpr ⟨lw_p117, List.forall_mem_cons.mpr ⟨lw_p118, List.forall_mem_cons.mpr ⟨lw_p119, List.forall_mem_cons.mpr ⟨lw_p120, List.forall_mem_cons.mpr ⟨lw_p121, List.forall_mem_cons.mpr ⟨lw_p122, List.forall_mem_cons.mpr ⟨lw_p123, List.forall_mem_cons.mpr ⟨lw_p124, List.forall_mem_cons.mpr ⟨lw_p125, List.forall_mem_cons.mpr ⟨lw_p126, List.forall_mem_cons.mpr ⟨lw_p127, fun _ h => absurd h List.not_mem_nil⟩⟩⟩⟩⟩⟩⟩⟩⟩⟩⟩⟩⟩⟩⟩⟩
theorem lw_p128 : lw_okq (⟨"MailHouseModel", "atom", "([BII)I"⟩, 171) := ⟨⟨by decide +kernel, by decide +kernel⟩, List.mem_of_getElem? (i := 1828) (by decide +kernel), List.mem_of_getElem? (i := 2381) (by decide +kernel), List.mem_of_getElem? (i := 2382) (by decide +kernel)⟩
theorem lw_p129 : lw_okq (⟨"MailHouseModel", "byteAt", "(I)I"⟩, 171) := ⟨⟨by decide +kernel, by decide +kernel⟩, List.mem_of_getElem? (i := 1828) (by decide +kernel), List.mem_of_getElem? (i := 2388) (by decide +kernel), List.mem_of_getElem? (i := 2389) (by decide +kernel)⟩
theorem lw_p130 : lw_okq (⟨"MailHouseModel", "wordToken", "(I)V"⟩, 171) := ⟨⟨by decide +kernel, by decide +kernel⟩, List.mem_of_getElem? (i := 1828) (by decide +kernel), List.mem_of_getElem? (i := 2398) (by decide +kernel), List.mem_of_getElem? (i := 2399) (by decide +kernel)⟩
theorem lw_p131 : lw_okq (⟨"MailHouseModel", "wordAt", "(II)I"⟩, 171) := ⟨⟨by decide +kernel, by decide +kernel⟩, List.mem_of_getElem? (i := 1828) (by decide +kernel), List.mem_of_getElem? (i := 2408) (by decide +kernel), List.mem_of_getElem? (i := 2409) (by decide +kernel)⟩
theorem lw_p132 : lw_okq (⟨"MailHouseModel", "token", "(II)V"⟩, 171) := ⟨⟨by decide +kernel, by decide +kernel⟩, List.mem_of_getElem? (i := 1828) (by decide +kernel), List.mem_of_getElem? (i := 2412) (by decide +kernel), List.mem_of_getElem? (i := 2413) (by decide +kernel)⟩
theorem lw_p133 : lw_okq (⟨"MailHouseModel", "numberToken", "()V"⟩, 171) := ⟨⟨by decide +kernel, by decide +kernel⟩, List.mem_of_getElem? (i := 1828) (by decide +kernel), List.mem_of_getElem? (i := 2416) (by decide +kernel), List.mem_of_getElem? (i := 2417) (by decide +kernel)⟩
theorem lw_p134 : lw_okq (⟨"MailHouseModel", "stringToken", "()V"⟩, 171) := ⟨⟨by decide +kernel, by decide +kernel⟩, List.mem_of_getElem? (i := 1828) (by decide +kernel), List.mem_of_getElem? (i := 2423) (by decide +kernel), List.mem_of_getElem? (i := 2424) (by decide +kernel)⟩
theorem lw_p135 : lw_okq (⟨"MailHouseModel", "signToken", "(I)V"⟩, 171) := ⟨⟨by decide +kernel, by decide +kernel⟩, List.mem_of_getElem? (i := 1828) (by decide +kernel), List.mem_of_getElem? (i := 2427) (by decide +kernel), List.mem_of_getElem? (i := 2428) (by decide +kernel)⟩
theorem lw_p136 : lw_okq (⟨"MailHouseModel", "program", "()V"⟩, 171) := ⟨⟨by decide +kernel, by decide +kernel⟩, List.mem_of_getElem? (i := 1828) (by decide +kernel), List.mem_of_getElem? (i := 2431) (by decide +kernel), List.mem_of_getElem? (i := 2432) (by decide +kernel)⟩
theorem lw_p137 : lw_okq (⟨"MailHouseModel", "function", "()V"⟩, 171) := ⟨⟨by decide +kernel, by decide +kernel⟩, List.mem_of_getElem? (i := 1828) (by decide +kernel), List.mem_of_getElem? (i := 2435) (by decide +kernel), List.mem_of_getElem? (i := 2436) (by decide +kernel)⟩
theorem lw_p138 : lw_okq (⟨"MailHouseModel", "wrong", "(I)V"⟩, 171) := ⟨⟨by decide +kernel, by decide +kernel⟩, List.mem_of_getElem? (i := 1828) (by decide +kernel), List.mem_of_getElem? (i := 2439) (by decide +kernel), List.mem_of_getElem? (i := 2440) (by decide +kernel)⟩
theorem lw_p139 : lw_okq (⟨"MailHouseModel", "clause", "(I)I"⟩, 171) := ⟨⟨by decide +kernel, by decide +kernel⟩, List.mem_of_getElem? (i := 1828) (by decide +kernel), List.mem_of_getElem? (i := 2443) (by decide +kernel), List.mem_of_getElem? (i := 2444) (by decide +kernel)⟩
theorem lw_p140 : lw_okq (⟨"MailHouseModel", "needSign", "(I)V"⟩, 171) := ⟨⟨by decide +kernel, by decide +kernel⟩, List.mem_of_getElem? (i := 1828) (by decide +kernel), List.mem_of_getElem? (i := 2447) (by decide +kernel), List.mem_of_getElem? (i := 2448) (by decide +kernel)⟩
theorem lw_p141 : lw_okq (⟨"MailHouseModel", "takeSign", "(I)Z"⟩, 171) := ⟨⟨by decide +kernel, by decide +kernel⟩, List.mem_of_getElem? (i := 1828) (by decide +kernel), List.mem_of_getElem? (i := 2451) (by decide +kernel), List.mem_of_getElem? (i := 2452) (by decide +kernel)⟩
theorem lw_p142 : lw_okq (⟨"MailHouseModel", "isSign", "(I)Z"⟩, 171) := ⟨⟨by decide +kernel, by decide +kernel⟩, List.mem_of_getElem? (i := 1828) (by decide +kernel), List.mem_of_getElem? (i := 2455) (by decide +kernel), List.mem_of_getElem? (i := 2456) (by decide +kernel)⟩
theorem lw_p143 : lw_okq (⟨"MailHouseModel", "patternAt", "(Z)I"⟩, 171) := ⟨⟨by decide +kernel, by decide +kernel⟩, List.mem_of_getElem? (i := 1828) (by decide +kernel), List.mem_of_getElem? (i := 2459) (by decide +kernel), List.mem_of_getElem? (i := 2460) (by decide +kernel)⟩
def lw_privs_9 : List (MethodName × Nat) := [(⟨"MailHouseModel", "atom", "([BII)I"⟩, 171), (⟨"MailHouseModel", "byteAt", "(I)I"⟩, 171), (⟨"MailHouseModel", "wordToken", "(I)V"⟩, 171), (⟨"MailHouseModel", "wordAt", "(II)I"⟩, 171), (⟨"MailHouseModel", "token", "(II)V"⟩, 171), (⟨"MailHouseModel", "numberToken", "()V"⟩, 171), (⟨"MailHouseModel", "stringToken", "()V"⟩, 171), (⟨"MailHouseModel", "signToken", "(I)V"⟩, 171), (⟨"MailHouseModel", "program", "()V"⟩, 171), (⟨"MailHouseModel", "function", "()V"⟩, 171), (⟨"MailHouseModel", "wrong", "(I)V"⟩, 171), (⟨"MailHouseModel", "clause", "(I)I"⟩, 171), (⟨"MailHouseModel", "needSign", "(I)V"⟩, 171), (⟨"MailHouseModel", "takeSign", "(I)Z"⟩, 171), (⟨"MailHouseModel", "isSign", "(I)Z"⟩, 171), (⟨"MailHouseModel", "patternAt", "(Z)I"⟩, 171)]
theorem lw_r9 : ∀ q ∈ lw_privs_9, lw_okq q := List.forall_mem_cons.mpr ⟨lw_p128, List.forall_mem_cons.mpr ⟨lw_p129, List.forall_mem_cons.mpr ⟨lw_p130, List.forall_mem_cons.mpr ⟨lw_p131, List.forall_mem_cons.mpr ⟨lw_p132, List.forall_mem_cons.mpr ⟨lw_p133, List.forall_mem_cons.mpr ⟨lw_p134, List.forall_mem_cons.mpr ⟨lw_p135, List.forall_mem_cons.mpr ⟨lw_p136, List.forall_mem_cons.mpr ⟨lw_p137, List.forall_mem_cons.mpr ⟨lw_p138, List.forall_mem_cons.mpr ⟨lw_p139, List.forall_mem_cons.mpr ⟨lw_p140, List.forall_mem_cons.mpr ⟨lw_p141, List.forall_mem_cons.mpr ⟨lw_p142, List.forall_mem_cons.mpr ⟨lw_p143, fun _ h => absurd h List.not_mem_nil⟩⟩⟩⟩⟩⟩⟩⟩⟩⟩⟩⟩⟩⟩⟩⟩
theorem lw_p144 : lw_okq (⟨"MailHouseModel", "opens", "()V"⟩, 171) := ⟨⟨by decide +kernel, by decide +kernel⟩, List.mem_of_getElem? (i := 1828) (by decide +kernel), List.mem_of_getElem? (i := 2463) (by decide +kernel), List.mem_of_getElem? (i := 2464) (by decide +kernel)⟩
theorem lw_p145 : lw_okq (⟨"MailHouseModel", "namePattern", "(Z)I"⟩, 171) := ⟨⟨by decide +kernel, by decide +kernel⟩, List.mem_of_getElem? (i := 1828) (by decide +kernel), List.mem_of_getElem? (i := 2467) (by decide +kernel), List.mem_of_getElem? (i := 2468) (by decide +kernel)⟩
theorem lw_p146 : lw_okq (⟨"MailHouseModel", "isUnderscore", "(I)Z"⟩, 171) := ⟨⟨by decide +kernel, by decide +kernel⟩, List.mem_of_getElem? (i := 1828) (by decide +kernel), List.mem_of_getElem? (i := 2471) (by decide +kernel), List.mem_of_getElem? (i := 2472) (by decide +kernel)⟩
theorem lw_p147 : lw_okq (⟨"MailHouseModel", "pattern", "(I)I"⟩, 171) := ⟨⟨by decide +kernel, by decide +kernel⟩, List.mem_of_getElem? (i := 1828) (by decide +kernel), List.mem_of_getElem? (i := 2475) (by decide +kernel), List.mem_of_getElem? (i := 2476) (by decide +kernel)⟩
theorem lw_p148 : lw_okq (⟨"MailHouseModel", "boundIn", "(II)I"⟩, 171) := ⟨⟨by decide +kernel, by decide +kernel⟩, List.mem_of_getElem? (i := 1828) (by decide +kernel), List.mem_of_getElem? (i := 2479) (by decide +kernel), List.mem_of_getElem? (i := 2480) (by decide +kernel)⟩
theorem lw_p149 : lw_okq (⟨"MailHouseModel", "found", "(II)I"⟩, 171) := ⟨⟨by decide +kernel, by decide +kernel⟩, List.mem_of_getElem? (i := 1828) (by decide +kernel), List.mem_of_getElem? (i := 2483) (by decide +kernel), List.mem_of_getElem? (i := 2484) (by decide +kernel)⟩
theorem lw_p150 : lw_okq (⟨"MailHouseModel", "bind", "(I)I"⟩, 171) := ⟨⟨by decide +kernel, by decide +kernel⟩, List.mem_of_getElem? (i := 1828) (by decide +kernel), List.mem_of_getElem? (i := 2487) (by decide +kernel), List.mem_of_getElem? (i := 2488) (by decide +kernel)⟩
theorem lw_p151 : lw_okq (⟨"MailHouseModel", "rowPattern", "(Z)I"⟩, 171) := ⟨⟨by decide +kernel, by decide +kernel⟩, List.mem_of_getElem? (i := 1828) (by decide +kernel), List.mem_of_getElem? (i := 2491) (by decide +kernel), List.mem_of_getElem? (i := 2492) (by decide +kernel)⟩
theorem lw_p152 : lw_okq (⟨"MailHouseModel", "guard", "()I"⟩, 171) := ⟨⟨by decide +kernel, by decide +kernel⟩, List.mem_of_getElem? (i := 1828) (by decide +kernel), List.mem_of_getElem? (i := 2495) (by decide +kernel), List.mem_of_getElem? (i := 2496) (by decide +kernel)⟩
theorem lw_p153 : lw_okq (⟨"MailHouseModel", "takeWord", "(I)Z"⟩, 171) := ⟨⟨by decide +kernel, by decide +kernel⟩, List.mem_of_getElem? (i := 1828) (by decide +kernel), List.mem_of_getElem? (i := 2499) (by decide +kernel), List.mem_of_getElem? (i := 2500) (by decide +kernel)⟩
theorem lw_p154 : lw_okq (⟨"MailHouseModel", "isWord", "(I)Z"⟩, 171) := ⟨⟨by decide +kernel, by decide +kernel⟩, List.mem_of_getElem? (i := 1828) (by decide +kernel), List.mem_of_getElem? (i := 2503) (by decide +kernel), List.mem_of_getElem? (i := 2504) (by decide +kernel)⟩
theorem lw_p155 : lw_okq (⟨"MailHouseModel", "guardCode", "()I"⟩, 171) := ⟨⟨by decide +kernel, by decide +kernel⟩, List.mem_of_getElem? (i := 1828) (by decide +kernel), List.mem_of_getElem? (i := 2507) (by decide +kernel), List.mem_of_getElem? (i := 2508) (by decide +kernel)⟩
theorem lw_p156 : lw_okq (⟨"MailHouseModel", "expression", "()I"⟩, 171) := ⟨⟨by decide +kernel, by decide +kernel⟩, List.mem_of_getElem? (i := 1828) (by decide +kernel), List.mem_of_getElem? (i := 2511) (by decide +kernel), List.mem_of_getElem? (i := 2512) (by decide +kernel)⟩
theorem lw_p157 : lw_okq (⟨"MailHouseModel", "beginsUnit", "()Z"⟩, 171) := ⟨⟨by decide +kernel, by decide +kernel⟩, List.mem_of_getElem? (i := 1828) (by decide +kernel), List.mem_of_getElem? (i := 2515) (by decide +kernel), List.mem_of_getElem? (i := 2516) (by decide +kernel)⟩
theorem lw_p158 : lw_okq (⟨"MailHouseModel", "rule", "(II)V"⟩, 171) := ⟨⟨by decide +kernel, by decide +kernel⟩, List.mem_of_getElem? (i := 1828) (by decide +kernel), List.mem_of_getElem? (i := 2519) (by decide +kernel), List.mem_of_getElem? (i := 2520) (by decide +kernel)⟩
theorem lw_p159 : lw_okq (⟨"MailHouseModel", "node", "(II)I"⟩, 171) := ⟨⟨by decide +kernel, by decide +kernel⟩, List.mem_of_getElem? (i := 1828) (by decide +kernel), List.mem_of_getElem? (i := 2523) (by decide +kernel), List.mem_of_getElem? (i := 2524) (by decide +kernel)⟩
def lw_privs_10 : List (MethodName × Nat) := [(⟨"MailHouseModel", "opens", "()V"⟩, 171), (⟨"MailHouseModel", "namePattern", "(Z)I"⟩, 171), (⟨"MailHouseModel", "isUnderscore", "(I)Z"⟩, 171), (⟨"MailHouseModel", "pattern", "(I)I"⟩, 171), (⟨"MailHouseModel", "boundIn", "(II)I"⟩, 171), (⟨"MailHouseModel", "found", "(II)I"⟩, 171), (⟨"MailHouseModel", "bind", "(I)I"⟩, 171), (⟨"MailHouseModel", "rowPattern", "(Z)I"⟩, 171), (⟨"MailHouseModel", "guard", "()I"⟩, 171), (⟨"MailHouseModel", "takeWord", "(I)Z"⟩, 171), (⟨"MailHouseModel", "isWord", "(I)Z"⟩, 171), (⟨"MailHouseModel", "guardCode", "()I"⟩, 171), (⟨"MailHouseModel", "expression", "()I"⟩, 171), (⟨"MailHouseModel", "beginsUnit", "()Z"⟩, 171), (⟨"MailHouseModel", "rule", "(II)V"⟩, 171), (⟨"MailHouseModel", "node", "(II)I"⟩, 171)]
theorem lw_r10 : ∀ q ∈ lw_privs_10, lw_okq q := List.forall_mem_cons.mpr ⟨lw_p144, List.forall_mem_cons.mpr ⟨lw_p145, List.forall_mem_cons.mpr ⟨lw_p146, List.forall_mem_cons.mpr ⟨lw_p147, List.forall_mem_cons.mpr ⟨lw_p148, List.forall_mem_cons.mpr ⟨lw_p149, List.forall_mem_cons.mpr ⟨lw_p150, List.forall_mem_cons.mpr ⟨lw_p151, List.forall_mem_cons.mpr ⟨lw_p152, List.forall_mem_cons.mpr ⟨lw_p153, List.forall_mem_cons.mpr ⟨lw_p154, List.forall_mem_cons.mpr ⟨lw_p155, List.forall_mem_cons.mpr ⟨lw_p156, List.forall_mem_cons.mpr ⟨lw_p157, List.forall_mem_cons.mpr ⟨lw_p158, List.forall_mem_cons.mpr ⟨lw_p159, fun _ h => absurd h List.not_mem_nil⟩⟩⟩⟩⟩⟩⟩⟩⟩⟩⟩⟩⟩⟩⟩⟩
theorem lw_p160 : lw_okq (⟨"MailHouseModel", "unbind", "(I)V"⟩, 171) := ⟨⟨by decide +kernel, by decide +kernel⟩, List.mem_of_getElem? (i := 1828) (by decide +kernel), List.mem_of_getElem? (i := 2527) (by decide +kernel), List.mem_of_getElem? (i := 2528) (by decide +kernel)⟩
theorem lw_p161 : lw_okq (⟨"MailHouseModel", "simple", "()I"⟩, 171) := ⟨⟨by decide +kernel, by decide +kernel⟩, List.mem_of_getElem? (i := 1828) (by decide +kernel), List.mem_of_getElem? (i := 2531) (by decide +kernel), List.mem_of_getElem? (i := 2532) (by decide +kernel)⟩
theorem lw_p162 : lw_okq (⟨"MailHouseModel", "save", "()V"⟩, 171) := ⟨⟨by decide +kernel, by decide +kernel⟩, List.mem_of_getElem? (i := 1828) (by decide +kernel), List.mem_of_getElem? (i := 2535) (by decide +kernel), List.mem_of_getElem? (i := 2536) (by decide +kernel)⟩
theorem lw_p163 : lw_okq (⟨"MailHouseModel", "worked", "()I"⟩, 171) := ⟨⟨by decide +kernel, by decide +kernel⟩, List.mem_of_getElem? (i := 1828) (by decide +kernel), List.mem_of_getElem? (i := 2539) (by decide +kernel), List.mem_of_getElem? (i := 2540) (by decide +kernel)⟩
theorem lw_p164 : lw_okq (⟨"MailHouseModel", "primary", "()I"⟩, 171) := ⟨⟨by decide +kernel, by decide +kernel⟩, List.mem_of_getElem? (i := 1828) (by decide +kernel), List.mem_of_getElem? (i := 2543) (by decide +kernel), List.mem_of_getElem? (i := 2544) (by decide +kernel)⟩
theorem lw_p165 : lw_okq (⟨"MailHouseModel", "arguments", "()V"⟩, 171) := ⟨⟨by decide +kernel, by decide +kernel⟩, List.mem_of_getElem? (i := 1828) (by decide +kernel), List.mem_of_getElem? (i := 2547) (by decide +kernel), List.mem_of_getElem? (i := 2548) (by decide +kernel)⟩
theorem lw_p166 : lw_okq (⟨"MailHouseModel", "alone", "(I)I"⟩, 171) := ⟨⟨by decide +kernel, by decide +kernel⟩, List.mem_of_getElem? (i := 1828) (by decide +kernel), List.mem_of_getElem? (i := 2551) (by decide +kernel), List.mem_of_getElem? (i := 2552) (by decide +kernel)⟩
theorem lw_p167 : lw_okq (⟨"MailHouseModel", "row", "(I)I"⟩, 171) := ⟨⟨by decide +kernel, by decide +kernel⟩, List.mem_of_getElem? (i := 1828) (by decide +kernel), List.mem_of_getElem? (i := 2555) (by decide +kernel), List.mem_of_getElem? (i := 2556) (by decide +kernel)⟩
theorem lw_p168 : lw_okq (⟨"MailHouseModel", "fun", "(I)I"⟩, 171) := ⟨⟨by decide +kernel, by decide +kernel⟩, List.mem_of_getElem? (i := 1828) (by decide +kernel), List.mem_of_getElem? (i := 2559) (by decide +kernel), List.mem_of_getElem? (i := 2560) (by decide +kernel)⟩
theorem lw_p169 : lw_okq (⟨"MailHouseModel", "needWord", "(I)V"⟩, 171) := ⟨⟨by decide +kernel, by decide +kernel⟩, List.mem_of_getElem? (i := 1828) (by decide +kernel), List.mem_of_getElem? (i := 2563) (by decide +kernel), List.mem_of_getElem? (i := 2564) (by decide +kernel)⟩
theorem lw_p170 : lw_okq (⟨"MailHouseModel", "block", "(I)I"⟩, 171) := ⟨⟨by decide +kernel, by decide +kernel⟩, List.mem_of_getElem? (i := 1828) (by decide +kernel), List.mem_of_getElem? (i := 2567) (by decide +kernel), List.mem_of_getElem? (i := 2568) (by decide +kernel)⟩
theorem lw_p171 : lw_okq (⟨"MailHouseModel", "body", "()I"⟩, 171) := ⟨⟨by decide +kernel, by decide +kernel⟩, List.mem_of_getElem? (i := 1828) (by decide +kernel), List.mem_of_getElem? (i := 2571) (by decide +kernel), List.mem_of_getElem? (i := 2572) (by decide +kernel)⟩
theorem lw_p172 : lw_okq (⟨"MailHouseModel", "addRoot", "(II)V"⟩, 171) := ⟨⟨by decide +kernel, by decide +kernel⟩, List.mem_of_getElem? (i := 1828) (by decide +kernel), List.mem_of_getElem? (i := 2575) (by decide +kernel), List.mem_of_getElem? (i := 2576) (by decide +kernel)⟩
theorem lw_p173 : lw_okq (⟨"MailHouseModel", "receive", "(II)I"⟩, 171) := ⟨⟨by decide +kernel, by decide +kernel⟩, List.mem_of_getElem? (i := 1828) (by decide +kernel), List.mem_of_getElem? (i := 2579) (by decide +kernel), List.mem_of_getElem? (i := 2580) (by decide +kernel)⟩
theorem lw_p174 : lw_okq (⟨"MailHouseModel", "parts", "(ZI)I"⟩, 171) := ⟨⟨by decide +kernel, by decide +kernel⟩, List.mem_of_getElem? (i := 1828) (by decide +kernel), List.mem_of_getElem? (i := 2583) (by decide +kernel), List.mem_of_getElem? (i := 2584) (by decide +kernel)⟩
theorem lw_p175 : lw_okq (⟨"MailHouseModel", "level", "()I"⟩, 171) := ⟨⟨by decide +kernel, by decide +kernel⟩, List.mem_of_getElem? (i := 1828) (by decide +kernel), List.mem_of_getElem? (i := 2587) (by decide +kernel), List.mem_of_getElem? (i := 2588) (by decide +kernel)⟩
def lw_privs_11 : List (MethodName × Nat) := [(⟨"MailHouseModel", "unbind", "(I)V"⟩, 171), (⟨"MailHouseModel", "simple", "()I"⟩, 171), (⟨"MailHouseModel", "save", "()V"⟩, 171), (⟨"MailHouseModel", "worked", "()I"⟩, 171), (⟨"MailHouseModel", "primary", "()I"⟩, 171), (⟨"MailHouseModel", "arguments", "()V"⟩, 171), (⟨"MailHouseModel", "alone", "(I)I"⟩, 171), (⟨"MailHouseModel", "row", "(I)I"⟩, 171), (⟨"MailHouseModel", "fun", "(I)I"⟩, 171), (⟨"MailHouseModel", "needWord", "(I)V"⟩, 171), (⟨"MailHouseModel", "block", "(I)I"⟩, 171), (⟨"MailHouseModel", "body", "()I"⟩, 171), (⟨"MailHouseModel", "addRoot", "(II)V"⟩, 171), (⟨"MailHouseModel", "receive", "(II)I"⟩, 171), (⟨"MailHouseModel", "parts", "(ZI)I"⟩, 171), (⟨"MailHouseModel", "level", "()I"⟩, 171)]
theorem lw_r11 : ∀ q ∈ lw_privs_11, lw_okq q := List.forall_mem_cons.mpr ⟨lw_p160, List.forall_mem_cons.mpr ⟨lw_p161, List.forall_mem_cons.mpr ⟨lw_p162, List.forall_mem_cons.mpr ⟨lw_p163, List.forall_mem_cons.mpr ⟨lw_p164, List.forall_mem_cons.mpr ⟨lw_p165, List.forall_mem_cons.mpr ⟨lw_p166, List.forall_mem_cons.mpr ⟨lw_p167, List.forall_mem_cons.mpr ⟨lw_p168, List.forall_mem_cons.mpr ⟨lw_p169, List.forall_mem_cons.mpr ⟨lw_p170, List.forall_mem_cons.mpr ⟨lw_p171, List.forall_mem_cons.mpr ⟨lw_p172, List.forall_mem_cons.mpr ⟨lw_p173, List.forall_mem_cons.mpr ⟨lw_p174, List.forall_mem_cons.mpr ⟨lw_p175, fun _ h => absurd h List.not_mem_nil⟩⟩⟩⟩⟩⟩⟩⟩⟩⟩⟩⟩⟩⟩⟩⟩
theorem lw_p176 : lw_okq (⟨"MailHouseModel", "reduce", "(III)I"⟩, 171) := ⟨⟨by decide +kernel, by decide +kernel⟩, List.mem_of_getElem? (i := 1828) (by decide +kernel), List.mem_of_getElem? (i := 2591) (by decide +kernel), List.mem_of_getElem? (i := 2592) (by decide +kernel)⟩
theorem lw_p177 : lw_okq (⟨"MailHouseModel", "matched", "(I)I"⟩, 171) := ⟨⟨by decide +kernel, by decide +kernel⟩, List.mem_of_getElem? (i := 1828) (by decide +kernel), List.mem_of_getElem? (i := 2595) (by decide +kernel), List.mem_of_getElem? (i := 2596) (by decide +kernel)⟩
theorem lw_p178 : lw_okq (⟨"MailHouseModel", "takeBack", "()V"⟩, 171) := ⟨⟨by decide +kernel, by decide +kernel⟩, List.mem_of_getElem? (i := 1828) (by decide +kernel), List.mem_of_getElem? (i := 2599) (by decide +kernel), List.mem_of_getElem? (i := 2600) (by decide +kernel)⟩
theorem lw_p179 : lw_okq (⟨"MailHouseModel", "behind", "()I"⟩, 171) := ⟨⟨by decide +kernel, by decide +kernel⟩, List.mem_of_getElem? (i := 1828) (by decide +kernel), List.mem_of_getElem? (i := 2603) (by decide +kernel), List.mem_of_getElem? (i := 2604) (by decide +kernel)⟩
theorem lw_p180 : lw_okq (⟨"MailHouseModel", "forgetSaved", "()V"⟩, 171) := ⟨⟨by decide +kernel, by decide +kernel⟩, List.mem_of_getElem? (i := 1828) (by decide +kernel), List.mem_of_getElem? (i := 2607) (by decide +kernel), List.mem_of_getElem? (i := 2608) (by decide +kernel)⟩
theorem lw_p181 : lw_okq (⟨"MailHouseModel", "last", "(I)V"⟩, 171) := ⟨⟨by decide +kernel, by decide +kernel⟩, List.mem_of_getElem? (i := 1828) (by decide +kernel), List.mem_of_getElem? (i := 2611) (by decide +kernel), List.mem_of_getElem? (i := 2612) (by decide +kernel)⟩
theorem lw_p182 : lw_okq (⟨"MailHouseModel", "predefinedOf", "(II)I"⟩, 171) := ⟨⟨by decide +kernel, by decide +kernel⟩, List.mem_of_getElem? (i := 1828) (by decide +kernel), List.mem_of_getElem? (i := 2615) (by decide +kernel), List.mem_of_getElem? (i := 2616) (by decide +kernel)⟩
theorem lw_p183 : lw_okq (⟨"MailHouseModel", "calls", "()V"⟩, 171) := ⟨⟨by decide +kernel, by decide +kernel⟩, List.mem_of_getElem? (i := 1828) (by decide +kernel), List.mem_of_getElem? (i := 2619) (by decide +kernel), List.mem_of_getElem? (i := 2620) (by decide +kernel)⟩
theorem lw_p184 : lw_okq (⟨"MailHouseModel", "functionOf", "(II)I"⟩, 171) := ⟨⟨by decide +kernel, by decide +kernel⟩, List.mem_of_getElem? (i := 1828) (by decide +kernel), List.mem_of_getElem? (i := 2623) (by decide +kernel), List.mem_of_getElem? (i := 2624) (by decide +kernel)⟩
theorem lw_p185 : lw_okq (⟨"MailHouseModel", "isProcess", "(I)Z"⟩, 171) := ⟨⟨by decide +kernel, by decide +kernel⟩, List.mem_of_getElem? (i := 1828) (by decide +kernel), List.mem_of_getElem? (i := 2639) (by decide +kernel), List.mem_of_getElem? (i := 2640) (by decide +kernel)⟩
theorem lw_p186 : lw_okq (⟨"MailHouseModel", "mayGo", "(I)Z"⟩, 171) := ⟨⟨by decide +kernel, by decide +kernel⟩, List.mem_of_getElem? (i := 1828) (by decide +kernel), List.mem_of_getElem? (i := 2643) (by decide +kernel), List.mem_of_getElem? (i := 2644) (by decide +kernel)⟩
theorem lw_p187 : lw_okq (⟨"MailHouseModel", "frame", "()I"⟩, 171) := ⟨⟨by decide +kernel, by decide +kernel⟩, List.mem_of_getElem? (i := 1828) (by decide +kernel), List.mem_of_getElem? (i := 2647) (by decide +kernel), List.mem_of_getElem? (i := 2648) (by decide +kernel)⟩
theorem lw_p188 : lw_okq (⟨"MailHouseModel", "clausesOf", "(I)V"⟩, 171) := ⟨⟨by decide +kernel, by decide +kernel⟩, List.mem_of_getElem? (i := 1828) (by decide +kernel), List.mem_of_getElem? (i := 2651) (by decide +kernel), List.mem_of_getElem? (i := 2652) (by decide +kernel)⟩
theorem lw_p189 : lw_okq (⟨"MailHouseModel", "tryFrom", "(III)V"⟩, 171) := ⟨⟨by decide +kernel, by decide +kernel⟩, List.mem_of_getElem? (i := 1828) (by decide +kernel), List.mem_of_getElem? (i := 2655) (by decide +kernel), List.mem_of_getElem? (i := 2656) (by decide +kernel)⟩
theorem lw_p190 : lw_okq (⟨"MailHouseModel", "choose", "()V"⟩, 171) := ⟨⟨by decide +kernel, by decide +kernel⟩, List.mem_of_getElem? (i := 1828) (by decide +kernel), List.mem_of_getElem? (i := 2659) (by decide +kernel), List.mem_of_getElem? (i := 2660) (by decide +kernel)⟩
theorem lw_p191 : lw_okq (⟨"MailHouseModel", "nonePart", "()Z"⟩, 171) := ⟨⟨by decide +kernel, by decide +kernel⟩, List.mem_of_getElem? (i := 1828) (by decide +kernel), List.mem_of_getElem? (i := 2663) (by decide +kernel), List.mem_of_getElem? (i := 2664) (by decide +kernel)⟩
def lw_privs_12 : List (MethodName × Nat) := [(⟨"MailHouseModel", "reduce", "(III)I"⟩, 171), (⟨"MailHouseModel", "matched", "(I)I"⟩, 171), (⟨"MailHouseModel", "takeBack", "()V"⟩, 171), (⟨"MailHouseModel", "behind", "()I"⟩, 171), (⟨"MailHouseModel", "forgetSaved", "()V"⟩, 171), (⟨"MailHouseModel", "last", "(I)V"⟩, 171), (⟨"MailHouseModel", "predefinedOf", "(II)I"⟩, 171), (⟨"MailHouseModel", "calls", "()V"⟩, 171), (⟨"MailHouseModel", "functionOf", "(II)I"⟩, 171), (⟨"MailHouseModel", "isProcess", "(I)Z"⟩, 171), (⟨"MailHouseModel", "mayGo", "(I)Z"⟩, 171), (⟨"MailHouseModel", "frame", "()I"⟩, 171), (⟨"MailHouseModel", "clausesOf", "(I)V"⟩, 171), (⟨"MailHouseModel", "tryFrom", "(III)V"⟩, 171), (⟨"MailHouseModel", "choose", "()V"⟩, 171), (⟨"MailHouseModel", "nonePart", "()Z"⟩, 171)]
theorem lw_r12 : ∀ q ∈ lw_privs_12, lw_okq q := List.forall_mem_cons.mpr ⟨lw_p176, List.forall_mem_cons.mpr ⟨lw_p177, List.forall_mem_cons.mpr ⟨lw_p178, List.forall_mem_cons.mpr ⟨lw_p179, List.forall_mem_cons.mpr ⟨lw_p180, List.forall_mem_cons.mpr ⟨lw_p181, List.forall_mem_cons.mpr ⟨lw_p182, List.forall_mem_cons.mpr ⟨lw_p183, List.forall_mem_cons.mpr ⟨lw_p184, List.forall_mem_cons.mpr ⟨lw_p185, List.forall_mem_cons.mpr ⟨lw_p186, List.forall_mem_cons.mpr ⟨lw_p187, List.forall_mem_cons.mpr ⟨lw_p188, List.forall_mem_cons.mpr ⟨lw_p189, List.forall_mem_cons.mpr ⟨lw_p190, List.forall_mem_cons.mpr ⟨lw_p191, fun _ h => absurd h List.not_mem_nil⟩⟩⟩⟩⟩⟩⟩⟩⟩⟩⟩⟩⟩⟩⟩⟩
theorem lw_p192 : lw_okq (⟨"MailHouseModel", "afterMessages", "()V"⟩, 171) := ⟨⟨by decide +kernel, by decide +kernel⟩, List.mem_of_getElem? (i := 1828) (by decide +kernel), List.mem_of_getElem? (i := 2667) (by decide +kernel), List.mem_of_getElem? (i := 2668) (by decide +kernel)⟩
theorem lw_p193 : lw_okq (⟨"MailHouseModel", "goTo", "(I)V"⟩, 171) := ⟨⟨by decide +kernel, by decide +kernel⟩, List.mem_of_getElem? (i := 1828) (by decide +kernel), List.mem_of_getElem? (i := 2671) (by decide +kernel), List.mem_of_getElem? (i := 2672) (by decide +kernel)⟩
theorem lw_p194 : lw_okq (⟨"MailHouseModel", "top", "(I)J"⟩, 171) := ⟨⟨by decide +kernel, by decide +kernel⟩, List.mem_of_getElem? (i := 1828) (by decide +kernel), List.mem_of_getElem? (i := 2675) (by decide +kernel), List.mem_of_getElem? (i := 2676) (by decide +kernel)⟩
theorem lw_p195 : lw_okq (⟨"MailHouseModel", "errorOf", "(IJ)V"⟩, 171) := ⟨⟨by decide +kernel, by decide +kernel⟩, List.mem_of_getElem? (i := 1828) (by decide +kernel), List.mem_of_getElem? (i := 2680) (by decide +kernel), List.mem_of_getElem? (i := 2681) (by decide +kernel)⟩
theorem lw_p196 : lw_okq (⟨"MailHouseModel", "guardFails", "()V"⟩, 171) := ⟨⟨by decide +kernel, by decide +kernel⟩, List.mem_of_getElem? (i := 1828) (by decide +kernel), List.mem_of_getElem? (i := 2684) (by decide +kernel), List.mem_of_getElem? (i := 2685) (by decide +kernel)⟩
theorem lw_p197 : lw_okq (⟨"MailHouseModel", "hand", "(IJ)V"⟩, 171) := ⟨⟨by decide +kernel, by decide +kernel⟩, List.mem_of_getElem? (i := 1828) (by decide +kernel), List.mem_of_getElem? (i := 2688) (by decide +kernel), List.mem_of_getElem? (i := 2689) (by decide +kernel)⟩
theorem lw_p198 : lw_okq (⟨"MailHouseModel", "wants", "(II)Z"⟩, 171) := ⟨⟨by decide +kernel, by decide +kernel⟩, List.mem_of_getElem? (i := 1828) (by decide +kernel), List.mem_of_getElem? (i := 2692) (by decide +kernel), List.mem_of_getElem? (i := 2693) (by decide +kernel)⟩
theorem lw_p199 : lw_okq (⟨"MailHouseModel", "clear", "(I)V"⟩, 171) := ⟨⟨by decide +kernel, by decide +kernel⟩, List.mem_of_getElem? (i := 1828) (by decide +kernel), List.mem_of_getElem? (i := 2696) (by decide +kernel), List.mem_of_getElem? (i := 2697) (by decide +kernel)⟩
theorem lw_p200 : lw_okq (⟨"MailHouseModel", "carried", "(IJ)J"⟩, 171) := ⟨⟨by decide +kernel, by decide +kernel⟩, List.mem_of_getElem? (i := 1828) (by decide +kernel), List.mem_of_getElem? (i := 2700) (by decide +kernel), List.mem_of_getElem? (i := 2701) (by decide +kernel)⟩
theorem lw_p201 : lw_okq (⟨"MailHouseModel", "sizeOf", "(IJ)I"⟩, 171) := ⟨⟨by decide +kernel, by decide +kernel⟩, List.mem_of_getElem? (i := 1828) (by decide +kernel), List.mem_of_getElem? (i := 2713) (by decide +kernel), List.mem_of_getElem? (i := 2714) (by decide +kernel)⟩
theorem lw_p202 : lw_okq (⟨"MailHouseModel", "cell", "(II)J"⟩, 171) := ⟨⟨by decide +kernel, by decide +kernel⟩, List.mem_of_getElem? (i := 1828) (by decide +kernel), List.mem_of_getElem? (i := 2717) (by decide +kernel), List.mem_of_getElem? (i := 2718) (by decide +kernel)⟩
theorem lw_p203 : lw_okq (⟨"MailHouseModel", "handNone", "()V"⟩, 171) := ⟨⟨by decide +kernel, by decide +kernel⟩, List.mem_of_getElem? (i := 1828) (by decide +kernel), List.mem_of_getElem? (i := 2725) (by decide +kernel), List.mem_of_getElem? (i := 2726) (by decide +kernel)⟩
theorem lw_p204 : lw_okq (⟨"MailHouseModel", "two", "(IJ)J"⟩, 171) := ⟨⟨by decide +kernel, by decide +kernel⟩, List.mem_of_getElem? (i := 1828) (by decide +kernel), List.mem_of_getElem? (i := 2729) (by decide +kernel), List.mem_of_getElem? (i := 2730) (by decide +kernel)⟩
theorem lw_p205 : lw_okq (⟨"MailHouseModel", "goesUp", "(IJ)V"⟩, 171) := ⟨⟨by decide +kernel, by decide +kernel⟩, List.mem_of_getElem? (i := 1828) (by decide +kernel), List.mem_of_getElem? (i := 2734) (by decide +kernel), List.mem_of_getElem? (i := 2735) (by decide +kernel)⟩
theorem lw_p206 : lw_okq (⟨"MailHouseModel", "ends", "(IJ)V"⟩, 171) := ⟨⟨by decide +kernel, by decide +kernel⟩, List.mem_of_getElem? (i := 1828) (by decide +kernel), List.mem_of_getElem? (i := 2738) (by decide +kernel), List.mem_of_getElem? (i := 2739) (by decide +kernel)⟩
theorem lw_p207 : lw_okq (⟨"MailHouseModel", "willEnd", "(IIIJ)V"⟩, 171) := ⟨⟨by decide +kernel, by decide +kernel⟩, List.mem_of_getElem? (i := 1828) (by decide +kernel), List.mem_of_getElem? (i := 2742) (by decide +kernel), List.mem_of_getElem? (i := 2743) (by decide +kernel)⟩
def lw_privs_13 : List (MethodName × Nat) := [(⟨"MailHouseModel", "afterMessages", "()V"⟩, 171), (⟨"MailHouseModel", "goTo", "(I)V"⟩, 171), (⟨"MailHouseModel", "top", "(I)J"⟩, 171), (⟨"MailHouseModel", "errorOf", "(IJ)V"⟩, 171), (⟨"MailHouseModel", "guardFails", "()V"⟩, 171), (⟨"MailHouseModel", "hand", "(IJ)V"⟩, 171), (⟨"MailHouseModel", "wants", "(II)Z"⟩, 171), (⟨"MailHouseModel", "clear", "(I)V"⟩, 171), (⟨"MailHouseModel", "carried", "(IJ)J"⟩, 171), (⟨"MailHouseModel", "sizeOf", "(IJ)I"⟩, 171), (⟨"MailHouseModel", "cell", "(II)J"⟩, 171), (⟨"MailHouseModel", "handNone", "()V"⟩, 171), (⟨"MailHouseModel", "two", "(IJ)J"⟩, 171), (⟨"MailHouseModel", "goesUp", "(IJ)V"⟩, 171), (⟨"MailHouseModel", "ends", "(IJ)V"⟩, 171), (⟨"MailHouseModel", "willEnd", "(IIIJ)V"⟩, 171)]
theorem lw_r13 : ∀ q ∈ lw_privs_13, lw_okq q := List.forall_mem_cons.mpr ⟨lw_p192, List.forall_mem_cons.mpr ⟨lw_p193, List.forall_mem_cons.mpr ⟨lw_p194, List.forall_mem_cons.mpr ⟨lw_p195, List.forall_mem_cons.mpr ⟨lw_p196, List.forall_mem_cons.mpr ⟨lw_p197, List.forall_mem_cons.mpr ⟨lw_p198, List.forall_mem_cons.mpr ⟨lw_p199, List.forall_mem_cons.mpr ⟨lw_p200, List.forall_mem_cons.mpr ⟨lw_p201, List.forall_mem_cons.mpr ⟨lw_p202, List.forall_mem_cons.mpr ⟨lw_p203, List.forall_mem_cons.mpr ⟨lw_p204, List.forall_mem_cons.mpr ⟨lw_p205, List.forall_mem_cons.mpr ⟨lw_p206, List.forall_mem_cons.mpr ⟨lw_p207, fun _ h => absurd h List.not_mem_nil⟩⟩⟩⟩⟩⟩⟩⟩⟩⟩⟩⟩⟩⟩⟩⟩
theorem lw_p208 : lw_okq (⟨"MailHouseModel", "put", "(J)V"⟩, 171) := ⟨⟨by decide +kernel, by decide +kernel⟩, List.mem_of_getElem? (i := 1828) (by decide +kernel), List.mem_of_getElem? (i := 2746) (by decide +kernel), List.mem_of_getElem? (i := 2747) (by decide +kernel)⟩
theorem lw_p209 : lw_okq (⟨"MailHouseModel", "noRoom", "()V"⟩, 171) := ⟨⟨by decide +kernel, by decide +kernel⟩, List.mem_of_getElem? (i := 1828) (by decide +kernel), List.mem_of_getElem? (i := 2750) (by decide +kernel), List.mem_of_getElem? (i := 2751) (by decide +kernel)⟩
theorem lw_p210 : lw_okq (⟨"MailHouseModel", "error", "(I)V"⟩, 171) := ⟨⟨by decide +kernel, by decide +kernel⟩, List.mem_of_getElem? (i := 1828) (by decide +kernel), List.mem_of_getElem? (i := 2754) (by decide +kernel), List.mem_of_getElem? (i := 2755) (by decide +kernel)⟩
theorem lw_p211 : lw_okq (⟨"MailHouseModel", "fitsPart", "()Z"⟩, 171) := ⟨⟨by decide +kernel, by decide +kernel⟩, List.mem_of_getElem? (i := 1828) (by decide +kernel), List.mem_of_getElem? (i := 2758) (by decide +kernel), List.mem_of_getElem? (i := 2759) (by decide +kernel)⟩
theorem lw_p212 : lw_okq (⟨"MailHouseModel", "fits", "(IJ)Z"⟩, 171) := ⟨⟨by decide +kernel, by decide +kernel⟩, List.mem_of_getElem? (i := 1828) (by decide +kernel), List.mem_of_getElem? (i := 2762) (by decide +kernel), List.mem_of_getElem? (i := 2763) (by decide +kernel)⟩
theorem lw_p213 : lw_okq (⟨"MailHouseModel", "nameAt", "(I)J"⟩, 171) := ⟨⟨by decide +kernel, by decide +kernel⟩, List.mem_of_getElem? (i := 1828) (by decide +kernel), List.mem_of_getElem? (i := 2766) (by decide +kernel), List.mem_of_getElem? (i := 2767) (by decide +kernel)⟩
theorem lw_p214 : lw_okq (⟨"MailHouseModel", "order", "(JJ)I"⟩, 171) := ⟨⟨by decide +kernel, by decide +kernel⟩, List.mem_of_getElem? (i := 1828) (by decide +kernel), List.mem_of_getElem? (i := 2770) (by decide +kernel), List.mem_of_getElem? (i := 2771) (by decide +kernel)⟩
theorem lw_p215 : lw_okq (⟨"MailHouseModel", "orderOne", "(JJ)I"⟩, 171) := ⟨⟨by decide +kernel, by decide +kernel⟩, List.mem_of_getElem? (i := 1828) (by decide +kernel), List.mem_of_getElem? (i := 2774) (by decide +kernel), List.mem_of_getElem? (i := 2775) (by decide +kernel)⟩
theorem lw_p216 : lw_okq (⟨"MailHouseModel", "orderAtoms", "(II)I"⟩, 171) := ⟨⟨by decide +kernel, by decide +kernel⟩, List.mem_of_getElem? (i := 1828) (by decide +kernel), List.mem_of_getElem? (i := 2781) (by decide +kernel), List.mem_of_getElem? (i := 2782) (by decide +kernel)⟩
theorem lw_p217 : lw_okq (⟨"MailHouseModel", "isString", "(IJ)Z"⟩, 171) := ⟨⟨by decide +kernel, by decide +kernel⟩, List.mem_of_getElem? (i := 1828) (by decide +kernel), List.mem_of_getElem? (i := 2786) (by decide +kernel), List.mem_of_getElem? (i := 2787) (by decide +kernel)⟩
theorem lw_p218 : lw_okq (⟨"MailHouseModel", "parts", "(IJI)I"⟩, 171) := ⟨⟨by decide +kernel, by decide +kernel⟩, List.mem_of_getElem? (i := 1828) (by decide +kernel), List.mem_of_getElem? (i := 2790) (by decide +kernel), List.mem_of_getElem? (i := 2791) (by decide +kernel)⟩
theorem lw_p219 : lw_okq (⟨"MailHouseModel", "chosen", "()V"⟩, 171) := ⟨⟨by decide +kernel, by decide +kernel⟩, List.mem_of_getElem? (i := 1828) (by decide +kernel), List.mem_of_getElem? (i := 2794) (by decide +kernel), List.mem_of_getElem? (i := 2795) (by decide +kernel)⟩
theorem lw_p220 : lw_okq (⟨"MailHouseModel", "goOnWith", "(I)V"⟩, 171) := ⟨⟨by decide +kernel, by decide +kernel⟩, List.mem_of_getElem? (i := 1828) (by decide +kernel), List.mem_of_getElem? (i := 2798) (by decide +kernel), List.mem_of_getElem? (i := 2799) (by decide +kernel)⟩
theorem lw_p221 : lw_okq (⟨"MailHouseModel", "one", "(II)V"⟩, 171) := ⟨⟨by decide +kernel, by decide +kernel⟩, List.mem_of_getElem? (i := 1828) (by decide +kernel), List.mem_of_getElem? (i := 2802) (by decide +kernel), List.mem_of_getElem? (i := 2803) (by decide +kernel)⟩
theorem lw_p222 : lw_okq (⟨"MailHouseModel", "callRun", "(II)V"⟩, 171) := ⟨⟨by decide +kernel, by decide +kernel⟩, List.mem_of_getElem? (i := 1828) (by decide +kernel), List.mem_of_getElem? (i := 2806) (by decide +kernel), List.mem_of_getElem? (i := 2807) (by decide +kernel)⟩
theorem lw_p223 : lw_okq (⟨"MailHouseModel", "predefinedRun", "(I)V"⟩, 171) := ⟨⟨by decide +kernel, by decide +kernel⟩, List.mem_of_getElem? (i := 1828) (by decide +kernel), List.mem_of_getElem? (i := 2810) (by decide +kernel), List.mem_of_getElem? (i := 2811) (by decide +kernel)⟩
def lw_privs_14 : List (MethodName × Nat) := [(⟨"MailHouseModel", "put", "(J)V"⟩, 171), (⟨"MailHouseModel", "noRoom", "()V"⟩, 171), (⟨"MailHouseModel", "error", "(I)V"⟩, 171), (⟨"MailHouseModel", "fitsPart", "()Z"⟩, 171), (⟨"MailHouseModel", "fits", "(IJ)Z"⟩, 171), (⟨"MailHouseModel", "nameAt", "(I)J"⟩, 171), (⟨"MailHouseModel", "order", "(JJ)I"⟩, 171), (⟨"MailHouseModel", "orderOne", "(JJ)I"⟩, 171), (⟨"MailHouseModel", "orderAtoms", "(II)I"⟩, 171), (⟨"MailHouseModel", "isString", "(IJ)Z"⟩, 171), (⟨"MailHouseModel", "parts", "(IJI)I"⟩, 171), (⟨"MailHouseModel", "chosen", "()V"⟩, 171), (⟨"MailHouseModel", "goOnWith", "(I)V"⟩, 171), (⟨"MailHouseModel", "one", "(II)V"⟩, 171), (⟨"MailHouseModel", "callRun", "(II)V"⟩, 171), (⟨"MailHouseModel", "predefinedRun", "(I)V"⟩, 171)]
theorem lw_r14 : ∀ q ∈ lw_privs_14, lw_okq q := List.forall_mem_cons.mpr ⟨lw_p208, List.forall_mem_cons.mpr ⟨lw_p209, List.forall_mem_cons.mpr ⟨lw_p210, List.forall_mem_cons.mpr ⟨lw_p211, List.forall_mem_cons.mpr ⟨lw_p212, List.forall_mem_cons.mpr ⟨lw_p213, List.forall_mem_cons.mpr ⟨lw_p214, List.forall_mem_cons.mpr ⟨lw_p215, List.forall_mem_cons.mpr ⟨lw_p216, List.forall_mem_cons.mpr ⟨lw_p217, List.forall_mem_cons.mpr ⟨lw_p218, List.forall_mem_cons.mpr ⟨lw_p219, List.forall_mem_cons.mpr ⟨lw_p220, List.forall_mem_cons.mpr ⟨lw_p221, List.forall_mem_cons.mpr ⟨lw_p222, List.forall_mem_cons.mpr ⟨lw_p223, fun _ h => absurd h List.not_mem_nil⟩⟩⟩⟩⟩⟩⟩⟩⟩⟩⟩⟩⟩⟩⟩⟩
theorem lw_p224 : lw_okq (⟨"MailHouseModel", "testRun", "(I)V"⟩, 171) := ⟨⟨by decide +kernel, by decide +kernel⟩, List.mem_of_getElem? (i := 1828) (by decide +kernel), List.mem_of_getElem? (i := 2814) (by decide +kernel), List.mem_of_getElem? (i := 2815) (by decide +kernel)⟩
theorem lw_p225 : lw_okq (⟨"MailHouseModel", "take", "()J"⟩, 171) := ⟨⟨by decide +kernel, by decide +kernel⟩, List.mem_of_getElem? (i := 1828) (by decide +kernel), List.mem_of_getElem? (i := 2818) (by decide +kernel), List.mem_of_getElem? (i := 2819) (by decide +kernel)⟩
theorem lw_p226 : lw_okq (⟨"MailHouseModel", "lengthOf", "(J)I"⟩, 171) := ⟨⟨by decide +kernel, by decide +kernel⟩, List.mem_of_getElem? (i := 1828) (by decide +kernel), List.mem_of_getElem? (i := 2825) (by decide +kernel), List.mem_of_getElem? (i := 2826) (by decide +kernel)⟩
theorem lw_p227 : lw_okq (⟨"MailHouseModel", "spawnRun", "()V"⟩, 171) := ⟨⟨by decide +kernel, by decide +kernel⟩, List.mem_of_getElem? (i := 1828) (by decide +kernel), List.mem_of_getElem? (i := 2829) (by decide +kernel), List.mem_of_getElem? (i := 2830) (by decide +kernel)⟩
theorem lw_p228 : lw_okq (⟨"MailHouseModel", "newProcess", "()I"⟩, 171) := ⟨⟨by decide +kernel, by decide +kernel⟩, List.mem_of_getElem? (i := 1828) (by decide +kernel), List.mem_of_getElem? (i := 2834) (by decide +kernel), List.mem_of_getElem? (i := 2835) (by decide +kernel)⟩
theorem lw_p229 : lw_okq (⟨"MailHouseModel", "copySize", "(IJ)I"⟩, 171) := ⟨⟨by decide +kernel, by decide +kernel⟩, List.mem_of_getElem? (i := 1828) (by decide +kernel), List.mem_of_getElem? (i := 2838) (by decide +kernel), List.mem_of_getElem? (i := 2839) (by decide +kernel)⟩
theorem lw_p230 : lw_okq (⟨"MailHouseModel", "copy", "(IJI)J"⟩, 171) := ⟨⟨by decide +kernel, by decide +kernel⟩, List.mem_of_getElem? (i := 1828) (by decide +kernel), List.mem_of_getElem? (i := 2842) (by decide +kernel), List.mem_of_getElem? (i := 2843) (by decide +kernel)⟩
theorem lw_p231 : lw_okq (⟨"MailHouseModel", "printRun", "(J)V"⟩, 171) := ⟨⟨by decide +kernel, by decide +kernel⟩, List.mem_of_getElem? (i := 1828) (by decide +kernel), List.mem_of_getElem? (i := 2846) (by decide +kernel), List.mem_of_getElem? (i := 2847) (by decide +kernel)⟩
theorem lw_p232 : lw_okq (⟨"MailHouseModel", "write", "(IJ)V"⟩, 171) := ⟨⟨by decide +kernel, by decide +kernel⟩, List.mem_of_getElem? (i := 1828) (by decide +kernel), List.mem_of_getElem? (i := 2850) (by decide +kernel), List.mem_of_getElem? (i := 2851) (by decide +kernel)⟩
theorem lw_p233 : lw_okq (⟨"MailHouseModel", "writeOn", "(IJ)V"⟩, 171) := ⟨⟨by decide +kernel, by decide +kernel⟩, List.mem_of_getElem? (i := 1828) (by decide +kernel), List.mem_of_getElem? (i := 2854) (by decide +kernel), List.mem_of_getElem? (i := 2855) (by decide +kernel)⟩
theorem lw_p234 : lw_okq (⟨"MailHouseModel", "sign", "(I)V"⟩, 171) := ⟨⟨by decide +kernel, by decide +kernel⟩, List.mem_of_getElem? (i := 1828) (by decide +kernel), List.mem_of_getElem? (i := 2858) (by decide +kernel), List.mem_of_getElem? (i := 2859) (by decide +kernel)⟩
theorem lw_p235 : lw_okq (⟨"MailHouseModel", "restOfList", "(III)I"⟩, 171) := ⟨⟨by decide +kernel, by decide +kernel⟩, List.mem_of_getElem? (i := 1828) (by decide +kernel), List.mem_of_getElem? (i := 2862) (by decide +kernel), List.mem_of_getElem? (i := 2863) (by decide +kernel)⟩
theorem lw_p236 : lw_okq (⟨"MailHouseModel", "digits", "(I)V"⟩, 171) := ⟨⟨by decide +kernel, by decide +kernel⟩, List.mem_of_getElem? (i := 1828) (by decide +kernel), List.mem_of_getElem? (i := 2866) (by decide +kernel), List.mem_of_getElem? (i := 2867) (by decide +kernel)⟩
theorem lw_p237 : lw_okq (⟨"MailHouseModel", "nameRun", "(I)V"⟩, 171) := ⟨⟨by decide +kernel, by decide +kernel⟩, List.mem_of_getElem? (i := 1828) (by decide +kernel), List.mem_of_getElem? (i := 2873) (by decide +kernel), List.mem_of_getElem? (i := 2874) (by decide +kernel)⟩
theorem lw_p238 : lw_okq (⟨"MailHouseModel", "namedBy", "(I)I"⟩, 171) := ⟨⟨by decide +kernel, by decide +kernel⟩, List.mem_of_getElem? (i := 1828) (by decide +kernel), List.mem_of_getElem? (i := 2877) (by decide +kernel), List.mem_of_getElem? (i := 2878) (by decide +kernel)⟩
theorem lw_p239 : lw_okq (⟨"MailHouseModel", "processRun", "(I)V"⟩, 171) := ⟨⟨by decide +kernel, by decide +kernel⟩, List.mem_of_getElem? (i := 1828) (by decide +kernel), List.mem_of_getElem? (i := 2881) (by decide +kernel), List.mem_of_getElem? (i := 2882) (by decide +kernel)⟩
def lw_privs_15 : List (MethodName × Nat) := [(⟨"MailHouseModel", "testRun", "(I)V"⟩, 171), (⟨"MailHouseModel", "take", "()J"⟩, 171), (⟨"MailHouseModel", "lengthOf", "(J)I"⟩, 171), (⟨"MailHouseModel", "spawnRun", "()V"⟩, 171), (⟨"MailHouseModel", "newProcess", "()I"⟩, 171), (⟨"MailHouseModel", "copySize", "(IJ)I"⟩, 171), (⟨"MailHouseModel", "copy", "(IJI)J"⟩, 171), (⟨"MailHouseModel", "printRun", "(J)V"⟩, 171), (⟨"MailHouseModel", "write", "(IJ)V"⟩, 171), (⟨"MailHouseModel", "writeOn", "(IJ)V"⟩, 171), (⟨"MailHouseModel", "sign", "(I)V"⟩, 171), (⟨"MailHouseModel", "restOfList", "(III)I"⟩, 171), (⟨"MailHouseModel", "digits", "(I)V"⟩, 171), (⟨"MailHouseModel", "nameRun", "(I)V"⟩, 171), (⟨"MailHouseModel", "namedBy", "(I)I"⟩, 171), (⟨"MailHouseModel", "processRun", "(I)V"⟩, 171)]
theorem lw_r15 : ∀ q ∈ lw_privs_15, lw_okq q := List.forall_mem_cons.mpr ⟨lw_p224, List.forall_mem_cons.mpr ⟨lw_p225, List.forall_mem_cons.mpr ⟨lw_p226, List.forall_mem_cons.mpr ⟨lw_p227, List.forall_mem_cons.mpr ⟨lw_p228, List.forall_mem_cons.mpr ⟨lw_p229, List.forall_mem_cons.mpr ⟨lw_p230, List.forall_mem_cons.mpr ⟨lw_p231, List.forall_mem_cons.mpr ⟨lw_p232, List.forall_mem_cons.mpr ⟨lw_p233, List.forall_mem_cons.mpr ⟨lw_p234, List.forall_mem_cons.mpr ⟨lw_p235, List.forall_mem_cons.mpr ⟨lw_p236, List.forall_mem_cons.mpr ⟨lw_p237, List.forall_mem_cons.mpr ⟨lw_p238, List.forall_mem_cons.mpr ⟨lw_p239, fun _ h => absurd h List.not_mem_nil⟩⟩⟩⟩⟩⟩⟩⟩⟩⟩⟩⟩⟩⟩⟩⟩
theorem lw_p240 : lw_okq (⟨"MailHouseModel", "unwatchRun", "()V"⟩, 171) := ⟨⟨by decide +kernel, by decide +kernel⟩, List.mem_of_getElem? (i := 1828) (by decide +kernel), List.mem_of_getElem? (i := 2885) (by decide +kernel), List.mem_of_getElem? (i := 2886) (by decide +kernel)⟩
theorem lw_p241 : lw_okq (⟨"MailHouseModel", "removeWatch", "(I)V"⟩, 171) := ⟨⟨by decide +kernel, by decide +kernel⟩, List.mem_of_getElem? (i := 1828) (by decide +kernel), List.mem_of_getElem? (i := 2889) (by decide +kernel), List.mem_of_getElem? (i := 2890) (by decide +kernel)⟩
theorem lw_p242 : lw_okq (⟨"MailHouseModel", "message", "(IIIIIIJ)V"⟩, 171) := ⟨⟨by decide +kernel, by decide +kernel⟩, List.mem_of_getElem? (i := 1828) (by decide +kernel), List.mem_of_getElem? (i := 2893) (by decide +kernel), List.mem_of_getElem? (i := 2894) (by decide +kernel)⟩
theorem lw_p243 : lw_okq (⟨"MailHouseModel", "exitRun", "(IJ)V"⟩, 171) := ⟨⟨by decide +kernel, by decide +kernel⟩, List.mem_of_getElem? (i := 1828) (by decide +kernel), List.mem_of_getElem? (i := 2897) (by decide +kernel), List.mem_of_getElem? (i := 2898) (by decide +kernel)⟩
theorem lw_p244 : lw_okq (⟨"MailHouseModel", "removeLink", "(II)V"⟩, 171) := ⟨⟨by decide +kernel, by decide +kernel⟩, List.mem_of_getElem? (i := 1828) (by decide +kernel), List.mem_of_getElem? (i := 2901) (by decide +kernel), List.mem_of_getElem? (i := 2902) (by decide +kernel)⟩
theorem lw_p245 : lw_okq (⟨"MailHouseModel", "signal", "(IIIIJ)V"⟩, 171) := ⟨⟨by decide +kernel, by decide +kernel⟩, List.mem_of_getElem? (i := 1828) (by decide +kernel), List.mem_of_getElem? (i := 2905) (by decide +kernel), List.mem_of_getElem? (i := 2906) (by decide +kernel)⟩
theorem lw_p246 : lw_okq (⟨"MailHouseModel", "isLinked", "(I)Z"⟩, 171) := ⟨⟨by decide +kernel, by decide +kernel⟩, List.mem_of_getElem? (i := 1828) (by decide +kernel), List.mem_of_getElem? (i := 2909) (by decide +kernel), List.mem_of_getElem? (i := 2910) (by decide +kernel)⟩
theorem lw_p247 : lw_okq (⟨"MailHouseModel", "frameOf", "(IIIZ)V"⟩, 171) := ⟨⟨by decide +kernel, by decide +kernel⟩, List.mem_of_getElem? (i := 1828) (by decide +kernel), List.mem_of_getElem? (i := 2913) (by decide +kernel), List.mem_of_getElem? (i := 2914) (by decide +kernel)⟩
theorem lw_p248 : lw_okq (⟨"MailHouseModel", "returns", "()V"⟩, 171) := ⟨⟨by decide +kernel, by decide +kernel⟩, List.mem_of_getElem? (i := 1828) (by decide +kernel), List.mem_of_getElem? (i := 2917) (by decide +kernel), List.mem_of_getElem? (i := 2918) (by decide +kernel)⟩
theorem lw_p249 : lw_okq (⟨"MailHouseModel", "stringRun", "(I)V"⟩, 171) := ⟨⟨by decide +kernel, by decide +kernel⟩, List.mem_of_getElem? (i := 1828) (by decide +kernel), List.mem_of_getElem? (i := 2921) (by decide +kernel), List.mem_of_getElem? (i := 2922) (by decide +kernel)⟩
theorem lw_p250 : lw_okq (⟨"MailHouseModel", "pair", "(JJ)I"⟩, 171) := ⟨⟨by decide +kernel, by decide +kernel⟩, List.mem_of_getElem? (i := 1828) (by decide +kernel), List.mem_of_getElem? (i := 2925) (by decide +kernel), List.mem_of_getElem? (i := 2926) (by decide +kernel)⟩
theorem lw_p251 : lw_okq (⟨"MailHouseModel", "tupleRun", "(I)V"⟩, 171) := ⟨⟨by decide +kernel, by decide +kernel⟩, List.mem_of_getElem? (i := 1828) (by decide +kernel), List.mem_of_getElem? (i := 2929) (by decide +kernel), List.mem_of_getElem? (i := 2930) (by decide +kernel)⟩
theorem lw_p252 : lw_okq (⟨"MailHouseModel", "listRun", "(II)V"⟩, 171) := ⟨⟨by decide +kernel, by decide +kernel⟩, List.mem_of_getElem? (i := 1828) (by decide +kernel), List.mem_of_getElem? (i := 2933) (by decide +kernel), List.mem_of_getElem? (i := 2934) (by decide +kernel)⟩
theorem lw_p253 : lw_okq (⟨"MailHouseModel", "twoRun", "(I)V"⟩, 171) := ⟨⟨by decide +kernel, by decide +kernel⟩, List.mem_of_getElem? (i := 1828) (by decide +kernel), List.mem_of_getElem? (i := 2937) (by decide +kernel), List.mem_of_getElem? (i := 2938) (by decide +kernel)⟩
theorem lw_p254 : lw_okq (⟨"MailHouseModel", "joined", "()V"⟩, 171) := ⟨⟨by decide +kernel, by decide +kernel⟩, List.mem_of_getElem? (i := 1828) (by decide +kernel), List.mem_of_getElem? (i := 2941) (by decide +kernel), List.mem_of_getElem? (i := 2942) (by decide +kernel)⟩
theorem lw_p255 : lw_okq (⟨"MailHouseModel", "anew", "(II)V"⟩, 171) := ⟨⟨by decide +kernel, by decide +kernel⟩, List.mem_of_getElem? (i := 1828) (by decide +kernel), List.mem_of_getElem? (i := 2945) (by decide +kernel), List.mem_of_getElem? (i := 2946) (by decide +kernel)⟩
def lw_privs_16 : List (MethodName × Nat) := [(⟨"MailHouseModel", "unwatchRun", "()V"⟩, 171), (⟨"MailHouseModel", "removeWatch", "(I)V"⟩, 171), (⟨"MailHouseModel", "message", "(IIIIIIJ)V"⟩, 171), (⟨"MailHouseModel", "exitRun", "(IJ)V"⟩, 171), (⟨"MailHouseModel", "removeLink", "(II)V"⟩, 171), (⟨"MailHouseModel", "signal", "(IIIIJ)V"⟩, 171), (⟨"MailHouseModel", "isLinked", "(I)Z"⟩, 171), (⟨"MailHouseModel", "frameOf", "(IIIZ)V"⟩, 171), (⟨"MailHouseModel", "returns", "()V"⟩, 171), (⟨"MailHouseModel", "stringRun", "(I)V"⟩, 171), (⟨"MailHouseModel", "pair", "(JJ)I"⟩, 171), (⟨"MailHouseModel", "tupleRun", "(I)V"⟩, 171), (⟨"MailHouseModel", "listRun", "(II)V"⟩, 171), (⟨"MailHouseModel", "twoRun", "(I)V"⟩, 171), (⟨"MailHouseModel", "joined", "()V"⟩, 171), (⟨"MailHouseModel", "anew", "(II)V"⟩, 171)]
theorem lw_r16 : ∀ q ∈ lw_privs_16, lw_okq q := List.forall_mem_cons.mpr ⟨lw_p240, List.forall_mem_cons.mpr ⟨lw_p241, List.forall_mem_cons.mpr ⟨lw_p242, List.forall_mem_cons.mpr ⟨lw_p243, List.forall_mem_cons.mpr ⟨lw_p244, List.forall_mem_cons.mpr ⟨lw_p245, List.forall_mem_cons.mpr ⟨lw_p246, List.forall_mem_cons.mpr ⟨lw_p247, List.forall_mem_cons.mpr ⟨lw_p248, List.forall_mem_cons.mpr ⟨lw_p249, List.forall_mem_cons.mpr ⟨lw_p250, List.forall_mem_cons.mpr ⟨lw_p251, List.forall_mem_cons.mpr ⟨lw_p252, List.forall_mem_cons.mpr ⟨lw_p253, List.forall_mem_cons.mpr ⟨lw_p254, List.forall_mem_cons.mpr ⟨lw_p255, fun _ h => absurd h List.not_mem_nil⟩⟩⟩⟩⟩⟩⟩⟩⟩⟩⟩⟩⟩⟩⟩⟩
theorem lw_p256 : lw_okq (⟨"MailHouseModel", "lessened", "()V"⟩, 171) := ⟨⟨by decide +kernel, by decide +kernel⟩, List.mem_of_getElem? (i := 1828) (by decide +kernel), List.mem_of_getElem? (i := 2949) (by decide +kernel), List.mem_of_getElem? (i := 2950) (by decide +kernel)⟩
theorem lw_p257 : lw_okq (⟨"MailHouseModel", "namesTo", "(I)V"⟩, 171) := ⟨⟨by decide +kernel, by decide +kernel⟩, List.mem_of_getElem? (i := 1828) (by decide +kernel), List.mem_of_getElem? (i := 2953) (by decide +kernel), List.mem_of_getElem? (i := 2954) (by decide +kernel)⟩
theorem lw_p258 : lw_okq (⟨"MailHouseModel", "funRun", "(II)V"⟩, 171) := ⟨⟨by decide +kernel, by decide +kernel⟩, List.mem_of_getElem? (i := 1828) (by decide +kernel), List.mem_of_getElem? (i := 2957) (by decide +kernel), List.mem_of_getElem? (i := 2958) (by decide +kernel)⟩
theorem lw_p259 : lw_okq (⟨"MailHouseModel", "otherRun", "(II)V"⟩, 171) := ⟨⟨by decide +kernel, by decide +kernel⟩, List.mem_of_getElem? (i := 1828) (by decide +kernel), List.mem_of_getElem? (i := 2961) (by decide +kernel), List.mem_of_getElem? (i := 2962) (by decide +kernel)⟩
theorem lw_p260 : lw_okq (⟨"MailHouseModel", "sendRun", "()V"⟩, 171) := ⟨⟨by decide +kernel, by decide +kernel⟩, List.mem_of_getElem? (i := 1828) (by decide +kernel), List.mem_of_getElem? (i := 2965) (by decide +kernel), List.mem_of_getElem? (i := 2966) (by decide +kernel)⟩
theorem lw_p261 : lw_okq (⟨"MailHouseModel", "afterRun", "(I)V"⟩, 171) := ⟨⟨by decide +kernel, by decide +kernel⟩, List.mem_of_getElem? (i := 1828) (by decide +kernel), List.mem_of_getElem? (i := 2969) (by decide +kernel), List.mem_of_getElem? (i := 2970) (by decide +kernel)⟩
theorem lw_p262 : lw_okq (⟨"MailHouseModel", "allEnds", "()V"⟩, 171) := ⟨⟨by decide +kernel, by decide +kernel⟩, List.mem_of_getElem? (i := 1828) (by decide +kernel), List.mem_of_getElem? (i := 2973) (by decide +kernel), List.mem_of_getElem? (i := 2974) (by decide +kernel)⟩
theorem lw_p263 : lw_okq (⟨"MailHouseModel", "end", "(IIIJ)V"⟩, 171) := ⟨⟨by decide +kernel, by decide +kernel⟩, List.mem_of_getElem? (i := 1828) (by decide +kernel), List.mem_of_getElem? (i := 2977) (by decide +kernel), List.mem_of_getElem? (i := 2978) (by decide +kernel)⟩
def lw_privs_17 : List (MethodName × Nat) := [(⟨"MailHouseModel", "lessened", "()V"⟩, 171), (⟨"MailHouseModel", "namesTo", "(I)V"⟩, 171), (⟨"MailHouseModel", "funRun", "(II)V"⟩, 171), (⟨"MailHouseModel", "otherRun", "(II)V"⟩, 171), (⟨"MailHouseModel", "sendRun", "()V"⟩, 171), (⟨"MailHouseModel", "afterRun", "(I)V"⟩, 171), (⟨"MailHouseModel", "allEnds", "()V"⟩, 171), (⟨"MailHouseModel", "end", "(IIIJ)V"⟩, 171)]
theorem lw_r17 : ∀ q ∈ lw_privs_17, lw_okq q := List.forall_mem_cons.mpr ⟨lw_p256, List.forall_mem_cons.mpr ⟨lw_p257, List.forall_mem_cons.mpr ⟨lw_p258, List.forall_mem_cons.mpr ⟨lw_p259, List.forall_mem_cons.mpr ⟨lw_p260, List.forall_mem_cons.mpr ⟨lw_p261, List.forall_mem_cons.mpr ⟨lw_p262, List.forall_mem_cons.mpr ⟨lw_p263, fun _ h => absurd h List.not_mem_nil⟩⟩⟩⟩⟩⟩⟩⟩
def lw_privs : List (MethodName × Nat) := lw_privs_1 ++ (lw_privs_2 ++ (lw_privs_3 ++ (lw_privs_4 ++ (lw_privs_5 ++ (lw_privs_6 ++ (lw_privs_7 ++ (lw_privs_8 ++ (lw_privs_9 ++ (lw_privs_10 ++ (lw_privs_11 ++ (lw_privs_12 ++ (lw_privs_13 ++ (lw_privs_14 ++ (lw_privs_15 ++ (lw_privs_16 ++ (lw_privs_17))))))))))))))))
def lw_tbl : List Cond := k2_sels lw_privs ++ tables_1
theorem lw_privs_ok : ∀ q ∈ lw_privs, lw_okq q := by
  show ∀ q ∈ lw_privs_1 ++ (lw_privs_2 ++ (lw_privs_3 ++ (lw_privs_4 ++ (lw_privs_5 ++ (lw_privs_6 ++ (lw_privs_7 ++ (lw_privs_8 ++ (lw_privs_9 ++ (lw_privs_10 ++ (lw_privs_11 ++ (lw_privs_12 ++ (lw_privs_13 ++ (lw_privs_14 ++ (lw_privs_15 ++ (lw_privs_16 ++ (lw_privs_17)))))))))))))))), lw_okq q
  exact List.forall_mem_append.mpr ⟨lw_r1, List.forall_mem_append.mpr ⟨lw_r2, List.forall_mem_append.mpr ⟨lw_r3, List.forall_mem_append.mpr ⟨lw_r4, List.forall_mem_append.mpr ⟨lw_r5, List.forall_mem_append.mpr ⟨lw_r6, List.forall_mem_append.mpr ⟨lw_r7, List.forall_mem_append.mpr ⟨lw_r8, List.forall_mem_append.mpr ⟨lw_r9, List.forall_mem_append.mpr ⟨lw_r10, List.forall_mem_append.mpr ⟨lw_r11, List.forall_mem_append.mpr ⟨lw_r12, List.forall_mem_append.mpr ⟨lw_r13, List.forall_mem_append.mpr ⟨lw_r14, List.forall_mem_append.mpr ⟨lw_r15, List.forall_mem_append.mpr ⟨lw_r16, lw_r17⟩⟩⟩⟩⟩⟩⟩⟩⟩⟩⟩⟩⟩⟩⟩⟩
-- ===== end of PART A; then your names; then what follows =====
end
section
/-! the words of the tables that stay true over a call: a method's words may be its own code and all of these -/
def wd_tbl : List Cond := lw_tbl.filter goodWord
def wd_ws (y : MethodName) (b : ByteArray) (n : Nat) (r : Option FieldType) : List Cond := Cond.code y b n r :: wd_tbl
theorem wd_of {w : Cond} (k : Nat) (h : lw_tbl[k]? = some w) (g : goodWord w = true) : w ∈ wd_tbl := List.mem_filter.mpr ⟨List.mem_of_getElem? h, g⟩
theorem wd_lw {w : Cond} (h : w ∈ wd_tbl) : w ∈ lw_tbl := (List.mem_filter.mp h).1
theorem wd_gd {w : Cond} (h : w ∈ wd_tbl) : (w.onTables && w.keeps) = true ∨ ∃ ty, w = .arrayClass ty := good_of_word (List.mem_filter.mp h).2
theorem wd_in {big : List Cond} {y : MethodName} {b : ByteArray} {n : Nat} {r : Option FieldType} (hb : ∀ w ∈ wd_tbl, w ∈ big) (h : Cond.code y b n r ∈ wd_tbl) : GoodIn big (wd_ws y b n r) := by
  intro w hw
  rcases List.mem_cons.mp hw with rfl | hw
  · exact ⟨hb _ h, wd_gd h⟩
  · exact ⟨hb _ hw, wd_gd hw⟩
theorem wd_mem (ws : List Cond) (ps : List Nat) (hp : ws = ps.filterMap (fun i => lw_tbl[i]?)) (h : ws.all goodWord = true) : ∀ w ∈ ws, w ∈ wd_tbl := by
  intro w hw
  have h1 := List.all_eq_true.mp h w hw
  rw [hp] at hw
  obtain ⟨i, -, hi⟩ := List.mem_filterMap.mp hw
  exact wd_of i hi h1
end
section
/-! the reference: its fields -/
def R_M : String := "MailHouseModel"
def Fl_M : List (String × String × String × Bool) := [("MailHouseModel", "words", "[B", true), ("MailHouseModel", "firstAtoms", "[B", true), ("MailHouseModel", "predefined", "[B", true), ("MailHouseModel", "thrown", "I", false), ("MailHouseModel", "tape", "[B", true), ("MailHouseModel", "taped", "I", false), ("MailHouseModel", "tSort", "[B", true), ("MailHouseModel", "tVal", "[I", true), ("MailHouseModel", "tLine", "[I", true), ("MailHouseModel", "tokens", "I", false), ("MailHouseModel", "at", "I", false), ("MailHouseModel", "line", "I", false), ("MailHouseModel", "atomSigns", "[B", true), ("MailHouseModel", "atomFrom", "[I", true), ("MailHouseModel", "atoms", "I", false), ("MailHouseModel", "nameSigns", "[B", true), ("MailHouseModel", "nameFrom", "[I", true), ("MailHouseModel", "names", "I", false), ("MailHouseModel", "stringSigns", "[B", true), ("MailHouseModel", "stringFrom", "[I", true), ("MailHouseModel", "strings", "I", false), ("MailHouseModel", "twice", "[B", true), ("MailHouseModel", "once", "[B", true), ("MailHouseModel", "nKind", "[B", true), ("MailHouseModel", "nTok", "[S", true), ("MailHouseModel", "nA", "[I", true), ("MailHouseModel", "nB", "[I", true), ("MailHouseModel", "nC", "[I", true), ("MailHouseModel", "nRoots", "[I", true), ("MailHouseModel", "nNextRoot", "[I", true), ("MailHouseModel", "nLast", "[Z", true), ("MailHouseModel", "nAfter", "[I", true), ("MailHouseModel", "nodes", "I", false), ("MailHouseModel", "pKind", "[B", true), ("MailHouseModel", "pTerm", "[J", true), ("MailHouseModel", "pA", "[I", true), ("MailHouseModel", "pFirst", "[I", true), ("MailHouseModel", "pNext", "[I", true), ("MailHouseModel", "pTail", "[Z", true), ("MailHouseModel", "patterns", "I", false), ("MailHouseModel", "kPattern", "[I", true), ("MailHouseModel", "kMany", "[I", true), ("MailHouseModel", "kGuard", "[I", true), ("MailHouseModel", "kBody", "[I", true), ("MailHouseModel", "kTok", "[I", true), ("MailHouseModel", "kNext", "[I", true), ("MailHouseModel", "clauses", "I", false), ("MailHouseModel", "fAtom", "[I", true), ("MailHouseModel", "fArity", "[I", true), ("MailHouseModel", "fTok", "[I", true), ("MailHouseModel", "fClause", "[I", true), ("MailHouseModel", "fClauses", "[I", true), ("MailHouseModel", "functions", "I", false), ("MailHouseModel", "uClause", "[I", true), ("MailHouseModel", "uHeld", "[I", true), ("MailHouseModel", "uFrom", "[I", true), ("MailHouseModel", "funs", "I", false), ("MailHouseModel", "heldRow", "[I", true), ("MailHouseModel", "heldRows", "I", false), ("MailHouseModel", "sBound", "[I", true), ("MailHouseModel", "sMany", "[I", true), ("MailHouseModel", "sHeldName", "[I", true), ("MailHouseModel", "sHeldFrom", "[I", true), ("MailHouseModel", "sHeld", "[I", true), ("MailHouseModel", "sMost", "[I", true), ("MailHouseModel", "scope", "I", false), ("MailHouseModel", "large", "Z", false), ("MailHouseModel", "fault", "I", false), ("MailHouseModel", "faultLine", "I", false), ("MailHouseModel", "pos", "I", false), ("MailHouseModel", "open", "I", false), ("MailHouseModel", "ruleTok", "I", false), ("MailHouseModel", "ruleNumber", "I", false), ("MailHouseModel", "guarded", "Z", false), ("MailHouseModel", "saved", "[I", true), ("MailHouseModel", "savedMany", "I", false), ("MailHouseModel", "scopeSaved", "[I", true), ("MailHouseModel", "scopesSaved", "I", false), ("MailHouseModel", "heldThen", "[I", true), ("MailHouseModel", "waitLevel", "[B", true), ("MailHouseModel", "waitTok", "[S", true), ("MailHouseModel", "waitNode", "[I", true), ("MailHouseModel", "waitBound", "[I", true), ("MailHouseModel", "waits", "I", false), ("MailHouseModel", "argumentCount", "I", false), ("MailHouseModel", "partsRoot", "I", false), ("MailHouseModel", "there", "Z", false), ("MailHouseModel", "begun", "Z", false), ("MailHouseModel", "heap", "[J", true), ("MailHouseModel", "used", "[I", true), ("MailHouseModel", "cleared", "[I", true), ("MailHouseModel", "ops", "[J", true), ("MailHouseModel", "opMany", "[I", true), ("MailHouseModel", "bound", "[J", true), ("MailHouseModel", "boundMany", "[I", true), ("MailHouseModel", "frames", "[I", true), ("MailHouseModel", "rFunction", "[I", true), ("MailHouseModel", "rClause", "[I", true), ("MailHouseModel", "rPc", "[I", true), ("MailHouseModel", "rNames", "[I", true), ("MailHouseModel", "rOps", "[I", true), ("MailHouseModel", "rHeld", "[I", true), ("MailHouseModel", "hFrame", "[I", true), ("MailHouseModel", "hNode", "[I", true), ("MailHouseModel", "hOps", "[I", true), ("MailHouseModel", "hNames", "[I", true), ("MailHouseModel", "catches", "[I", true), ("MailHouseModel", "box", "[J", true), ("MailHouseModel", "boxMany", "[I", true), ("MailHouseModel", "state", "[I", true), ("MailHouseModel", "tried", "[I", true), ("MailHouseModel", "until", "[J", true), ("MailHouseModel", "traps", "[Z", true), ("MailHouseModel", "nameAtom", "[I", true), ("MailHouseModel", "callsMade", "[I", true), ("MailHouseModel", "callLine", "[I", true), ("MailHouseModel", "links", "[I", true), ("MailHouseModel", "linkMany", "[I", true), ("MailHouseModel", "processes", "I", false), ("MailHouseModel", "calls", "I", false), ("MailHouseModel", "clock", "I", false), ("MailHouseModel", "references", "I", false), ("MailHouseModel", "wRef", "[I", true), ("MailHouseModel", "wBy", "[I", true), ("MailHouseModel", "wOf", "[I", true), ("MailHouseModel", "watches", "I", false), ("MailHouseModel", "output", "[B", true), ("MailHouseModel", "outputLong", "[I", true), ("MailHouseModel", "outputs", "I", false), ("MailHouseModel", "shown", "[B", true), ("MailHouseModel", "shownLong", "I", false), ("MailHouseModel", "reasons", "[B", true), ("MailHouseModel", "reasonLong", "[I", true), ("MailHouseModel", "me", "I", false), ("MailHouseModel", "other", "[J", true), ("MailHouseModel", "moved", "[I", true), ("MailHouseModel", "otherUsed", "I", false), ("MailHouseModel", "carriedSort", "[J", true), ("MailHouseModel", "carriedMany", "I", false), ("MailHouseModel", "atHand", "J", false), ("MailHouseModel", "handOf", "I", false), ("MailHouseModel", "stack", "[J", true), ("MailHouseModel", "stackTwo", "[I", true), ("MailHouseModel", "text", "[B", true), ("MailHouseModel", "textLong", "I", false), ("MailHouseModel", "endWho", "[I", true), ("MailHouseModel", "endWrap", "[I", true), ("MailHouseModel", "endOf", "[I", true), ("MailHouseModel", "endTerm", "[J", true), ("MailHouseModel", "endFirst", "I", false), ("MailHouseModel", "endMany", "I", false), ("MailHouseModel", "stopped", "Z", false), ("MailHouseModel", "inGuard", "Z", false), ("MailHouseModel", "tryKind", "I", false), ("MailHouseModel", "tryPart", "I", false), ("MailHouseModel", "tryFirst", "I", false), ("MailHouseModel", "tryNames", "I", false), ("MailHouseModel", "tryOps", "I", false), ("MailHouseModel", "tryMessage", "I", false), ("MailHouseModel", "tryNode", "I", false), ("MailHouseModel", "matchPattern", "[I", true), ("MailHouseModel", "matchTerm", "[J", true), ("MailHouseModel", "partPattern", "[I", true), ("MailHouseModel", "partTerm", "[J", true), ("MailHouseModel", "budget", "I", false), ("MailHouseModel", "made", "I", false), ("MailHouseModel", "funCalled", "Z", false), ("MailHouseModel", "items", "[J", true), ("MailHouseModel", "gone", "[Z", true), ("MailHouseModel", "restAfter", "Z", false), ("MailHouseModel", "firstPlace", "[I", true)]
def F_M : u_T := fun k => Fl_M.getD k ("", "", "", false)
def tl_M : List FieldType := [(.array .byte), (.array .byte), (.array .byte), .int, (.array .byte), .int, (.array .byte), (.array .int), (.array .int), .int, .int, .int, (.array .byte), (.array .int), .int, (.array .byte), (.array .int), .int, (.array .byte), (.array .int), .int, (.array .byte), (.array .byte), (.array .byte), (.array .short), (.array .int), (.array .int), (.array .int), (.array .int), (.array .int), (.array .boolean), (.array .int), .int, (.array .byte), (.array .long), (.array .int), (.array .int), (.array .int), (.array .boolean), .int, (.array .int), (.array .int), (.array .int), (.array .int), (.array .int), (.array .int), .int, (.array .int), (.array .int), (.array .int), (.array .int), (.array .int), .int, (.array .int), (.array .int), (.array .int), .int, (.array .int), .int, (.array .int), (.array .int), (.array .int), (.array .int), (.array .int), (.array .int), .int, .boolean, .int, .int, .int, .int, .int, .int, .boolean, (.array .int), .int, (.array .int), .int, (.array .int), (.array .byte), (.array .short), (.array .int), (.array .int), .int, .int, .int, .boolean, .boolean, (.array .long), (.array .int), (.array .int), (.array .long), (.array .int), (.array .long), (.array .int), (.array .int), (.array .int), (.array .int), (.array .int), (.array .int), (.array .int), (.array .int), (.array .int), (.array .int), (.array .int), (.array .int), (.array .int), (.array .long), (.array .int), (.array .int), (.array .int), (.array .long), (.array .boolean), (.array .int), (.array .int), (.array .int), (.array .int), (.array .int), .int, .int, .int, .int, (.array .int), (.array .int), (.array .int), .int, (.array .byte), (.array .int), .int, (.array .byte), .int, (.array .byte), (.array .int), .int, (.array .long), (.array .int), .int, (.array .long), .int, .long, .int, (.array .long), (.array .int), (.array .byte), .int, (.array .int), (.array .int), (.array .int), (.array .long), .int, .int, .boolean, .boolean, .int, .int, .int, .int, .int, .int, .int, (.array .int), (.array .long), (.array .int), (.array .long), .int, .int, .boolean, (.array .long), (.array .boolean), .boolean, (.array .int)]
def t_M : Nat → FieldType := fun k => tl_M.getD k .int
theorem n_M : ∀ a, a < 171 → ∀ b, b < 171 → a ≠ b → (F_M a).2.1 ≠ (F_M b).2.1 := by decide +kernel
theorem t_M_ok : ∀ k, k < 171 → parseFieldDescriptor (F_M k).2.2.1 = some (t_M k) := by decide +kernel
theorem i_M : ∀ w ∈ u_ws R_M F_M 171, w ∈ wd_tbl := wd_mem _ [2275, 2277, 2279, 2281, 2283, 2285, 2287, 2289, 2291, 2293, 2295, 2297, 2299, 2301, 2303, 2305, 2307, 2309, 2311, 2313, 2315, 2317, 2319, 2321, 2323, 2325, 2327, 2329, 2331, 2333, 2335, 2337, 2339, 2341, 2343, 2345, 2347, 2349, 2351, 2353, 2355, 2357, 2359, 2361, 2363, 2365, 2367, 2369, 2371, 2373, 2375, 2377, 2379, 2381, 2383, 2385, 2387, 2389, 2391, 2393, 2395, 2397, 2399, 2401, 2403, 2405, 2407, 2409, 2411, 2413, 2415, 2417, 2419, 2421, 2423, 2425, 2427, 2429, 2431, 2433, 2435, 2437, 2439, 2441, 2443, 2445, 2447, 2449, 2451, 2453, 2455, 2457, 2459, 2461, 2463, 2465, 2467, 2469, 2471, 2473, 2475, 2477, 2479, 2481, 2483, 2485, 2487, 2489, 2491, 2493, 2495, 2497, 2499, 2501, 2503, 2505, 2507, 2509, 2511, 2513, 2515, 2517, 2519, 2521, 2523, 2525, 2527, 2529, 2531, 2533, 2535, 2537, 2539, 2541, 2543, 2545, 2547, 2549, 2551, 2553, 2555, 2557, 2559, 2561, 2563, 2565, 2567, 2569, 2571, 2573, 2575, 2577, 2579, 2581, 2583, 2585, 2587, 2589, 2591, 2593, 2595, 2597, 2599, 2601, 2603, 2605, 2607, 2609, 2611, 2613, 2615] (by decide +kernel) (by decide +kernel)
end
section
/-! an object's fields as a function; arrays that are made; a field read and written, in one row each -/
def fl (n : Nat) (V : Nat → Value) : List Value := (List.range n).map V
theorem fl_get {n k : Nat} {V : Nat → Value} (h : k < n) : (fl n V)[k]? = some (V k) := by simp [fl, h]
theorem fl_len {n : Nat} {V : Nat → Value} : (fl n V).length = n := by simp [fl]
theorem fl_set {n k : Nat} {V : Nat → Value} {v : Value} : (fl n V).set k v = fl n (va_up V k v) := by
  apply List.ext_getElem?
  intro j
  by_cases hj : j < n
  · rw [fl_get hj]
    by_cases hk : j = k
    · subst hk
      rw [List.getElem?_set_self (by rw [fl_len]; exact hj), va_up_self]
    · rw [List.getElem?_set_ne (fun z => hk z.symm), fl_get hj, va_up_ne _ _ hk]
  · rw [List.getElem?_eq_none (by rw [List.length_set, fl_len]; omega), List.getElem?_eq_none (by rw [fl_len]; omega)]
theorem ty_same {s : State} {cA cB : ClassId} {ty : FieldType} (hp : ∀ C, ty ≠ .object C) (h : va_RA s cA ty) (h' : va_RA s cB ty) : cA = cB := by
  cases ty with
  | object C => exact absurd rfl (hp C)
  | _ => exact Option.some.inj (Eq.trans (Eq.symm h) h')
section MCRO
variable {p : Program} {l : Launch} {e : Env} {R : Room} {s : State} {m : MethodId} {args : Array Value} {below : List Frame} {meth : Method} {c : Code} {H : Heap} {locs : List Loc} {cells slots : Nat} {Q : State → Prop}
variable {cc : ByteArray} {pc : Nat} {ls : Array Slot} {rest : List Value} {a : Nat} {D : va_G} {cl : List vw_C} {tys : List (ClassId × FieldType)} {ws : va_W} {A : Nat → Prop} {H0 : Heap}
/-- a new array, whose class is one of those known -/
theorem nw_any (hx : p.tables.exec = Jvm.exec) (hb : c.code = cc) {atype : ArrayType} (harr : (Cond.arrayClass (newarray.typeOf atype)).before args s = true) {ty : FieldType} (hty : newarray.typeOf atype = ty) (hno : ∀ C, ty ≠ .object C) (hK : va_K D cl tys s) (t0 : Nat) {cA : ClassId} (ht : tys[t0]? = some (cA, ty)) (hP : va_P D cl ws H) (hD : va_D A ws) (hS : va_S A H0 H locs) (hA : ∀ q, H0.size ≤ q → A q)
    {n : Int32} {N : Nat} {a0 : vp_A} (ha : ∀ cA : ClassId, vp_cell cA a0 = arrV cA N (fun _ => defaultValue ty)) (hn : ¬ n < 0) (hN : n.toNatClampNeg = N) (hbytes : N * componentBytes ty ≤ 536870912) (hcells : cells + 1 ≤ R.cells) (hslots : slots + N ≤ R.slots) (hdg : decode cc pc = .ok (.newarray atype, 2))
    (kk : ∀ (q : Nat) (H1 : Heap), va_P D cl (ws ++ [(q, .inl (cA, a0))]) H1 → va_D A (ws ++ [(q, .inl (cA, a0))]) → va_S A H0 H1 locs → W p l e R s m args below meth c H1 locs (cells + 1) (slots + N) Q (F0 m (pc + 2) ls (.ref q :: rest))) : W p l e R s m args below meth c H locs cells slots Q (F0 m pc ls (.int n :: rest)) := by
  refine va_newa hx hb harr hty hK hP hD hS hA ha hn hN hbytes hcells hslots hdg (fun q cB H1 hK1 hP1 hD1 hS1 => ?_)
  have e1 : cA = cB := by
    refine ty_same hno (hK.2 t0 _ ht).2 (hK1.2 tys.length (cB, ty) ?_).2
    rw [List.getElem?_append_right (Nat.le_refl _), Nat.sub_self]
    rfl
  subst e1
  exact kk q H1 hP1 hD1 hS1
end MCRO
end
section
/-! worlds in another order; the reference's object: a field read, a field written, an array made and put into a field -/
theorem wP_perm {D : va_G} {cl : List vw_C} {ws ws' : va_W} {H : Heap} (hp : ws.Perm ws') (h : va_P D cl ws H) : va_P D cl ws' H := by
  intro k q hk
  obtain ⟨i, hi⟩ := List.getElem?_of_mem (hp.mem_iff.mpr (List.mem_of_getElem? hk))
  exact h i q hi
theorem wD_nd {A : Nat → Prop} {ws : va_W} : va_D A ws ↔ (ws.map Prod.fst).Nodup ∧ ∀ q ∈ ws, A q.1 := by
  constructor
  · intro h
    refine ⟨?_, fun q hq => ?_⟩
    · refine List.pairwise_iff_getElem.mpr (fun i j hi hj hij he => ?_)
      rw [List.getElem_map, List.getElem_map] at he
      rw [List.length_map] at hi hj
      have e1 := h.1 i j _ _ (List.getElem?_eq_getElem hi) (List.getElem?_eq_getElem hj) he
      omega
    · obtain ⟨i, hi⟩ := List.getElem?_of_mem hq
      exact h.2 i q hi
  · intro h
    refine ⟨fun i j x y hi hj hxy => ?_, fun k q hk => h.2 q (List.mem_of_getElem? hk)⟩
    obtain ⟨hli, ei⟩ := List.getElem?_eq_some_iff.mp hi
    obtain ⟨hlj, ej⟩ := List.getElem?_eq_some_iff.mp hj
    have hn := List.pairwise_iff_getElem.mp h.1
    rcases Nat.lt_trichotomy i j with q | q | q
    · exact absurd (by rw [List.getElem_map, List.getElem_map, ei, ej]; exact hxy) (hn i j (by rw [List.length_map]; exact hli) (by rw [List.length_map]; exact hlj) q)
    · exact q
    · exact absurd (by rw [List.getElem_map, List.getElem_map, ei, ej]; exact hxy.symm) (hn j i (by rw [List.length_map]; exact hlj) (by rw [List.length_map]; exact hli) q)
theorem wD_perm {A : Nat → Prop} {ws ws' : va_W} (hp : ws.Perm ws') (h : va_D A ws) : va_D A ws' := by
  have h1 := wD_nd.mp h
  exact wD_nd.mpr ⟨(hp.map Prod.fst).nodup_iff.mp h1.1, fun q hq => h1.2 q (hp.mem_iff.mpr hq)⟩
theorem w_front (x y : Nat × va_E) (rst : va_W) : (x :: rst ++ [y]).Perm (x :: y :: rst) := List.Perm.cons x (List.perm_append_singleton y rst)
theorem f1_M : ∀ k, k < 171 → (F_M k).1 = R_M := by decide +kernel
section MODM
variable {p : Program} {l : Launch} {e : Env} {R : Room} {s : State} {m : MethodId} {args : Array Value} {below : List Frame} {meth : Method} {c : Code} {H : Heap} {locs : List Loc} {cells slots : Nat} {Q : State → Prop}
variable {cc : ByteArray} {pc : Nat} {ls : Array Slot} {rest : List Value} {a : Nat} {D : va_G} {cl : List vw_C} {tys : List (ClassId × FieldType)} {ws : va_W} {A : Nat → Prop} {H0 : Heap} {iM : Nat} {V : Nat → Value} {index : Nat} {v : Value}
theorem mf_get (hx : p.tables.exec = Jvm.exec) (hb : c.code = cc) (ht : ∀ w ∈ wd_tbl, w.before args s = true) (hown : s.vm.findClass R_M = some m.cls) (hM : cl[iM]? = some (R_M, F_M, 171)) (hK : va_K D cl tys s) (hP : va_P D cl ws H) (q0 : Nat) (he : ws[q0]? = some (a, .inr (iM, fl 171 V))) (k : Nat) (hk : k < 171) (hlink : Cond.fieldLink R_M index R_M (F_M k).2.1 (F_M k).2.2.1 ∈ wd_tbl) (hv : V k = v) (hdg : decode cc pc = .ok (.getfield index, 3))
    (kk : W p l e R s m args below meth c H locs cells slots Q (F0 m (pc + 3) ls (v :: rest))) : W p l e R s m args below meth c H locs cells slots Q (F0 m pc ls (.ref a :: rest)) :=
  va_get hx hb ht i_M hown hK hP q0 he hM k hk (ht _ hlink) (fun x h => by rw [f1_M k hk] at h; exact h) (by rw [fl_get hk, hv]) hdg kk
theorem mf_put (hx : p.tables.exec = Jvm.exec) (hb : c.code = cc) (ht : ∀ w ∈ wd_tbl, w.before args s = true) (hown : s.vm.findClass R_M = some m.cls) (hM : cl[iM]? = some (R_M, F_M, 171)) (hK : va_K D cl tys s) (hP : va_P D cl ws H) (hD : va_D A ws) (hS : va_S A H0 H locs) (q0 : Nat) (he : ws[q0]? = some (a, .inr (iM, fl 171 V))) (k : Nat) (hk : k < 171) (hlink : Cond.fieldLink R_M index R_M (F_M k).2.1 (F_M k).2.2.1 ∈ wd_tbl) (hfin : (F_M k).2.2.2 = false) (hn : narrow (t_M k) v = v) (hfit : fits (t_M k) v = true) (hdg : decode cc pc = .ok (.putfield index, 3))
    (kk : ∀ (H1 : Heap) (locs1 : List Loc), va_P D cl (ws.set q0 (a, .inr (iM, fl 171 (va_up V k v)))) H1 → va_D A (ws.set q0 (a, .inr (iM, fl 171 (va_up V k v)))) → va_S A H0 H1 locs1 → W p l e R s m args below meth c H1 locs1 cells slots Q (F0 m (pc + 3) ls rest)) : W p l e R s m args below meth c H locs cells slots Q (F0 m pc ls (v :: .ref a :: rest)) := by
  refine va_put hx hb ht i_M t_M t_M_ok n_M hown hK hP hD hS q0 he hM k hk (ht _ hlink) (fun x h => by rw [f1_M k hk] at h; exact h) hfin (t_M_ok k hk) hn hfit (by rw [fl_len]; exact hk) hdg (fun H1 locs1 hP1 hD1 hS1 => ?_)
  rw [fl_set] at hP1 hD1
  exact kk H1 locs1 hP1 hD1 hS1
theorem mf_putF (hx : p.tables.exec = Jvm.exec) (hb : c.code = cc) (ht : ∀ w ∈ wd_tbl, w.before args s = true) (hown : s.vm.findClass R_M = some m.cls) (hM : cl[iM]? = some (R_M, F_M, 171)) (hK : va_K D cl tys s) (hP : va_P D cl ws H) (hD : va_D A ws) (hS : va_S A H0 H locs) (q0 : Nat) (he : ws[q0]? = some (a, .inr (iM, fl 171 V))) (k : Nat) (hk : k < 171) (hlink : Cond.fieldLink R_M index R_M (F_M k).2.1 (F_M k).2.2.1 ∈ wd_tbl) (hfin : (F_M k).2.2.2 = true) (hin : meth.name = "<init>") (hn : narrow (t_M k) v = v) (hfit : fits (t_M k) v = true) (hdg : decode cc pc = .ok (.putfield index, 3))
    (kk : ∀ (H1 : Heap) (locs1 : List Loc), va_P D cl (ws.set q0 (a, .inr (iM, fl 171 (va_up V k v)))) H1 → va_D A (ws.set q0 (a, .inr (iM, fl 171 (va_up V k v)))) → va_S A H0 H1 locs1 → W p l e R s m args below meth c H1 locs1 cells slots Q (F0 m (pc + 3) ls rest)) : W p l e R s m args below meth c H locs cells slots Q (F0 m pc ls (v :: .ref a :: rest)) := by
  refine va_putF hx hb ht i_M t_M t_M_ok n_M hown hK hP hD hS q0 he hM k hk (ht _ hlink) (fun x h => by rw [f1_M k hk] at h; exact h) hfin hin (f1_M k hk) (t_M_ok k hk) hn hfit (by rw [fl_len]; exact hk) hdg (fun H1 locs1 hP1 hD1 hS1 => ?_)
  rw [fl_set] at hP1 hD1
  exact kk H1 locs1 hP1 hD1 hS1
end MODM
end
section
/-! an instruction out of its bytes alone, for long methods -/
def bt (c : ByteArray) (k : Nat) (x : UInt8) : Prop := c.data[k]? = some x
theorem u1_run {c : ByteArray} {k : Nat} {x : UInt8} (h : bt c k x) : (Reader.u1 : Decoder Nat).runAt c k = .ok (x.toNat, k + 1) := by
  obtain ⟨h1, h2⟩ := Array.getElem?_eq_some_iff.mp h
  have h3 : k < c.size := h1
  have h4 : c[k] = x := h2
  unfold Reader.u1 Reader.runAt
  show (dite (k < c.size) _ _ : Decoder Nat) c k = _
  rw [dif_pos h3]
  show Except.ok (c[k].toNat, k + 1) = _
  rw [h4]
theorem rn_bind {α β : Type} {r : Decoder α} {f : α → Decoder β} {c : ByteArray} {k j : Nat} {x : α} (h : r.runAt c k = .ok (x, j)) : (r >>= f).runAt c k = (f x).runAt c j := by
  show Except.bind (r.runAt c k) (fun q => (f q.1).runAt c q.2) = _
  rw [h]
  rfl
theorem rn_map {α β : Type} {r : Decoder α} {f : α → β} {c : ByteArray} {k j : Nat} {x : α} (h : r.runAt c k = .ok (x, j)) : (f <$> r).runAt c k = .ok (f x, j) := by
  show Except.bind (r.runAt c k) (fun q => Except.ok (f q.1, q.2)) = _
  rw [h]
  rfl
theorem dc_of {c : ByteArray} {pc j : Nat} {i : Instr} (h : (Decoder.instr pc).runAt c pc = .ok (i, j)) : decode c pc = .ok (i, j - pc) := by
  show Except.bind ((Decoder.instr pc).runAt c pc) (fun q => Except.ok (q.1, q.2 - pc)) = _
  rw [h]
  rfl
theorem dc_dup {c : ByteArray} {pc : Nat} (h : bt c pc 0x59) : decode c pc = .ok (.dup, 1) := by
  have h2 : (Decoder.instr pc).runAt c pc = .ok (Instr.dup, pc + 1) := rn_bind (u1_run h)
  rw [dc_of h2, Nat.add_sub_cancel_left]
theorem dc_bipush {c : ByteArray} {pc : Nat} {x : UInt8} {v : Int} (h : bt c pc 0x10) (h1 : bt c (pc + 1) x) (hv : Reader.signed 8 x.toNat = v) : decode c pc = .ok (.bipush v, 2) := by
  have h3 : (Reader.s1 : Decoder Int).runAt c (pc + 1) = .ok (v, pc + 1 + 1) := by
    rw [← hv]
    exact rn_map (u1_run h1)
  have h2 : (Decoder.instr pc).runAt c pc = .ok (Instr.bipush v, pc + 2) := (rn_bind (u1_run h)).trans (rn_bind h3)
  rw [dc_of h2, Nat.add_sub_cancel_left]
theorem rn_u2 {c : ByteArray} {k : Nat} {x y : UInt8} (h : bt c k x) (h1 : bt c (k + 1) y) : (Reader.u2 : Decoder Nat).runAt c k = .ok (x.toNat * 256 + y.toNat, k + 2) :=
  (rn_bind (u1_run h)).trans (rn_bind (u1_run h1))
theorem dc_aload0 {c : ByteArray} {pc : Nat} (h : bt c pc 0x2a) : decode c pc = .ok (.aload_n 0, 1) := by
  have h2 : (Decoder.instr pc).runAt c pc = .ok (Instr.aload_n 0, pc + 1) := rn_bind (u1_run h)
  rw [dc_of h2, Nat.add_sub_cancel_left]
theorem dc_bastore {c : ByteArray} {pc : Nat} (h : bt c pc 0x54) : decode c pc = .ok (.bastore, 1) := by
  have h2 : (Decoder.instr pc).runAt c pc = .ok (Instr.bastore, pc + 1) := rn_bind (u1_run h)
  rw [dc_of h2, Nat.add_sub_cancel_left]
theorem dc_return {c : ByteArray} {pc : Nat} (h : bt c pc 0xb1) : decode c pc = .ok (.return_, 1) := by
  have h2 : (Decoder.instr pc).runAt c pc = .ok (Instr.return_, pc + 1) := rn_bind (u1_run h)
  rw [dc_of h2, Nat.add_sub_cancel_left]
theorem dc_iconst_m1 {c : ByteArray} {pc : Nat} (h : bt c pc 0x02) : decode c pc = .ok (.iconst (-1), 1) := by
  have h2 : (Decoder.instr pc).runAt c pc = .ok (Instr.iconst (-1), pc + 1) := rn_bind (u1_run h)
  rw [dc_of h2, Nat.add_sub_cancel_left]
theorem dc_iconst_0 {c : ByteArray} {pc : Nat} (h : bt c pc 0x03) : decode c pc = .ok (.iconst 0, 1) := by
  have h2 : (Decoder.instr pc).runAt c pc = .ok (Instr.iconst 0, pc + 1) := rn_bind (u1_run h)
  rw [dc_of h2, Nat.add_sub_cancel_left]
theorem dc_iconst_1 {c : ByteArray} {pc : Nat} (h : bt c pc 0x04) : decode c pc = .ok (.iconst 1, 1) := by
  have h2 : (Decoder.instr pc).runAt c pc = .ok (Instr.iconst 1, pc + 1) := rn_bind (u1_run h)
  rw [dc_of h2, Nat.add_sub_cancel_left]
theorem dc_iconst_2 {c : ByteArray} {pc : Nat} (h : bt c pc 0x05) : decode c pc = .ok (.iconst 2, 1) := by
  have h2 : (Decoder.instr pc).runAt c pc = .ok (Instr.iconst 2, pc + 1) := rn_bind (u1_run h)
  rw [dc_of h2, Nat.add_sub_cancel_left]
theorem dc_iconst_3 {c : ByteArray} {pc : Nat} (h : bt c pc 0x06) : decode c pc = .ok (.iconst 3, 1) := by
  have h2 : (Decoder.instr pc).runAt c pc = .ok (Instr.iconst 3, pc + 1) := rn_bind (u1_run h)
  rw [dc_of h2, Nat.add_sub_cancel_left]
theorem dc_iconst_4 {c : ByteArray} {pc : Nat} (h : bt c pc 0x07) : decode c pc = .ok (.iconst 4, 1) := by
  have h2 : (Decoder.instr pc).runAt c pc = .ok (Instr.iconst 4, pc + 1) := rn_bind (u1_run h)
  rw [dc_of h2, Nat.add_sub_cancel_left]
theorem dc_iconst_5 {c : ByteArray} {pc : Nat} (h : bt c pc 0x08) : decode c pc = .ok (.iconst 5, 1) := by
  have h2 : (Decoder.instr pc).runAt c pc = .ok (Instr.iconst 5, pc + 1) := rn_bind (u1_run h)
  rw [dc_of h2, Nat.add_sub_cancel_left]
theorem dc_ldc {c : ByteArray} {pc : Nat} {x : UInt8} {v : Nat} (h : bt c pc 0x12) (h1 : bt c (pc + 1) x) (hv : x.toNat = v) : decode c pc = .ok (.ldc v, 2) := by
  have h2 : (Decoder.instr pc).runAt c pc = .ok (Instr.ldc v, pc + 2) := by
    rw [← hv]
    exact (rn_bind (u1_run h)).trans (rn_bind (u1_run h1))
  rw [dc_of h2, Nat.add_sub_cancel_left]
theorem dc_sipush {c : ByteArray} {pc : Nat} {x y : UInt8} {v : Int} (h : bt c pc 0x11) (h1 : bt c (pc + 1) x) (h2 : bt c (pc + 2) y) (hv : Reader.signed 16 (x.toNat * 256 + y.toNat) = v) : decode c pc = .ok (.sipush v, 3) := by
  have h3 : (Reader.s2 : Decoder Int).runAt c (pc + 1) = .ok (v, pc + 1 + 2) := by
    rw [← hv]
    exact rn_map (rn_u2 h1 h2)
  have h4 : (Decoder.instr pc).runAt c pc = .ok (Instr.sipush v, pc + 3) := (rn_bind (u1_run h)).trans (rn_bind h3)
  rw [dc_of h4, Nat.add_sub_cancel_left]
theorem dc_putfield {c : ByteArray} {pc : Nat} {x y : UInt8} {v : Nat} (h : bt c pc 0xb5) (h1 : bt c (pc + 1) x) (h2 : bt c (pc + 2) y) (hv : x.toNat * 256 + y.toNat = v) : decode c pc = .ok (.putfield v, 3) := by
  have h4 : (Decoder.instr pc).runAt c pc = .ok (Instr.putfield v, pc + 3) := by
    rw [← hv]
    exact (rn_bind (u1_run h)).trans (rn_bind (rn_u2 h1 h2))
  rw [dc_of h4, Nat.add_sub_cancel_left]
theorem dc_invokestatic {c : ByteArray} {pc : Nat} {x y : UInt8} {v : Nat} (h : bt c pc 0xb8) (h1 : bt c (pc + 1) x) (h2 : bt c (pc + 2) y) (hv : x.toNat * 256 + y.toNat = v) : decode c pc = .ok (.invokestatic v, 3) := by
  have h4 : (Decoder.instr pc).runAt c pc = .ok (Instr.invokestatic v, pc + 3) := by
    rw [← hv]
    exact (rn_bind (u1_run h)).trans (rn_bind (rn_u2 h1 h2))
  rw [dc_of h4, Nat.add_sub_cancel_left]
theorem dc_invokespecial {c : ByteArray} {pc : Nat} {x y : UInt8} {v : Nat} (h : bt c pc 0xb7) (h1 : bt c (pc + 1) x) (h2 : bt c (pc + 2) y) (hv : x.toNat * 256 + y.toNat = v) : decode c pc = .ok (.invokespecial v, 3) := by
  have h4 : (Decoder.instr pc).runAt c pc = .ok (Instr.invokespecial v, pc + 3) := by
    rw [← hv]
    exact (rn_bind (u1_run h)).trans (rn_bind (rn_u2 h1 h2))
  rw [dc_of h4, Nat.add_sub_cancel_left]
theorem dc_newarray {c : ByteArray} {pc : Nat} {x : UInt8} {t : ArrayType} (h : bt c pc 0xbc) (h1 : bt c (pc + 1) x) (ht : ∀ k, (match x.toNat with | 4 => Pure.pure (Instr.newarray .boolean) | 5 => Pure.pure (Instr.newarray .char) | 6 => Pure.pure (Instr.newarray .float) | 7 => Pure.pure (Instr.newarray .double) | 8 => Pure.pure (Instr.newarray .byte) | 9 => Pure.pure (Instr.newarray .short) | 10 => Pure.pure (Instr.newarray .int) | 11 => Pure.pure (Instr.newarray .long) | _ => throw (DecodeError.badOperand pc "newarray: atype") : Decoder Instr).runAt c k = .ok (Instr.newarray t, k)) : decode c pc = .ok (.newarray t, 2) := by
  have h2 : (Decoder.instr pc).runAt c pc = .ok (Instr.newarray t, pc + 2) := (rn_bind (u1_run h)).trans ((rn_bind (u1_run h1)).trans (ht _))
  rw [dc_of h2, Nat.add_sub_cancel_left]
end
section
theorem gt_step {c : ByteArray} {A B : List UInt8} {i : Nat} (h : ∀ k, c.data[100 * i + k]? = (A ++ B)[k]?) (hA : A.length = 100) (k : Nat) : c.data[100 * (i + 1) + k]? = B[k]? := by
  rw [Nat.mul_succ, Nat.add_assoc, h, List.getElem?_append_right (by omega), hA, Nat.add_sub_cancel_left]
abbrev b_M_init : ByteArray := prog_14_method_1_code
def y_M_init : MethodName := ⟨R_M, "<init>", "()V"⟩
def w_M_init : List Cond := wd_ws y_M_init b_M_init 1 none
set_option maxRecDepth 100000 in
theorem k_M_init : Cond.code y_M_init b_M_init 1 none ∈ wd_tbl := wd_of 2095 rfl rfl
def ch_M_init_0 : List UInt8 := [0x2a, 0xb7, 0x00, 0x01, 0x2a, 0x10, 0x4d, 0xbc, 0x08, 0x59, 0x03, 0x08, 0x54, 0x59, 0x04, 0x10, 0x61, 0x54, 0x59, 0x05, 0x10, 0x66, 0x54, 0x59, 0x06, 0x10, 0x74, 0x54, 0x59, 0x07, 0x10, 0x65, 0x54, 0x59, 0x08, 0x10, 0x72, 0x54, 0x59, 0x10, 0x06, 0x10, 0x07, 0x54, 0x59, 0x10, 0x07, 0x10, 0x61, 0x54, 0x59, 0x10, 0x08, 0x10, 0x6e, 0x54, 0x59, 0x10, 0x09, 0x10, 0x64, 0x54, 0x59, 0x10, 0x0a, 0x10, 0x61, 0x54, 0x59, 0x10, 0x0b, 0x10, 0x6c, 0x54, 0x59, 0x10, 0x0c, 0x10, 0x73, 0x54, 0x59, 0x10, 0x0d, 0x10, 0x6f, 0x54, 0x59, 0x10, 0x0e, 0x08, 0x54, 0x59, 0x10, 0x0f, 0x10, 0x62, 0x54, 0x59, 0x10, 0x10]
def ch_M_init_1 : List UInt8 := [0x10, 0x65, 0x54, 0x59, 0x10, 0x11, 0x10, 0x67, 0x54, 0x59, 0x10, 0x12, 0x10, 0x69, 0x54, 0x59, 0x10, 0x13, 0x10, 0x6e, 0x54, 0x59, 0x10, 0x14, 0x07, 0x54, 0x59, 0x10, 0x15, 0x10, 0x63, 0x54, 0x59, 0x10, 0x16, 0x10, 0x61, 0x54, 0x59, 0x10, 0x17, 0x10, 0x73, 0x54, 0x59, 0x10, 0x18, 0x10, 0x65, 0x54, 0x59, 0x10, 0x19, 0x08, 0x54, 0x59, 0x10, 0x1a, 0x10, 0x63, 0x54, 0x59, 0x10, 0x1b, 0x10, 0x61, 0x54, 0x59, 0x10, 0x1c, 0x10, 0x74, 0x54, 0x59, 0x10, 0x1d, 0x10, 0x63, 0x54, 0x59, 0x10, 0x1e, 0x10, 0x68, 0x54, 0x59, 0x10, 0x1f, 0x06, 0x54, 0x59, 0x10, 0x20, 0x10, 0x64, 0x54, 0x59, 0x10, 0x21, 0x10]
def ch_M_init_2 : List UInt8 := [0x69, 0x54, 0x59, 0x10, 0x22, 0x10, 0x76, 0x54, 0x59, 0x10, 0x23, 0x06, 0x54, 0x59, 0x10, 0x24, 0x10, 0x65, 0x54, 0x59, 0x10, 0x25, 0x10, 0x6e, 0x54, 0x59, 0x10, 0x26, 0x10, 0x64, 0x54, 0x59, 0x10, 0x27, 0x06, 0x54, 0x59, 0x10, 0x28, 0x10, 0x66, 0x54, 0x59, 0x10, 0x29, 0x10, 0x75, 0x54, 0x59, 0x10, 0x2a, 0x10, 0x6e, 0x54, 0x59, 0x10, 0x2b, 0x05, 0x54, 0x59, 0x10, 0x2c, 0x10, 0x69, 0x54, 0x59, 0x10, 0x2d, 0x10, 0x66, 0x54, 0x59, 0x10, 0x2e, 0x06, 0x54, 0x59, 0x10, 0x2f, 0x10, 0x6e, 0x54, 0x59, 0x10, 0x30, 0x10, 0x6f, 0x54, 0x59, 0x10, 0x31, 0x10, 0x74, 0x54, 0x59, 0x10, 0x32, 0x05, 0x54, 0x59]
def ch_M_init_3 : List UInt8 := [0x10, 0x33, 0x10, 0x6f, 0x54, 0x59, 0x10, 0x34, 0x10, 0x66, 0x54, 0x59, 0x10, 0x35, 0x10, 0x06, 0x54, 0x59, 0x10, 0x36, 0x10, 0x6f, 0x54, 0x59, 0x10, 0x37, 0x10, 0x72, 0x54, 0x59, 0x10, 0x38, 0x10, 0x65, 0x54, 0x59, 0x10, 0x39, 0x10, 0x6c, 0x54, 0x59, 0x10, 0x3a, 0x10, 0x73, 0x54, 0x59, 0x10, 0x3b, 0x10, 0x65, 0x54, 0x59, 0x10, 0x3c, 0x10, 0x07, 0x54, 0x59, 0x10, 0x3d, 0x10, 0x72, 0x54, 0x59, 0x10, 0x3e, 0x10, 0x65, 0x54, 0x59, 0x10, 0x3f, 0x10, 0x63, 0x54, 0x59, 0x10, 0x40, 0x10, 0x65, 0x54, 0x59, 0x10, 0x41, 0x10, 0x69, 0x54, 0x59, 0x10, 0x42, 0x10, 0x76, 0x54, 0x59, 0x10, 0x43, 0x10, 0x65]
def ch_M_init_4 : List UInt8 := [0x54, 0x59, 0x10, 0x44, 0x06, 0x54, 0x59, 0x10, 0x45, 0x10, 0x72, 0x54, 0x59, 0x10, 0x46, 0x10, 0x65, 0x54, 0x59, 0x10, 0x47, 0x10, 0x6d, 0x54, 0x59, 0x10, 0x48, 0x07, 0x54, 0x59, 0x10, 0x49, 0x10, 0x77, 0x54, 0x59, 0x10, 0x4a, 0x10, 0x68, 0x54, 0x59, 0x10, 0x4b, 0x10, 0x65, 0x54, 0x59, 0x10, 0x4c, 0x10, 0x6e, 0x54, 0xb5, 0x00, 0x07, 0x2a, 0x11, 0x00, 0xa1, 0xbc, 0x08, 0x59, 0x03, 0x07, 0x54, 0x59, 0x04, 0x10, 0x74, 0x54, 0x59, 0x05, 0x10, 0x72, 0x54, 0x59, 0x06, 0x10, 0x75, 0x54, 0x59, 0x07, 0x10, 0x65, 0x54, 0x59, 0x08, 0x08, 0x54, 0x59, 0x10, 0x06, 0x10, 0x66, 0x54, 0x59, 0x10, 0x07, 0x10]
def ch_M_init_5 : List UInt8 := [0x61, 0x54, 0x59, 0x10, 0x08, 0x10, 0x6c, 0x54, 0x59, 0x10, 0x09, 0x10, 0x73, 0x54, 0x59, 0x10, 0x0a, 0x10, 0x65, 0x54, 0x59, 0x10, 0x0b, 0x05, 0x54, 0x59, 0x10, 0x0c, 0x10, 0x6f, 0x54, 0x59, 0x10, 0x0d, 0x10, 0x6b, 0x54, 0x59, 0x10, 0x0e, 0x07, 0x54, 0x59, 0x10, 0x0f, 0x10, 0x6e, 0x54, 0x59, 0x10, 0x10, 0x10, 0x6f, 0x54, 0x59, 0x10, 0x11, 0x10, 0x6e, 0x54, 0x59, 0x10, 0x12, 0x10, 0x65, 0x54, 0x59, 0x10, 0x13, 0x10, 0x06, 0x54, 0x59, 0x10, 0x14, 0x10, 0x6e, 0x54, 0x59, 0x10, 0x15, 0x10, 0x6f, 0x54, 0x59, 0x10, 0x16, 0x10, 0x72, 0x54, 0x59, 0x10, 0x17, 0x10, 0x6d, 0x54, 0x59, 0x10, 0x18, 0x10]
def ch_M_init_6 : List UInt8 := [0x61, 0x54, 0x59, 0x10, 0x19, 0x10, 0x6c, 0x54, 0x59, 0x10, 0x1a, 0x07, 0x54, 0x59, 0x10, 0x1b, 0x10, 0x6b, 0x54, 0x59, 0x10, 0x1c, 0x10, 0x69, 0x54, 0x59, 0x10, 0x1d, 0x10, 0x6c, 0x54, 0x59, 0x10, 0x1e, 0x10, 0x6c, 0x54, 0x59, 0x10, 0x1f, 0x10, 0x06, 0x54, 0x59, 0x10, 0x20, 0x10, 0x6b, 0x54, 0x59, 0x10, 0x21, 0x10, 0x69, 0x54, 0x59, 0x10, 0x22, 0x10, 0x6c, 0x54, 0x59, 0x10, 0x23, 0x10, 0x6c, 0x54, 0x59, 0x10, 0x24, 0x10, 0x65, 0x54, 0x59, 0x10, 0x25, 0x10, 0x64, 0x54, 0x59, 0x10, 0x26, 0x08, 0x54, 0x59, 0x10, 0x27, 0x10, 0x65, 0x54, 0x59, 0x10, 0x28, 0x10, 0x72, 0x54, 0x59, 0x10, 0x29, 0x10]
def ch_M_init_7 : List UInt8 := [0x72, 0x54, 0x59, 0x10, 0x2a, 0x10, 0x6f, 0x54, 0x59, 0x10, 0x2b, 0x10, 0x72, 0x54, 0x59, 0x10, 0x2c, 0x07, 0x54, 0x59, 0x10, 0x2d, 0x10, 0x65, 0x54, 0x59, 0x10, 0x2e, 0x10, 0x78, 0x54, 0x59, 0x10, 0x2f, 0x10, 0x69, 0x54, 0x59, 0x10, 0x30, 0x10, 0x74, 0x54, 0x59, 0x10, 0x31, 0x07, 0x54, 0x59, 0x10, 0x32, 0x10, 0x64, 0x54, 0x59, 0x10, 0x33, 0x10, 0x6f, 0x54, 0x59, 0x10, 0x34, 0x10, 0x77, 0x54, 0x59, 0x10, 0x35, 0x10, 0x6e, 0x54, 0x59, 0x10, 0x36, 0x10, 0x08, 0x54, 0x59, 0x10, 0x37, 0x10, 0x69, 0x54, 0x59, 0x10, 0x38, 0x10, 0x6e, 0x54, 0x59, 0x10, 0x39, 0x10, 0x66, 0x54, 0x59, 0x10, 0x3a, 0x10]
def ch_M_init_8 : List UInt8 := [0x69, 0x54, 0x59, 0x10, 0x3b, 0x10, 0x6e, 0x54, 0x59, 0x10, 0x3c, 0x10, 0x69, 0x54, 0x59, 0x10, 0x3d, 0x10, 0x74, 0x54, 0x59, 0x10, 0x3e, 0x10, 0x79, 0x54, 0x59, 0x10, 0x3f, 0x10, 0x06, 0x54, 0x59, 0x10, 0x40, 0x10, 0x62, 0x54, 0x59, 0x10, 0x41, 0x10, 0x61, 0x54, 0x59, 0x10, 0x42, 0x10, 0x64, 0x54, 0x59, 0x10, 0x43, 0x10, 0x61, 0x54, 0x59, 0x10, 0x44, 0x10, 0x72, 0x54, 0x59, 0x10, 0x45, 0x10, 0x67, 0x54, 0x59, 0x10, 0x46, 0x10, 0x08, 0x54, 0x59, 0x10, 0x47, 0x10, 0x62, 0x54, 0x59, 0x10, 0x48, 0x10, 0x61, 0x54, 0x59, 0x10, 0x49, 0x10, 0x64, 0x54, 0x59, 0x10, 0x4a, 0x10, 0x61, 0x54, 0x59, 0x10]
def ch_M_init_9 : List UInt8 := [0x4b, 0x10, 0x72, 0x54, 0x59, 0x10, 0x4c, 0x10, 0x69, 0x54, 0x59, 0x10, 0x4d, 0x10, 0x74, 0x54, 0x59, 0x10, 0x4e, 0x10, 0x68, 0x54, 0x59, 0x10, 0x4f, 0x10, 0x08, 0x54, 0x59, 0x10, 0x50, 0x10, 0x62, 0x54, 0x59, 0x10, 0x51, 0x10, 0x61, 0x54, 0x59, 0x10, 0x52, 0x10, 0x64, 0x54, 0x59, 0x10, 0x53, 0x10, 0x6d, 0x54, 0x59, 0x10, 0x54, 0x10, 0x61, 0x54, 0x59, 0x10, 0x55, 0x10, 0x74, 0x54, 0x59, 0x10, 0x56, 0x10, 0x63, 0x54, 0x59, 0x10, 0x57, 0x10, 0x68, 0x54, 0x59, 0x10, 0x58, 0x10, 0x0f, 0x54, 0x59, 0x10, 0x59, 0x10, 0x66, 0x54, 0x59, 0x10, 0x5a, 0x10, 0x75, 0x54, 0x59, 0x10, 0x5b, 0x10, 0x6e, 0x54]
def ch_M_init_10 : List UInt8 := [0x59, 0x10, 0x5c, 0x10, 0x63, 0x54, 0x59, 0x10, 0x5d, 0x10, 0x74, 0x54, 0x59, 0x10, 0x5e, 0x10, 0x69, 0x54, 0x59, 0x10, 0x5f, 0x10, 0x6f, 0x54, 0x59, 0x10, 0x60, 0x10, 0x6e, 0x54, 0x59, 0x10, 0x61, 0x10, 0x5f, 0x54, 0x59, 0x10, 0x62, 0x10, 0x63, 0x54, 0x59, 0x10, 0x63, 0x10, 0x6c, 0x54, 0x59, 0x10, 0x64, 0x10, 0x61, 0x54, 0x59, 0x10, 0x65, 0x10, 0x75, 0x54, 0x59, 0x10, 0x66, 0x10, 0x73, 0x54, 0x59, 0x10, 0x67, 0x10, 0x65, 0x54, 0x59, 0x10, 0x68, 0x10, 0x0b, 0x54, 0x59, 0x10, 0x69, 0x10, 0x63, 0x54, 0x59, 0x10, 0x6a, 0x10, 0x61, 0x54, 0x59, 0x10, 0x6b, 0x10, 0x73, 0x54, 0x59, 0x10, 0x6c, 0x10]
def ch_M_init_11 : List UInt8 := [0x65, 0x54, 0x59, 0x10, 0x6d, 0x10, 0x5f, 0x54, 0x59, 0x10, 0x6e, 0x10, 0x63, 0x54, 0x59, 0x10, 0x6f, 0x10, 0x6c, 0x54, 0x59, 0x10, 0x70, 0x10, 0x61, 0x54, 0x59, 0x10, 0x71, 0x10, 0x75, 0x54, 0x59, 0x10, 0x72, 0x10, 0x73, 0x54, 0x59, 0x10, 0x73, 0x10, 0x65, 0x54, 0x59, 0x10, 0x74, 0x10, 0x09, 0x54, 0x59, 0x10, 0x75, 0x10, 0x69, 0x54, 0x59, 0x10, 0x76, 0x10, 0x66, 0x54, 0x59, 0x10, 0x77, 0x10, 0x5f, 0x54, 0x59, 0x10, 0x78, 0x10, 0x63, 0x54, 0x59, 0x10, 0x79, 0x10, 0x6c, 0x54, 0x59, 0x10, 0x7a, 0x10, 0x61, 0x54, 0x59, 0x10, 0x7b, 0x10, 0x75, 0x54, 0x59, 0x10, 0x7c, 0x10, 0x73, 0x54, 0x59, 0x10]
def ch_M_init_12 : List UInt8 := [0x7d, 0x10, 0x65, 0x54, 0x59, 0x10, 0x7e, 0x10, 0x06, 0x54, 0x59, 0x10, 0x7f, 0x10, 0x62, 0x54, 0x59, 0x11, 0x00, 0x80, 0x10, 0x61, 0x54, 0x59, 0x11, 0x00, 0x81, 0x10, 0x64, 0x54, 0x59, 0x11, 0x00, 0x82, 0x10, 0x66, 0x54, 0x59, 0x11, 0x00, 0x83, 0x10, 0x75, 0x54, 0x59, 0x11, 0x00, 0x84, 0x10, 0x6e, 0x54, 0x59, 0x11, 0x00, 0x85, 0x10, 0x08, 0x54, 0x59, 0x11, 0x00, 0x86, 0x10, 0x62, 0x54, 0x59, 0x11, 0x00, 0x87, 0x10, 0x61, 0x54, 0x59, 0x11, 0x00, 0x88, 0x10, 0x64, 0x54, 0x59, 0x11, 0x00, 0x89, 0x10, 0x61, 0x54, 0x59, 0x11, 0x00, 0x8a, 0x10, 0x72, 0x54, 0x59, 0x11, 0x00, 0x8b, 0x10, 0x69, 0x54]
def ch_M_init_13 : List UInt8 := [0x59, 0x11, 0x00, 0x8c, 0x10, 0x74, 0x54, 0x59, 0x11, 0x00, 0x8d, 0x10, 0x79, 0x54, 0x59, 0x11, 0x00, 0x8e, 0x10, 0x07, 0x54, 0x59, 0x11, 0x00, 0x8f, 0x10, 0x6e, 0x54, 0x59, 0x11, 0x00, 0x90, 0x10, 0x6f, 0x54, 0x59, 0x11, 0x00, 0x91, 0x10, 0x63, 0x54, 0x59, 0x11, 0x00, 0x92, 0x10, 0x61, 0x54, 0x59, 0x11, 0x00, 0x93, 0x10, 0x74, 0x54, 0x59, 0x11, 0x00, 0x94, 0x10, 0x63, 0x54, 0x59, 0x11, 0x00, 0x95, 0x10, 0x68, 0x54, 0x59, 0x11, 0x00, 0x96, 0x07, 0x54, 0x59, 0x11, 0x00, 0x97, 0x10, 0x68, 0x54, 0x59, 0x11, 0x00, 0x98, 0x10, 0x65, 0x54, 0x59, 0x11, 0x00, 0x99, 0x10, 0x61, 0x54, 0x59, 0x11, 0x00]
def ch_M_init_14 : List UInt8 := [0x9a, 0x10, 0x70, 0x54, 0x59, 0x11, 0x00, 0x9b, 0x08, 0x54, 0x59, 0x11, 0x00, 0x9c, 0x10, 0x73, 0x54, 0x59, 0x11, 0x00, 0x9d, 0x10, 0x74, 0x54, 0x59, 0x11, 0x00, 0x9e, 0x10, 0x61, 0x54, 0x59, 0x11, 0x00, 0x9f, 0x10, 0x63, 0x54, 0x59, 0x11, 0x00, 0xa0, 0x10, 0x6b, 0x54, 0xb5, 0x00, 0x0d, 0x2a, 0x11, 0x00, 0xda, 0xbc, 0x08, 0x59, 0x03, 0x03, 0x54, 0x59, 0x04, 0x07, 0x54, 0x59, 0x05, 0x10, 0x73, 0x54, 0x59, 0x06, 0x10, 0x65, 0x54, 0x59, 0x07, 0x10, 0x6c, 0x54, 0x59, 0x08, 0x10, 0x66, 0x54, 0x59, 0x10, 0x06, 0x04, 0x54, 0x59, 0x10, 0x07, 0x08, 0x54, 0x59, 0x10, 0x08, 0x10, 0x73, 0x54, 0x59, 0x10]
def ch_M_init_15 : List UInt8 := [0x09, 0x10, 0x70, 0x54, 0x59, 0x10, 0x0a, 0x10, 0x61, 0x54, 0x59, 0x10, 0x0b, 0x10, 0x77, 0x54, 0x59, 0x10, 0x0c, 0x10, 0x6e, 0x54, 0x59, 0x10, 0x0d, 0x04, 0x54, 0x59, 0x10, 0x0e, 0x07, 0x54, 0x59, 0x10, 0x0f, 0x10, 0x6c, 0x54, 0x59, 0x10, 0x10, 0x10, 0x69, 0x54, 0x59, 0x10, 0x11, 0x10, 0x6e, 0x54, 0x59, 0x10, 0x12, 0x10, 0x6b, 0x54, 0x59, 0x10, 0x13, 0x04, 0x54, 0x59, 0x10, 0x14, 0x10, 0x06, 0x54, 0x59, 0x10, 0x15, 0x10, 0x75, 0x54, 0x59, 0x10, 0x16, 0x10, 0x6e, 0x54, 0x59, 0x10, 0x17, 0x10, 0x6c, 0x54, 0x59, 0x10, 0x18, 0x10, 0x69, 0x54, 0x59, 0x10, 0x19, 0x10, 0x6e, 0x54, 0x59, 0x10, 0x1a]
def ch_M_init_16 : List UInt8 := [0x10, 0x6b, 0x54, 0x59, 0x10, 0x1b, 0x04, 0x54, 0x59, 0x10, 0x1c, 0x08, 0x54, 0x59, 0x10, 0x1d, 0x10, 0x77, 0x54, 0x59, 0x10, 0x1e, 0x10, 0x61, 0x54, 0x59, 0x10, 0x1f, 0x10, 0x74, 0x54, 0x59, 0x10, 0x20, 0x10, 0x63, 0x54, 0x59, 0x10, 0x21, 0x10, 0x68, 0x54, 0x59, 0x10, 0x22, 0x04, 0x54, 0x59, 0x10, 0x23, 0x10, 0x07, 0x54, 0x59, 0x10, 0x24, 0x10, 0x75, 0x54, 0x59, 0x10, 0x25, 0x10, 0x6e, 0x54, 0x59, 0x10, 0x26, 0x10, 0x77, 0x54, 0x59, 0x10, 0x27, 0x10, 0x61, 0x54, 0x59, 0x10, 0x28, 0x10, 0x74, 0x54, 0x59, 0x10, 0x29, 0x10, 0x63, 0x54, 0x59, 0x10, 0x2a, 0x10, 0x68, 0x54, 0x59, 0x10, 0x2b, 0x04]
def ch_M_init_17 : List UInt8 := [0x54, 0x59, 0x10, 0x2c, 0x07, 0x54, 0x59, 0x10, 0x2d, 0x10, 0x74, 0x54, 0x59, 0x10, 0x2e, 0x10, 0x72, 0x54, 0x59, 0x10, 0x2f, 0x10, 0x61, 0x54, 0x59, 0x10, 0x30, 0x10, 0x70, 0x54, 0x59, 0x10, 0x31, 0x04, 0x54, 0x59, 0x10, 0x32, 0x07, 0x54, 0x59, 0x10, 0x33, 0x10, 0x65, 0x54, 0x59, 0x10, 0x34, 0x10, 0x78, 0x54, 0x59, 0x10, 0x35, 0x10, 0x69, 0x54, 0x59, 0x10, 0x36, 0x10, 0x74, 0x54, 0x59, 0x10, 0x37, 0x05, 0x54, 0x59, 0x10, 0x38, 0x07, 0x54, 0x59, 0x10, 0x39, 0x10, 0x65, 0x54, 0x59, 0x10, 0x3a, 0x10, 0x78, 0x54, 0x59, 0x10, 0x3b, 0x10, 0x69, 0x54, 0x59, 0x10, 0x3c, 0x10, 0x74, 0x54, 0x59, 0x10]
def ch_M_init_18 : List UInt8 := [0x3d, 0x04, 0x54, 0x59, 0x10, 0x3e, 0x08, 0x54, 0x59, 0x10, 0x3f, 0x10, 0x74, 0x54, 0x59, 0x10, 0x40, 0x10, 0x68, 0x54, 0x59, 0x10, 0x41, 0x10, 0x72, 0x54, 0x59, 0x10, 0x42, 0x10, 0x6f, 0x54, 0x59, 0x10, 0x43, 0x10, 0x77, 0x54, 0x59, 0x10, 0x44, 0x04, 0x54, 0x59, 0x10, 0x45, 0x08, 0x54, 0x59, 0x10, 0x46, 0x10, 0x65, 0x54, 0x59, 0x10, 0x47, 0x10, 0x72, 0x54, 0x59, 0x10, 0x48, 0x10, 0x72, 0x54, 0x59, 0x10, 0x49, 0x10, 0x6f, 0x54, 0x59, 0x10, 0x4a, 0x10, 0x72, 0x54, 0x59, 0x10, 0x4b, 0x04, 0x54, 0x59, 0x10, 0x4c, 0x08, 0x54, 0x59, 0x10, 0x4d, 0x10, 0x70, 0x54, 0x59, 0x10, 0x4e, 0x10, 0x72, 0x54]
def ch_M_init_19 : List UInt8 := [0x59, 0x10, 0x4f, 0x10, 0x69, 0x54, 0x59, 0x10, 0x50, 0x10, 0x6e, 0x54, 0x59, 0x10, 0x51, 0x10, 0x74, 0x54, 0x59, 0x10, 0x52, 0x03, 0x54, 0x59, 0x10, 0x53, 0x06, 0x54, 0x59, 0x10, 0x54, 0x10, 0x72, 0x54, 0x59, 0x10, 0x55, 0x10, 0x65, 0x54, 0x59, 0x10, 0x56, 0x10, 0x66, 0x54, 0x59, 0x10, 0x57, 0x05, 0x54, 0x59, 0x10, 0x58, 0x07, 0x54, 0x59, 0x10, 0x59, 0x10, 0x6e, 0x54, 0x59, 0x10, 0x5a, 0x10, 0x61, 0x54, 0x59, 0x10, 0x5b, 0x10, 0x6d, 0x54, 0x59, 0x10, 0x5c, 0x10, 0x65, 0x54, 0x59, 0x10, 0x5d, 0x04, 0x54, 0x59, 0x10, 0x5e, 0x10, 0x06, 0x54, 0x59, 0x10, 0x5f, 0x10, 0x75, 0x54, 0x59, 0x10, 0x60]
def ch_M_init_20 : List UInt8 := [0x10, 0x6e, 0x54, 0x59, 0x10, 0x61, 0x10, 0x6e, 0x54, 0x59, 0x10, 0x62, 0x10, 0x61, 0x54, 0x59, 0x10, 0x63, 0x10, 0x6d, 0x54, 0x59, 0x10, 0x64, 0x10, 0x65, 0x54, 0x59, 0x10, 0x65, 0x04, 0x54, 0x59, 0x10, 0x66, 0x08, 0x54, 0x59, 0x10, 0x67, 0x10, 0x6e, 0x54, 0x59, 0x10, 0x68, 0x10, 0x61, 0x54, 0x59, 0x10, 0x69, 0x10, 0x6d, 0x54, 0x59, 0x10, 0x6a, 0x10, 0x65, 0x54, 0x59, 0x10, 0x6b, 0x10, 0x64, 0x54, 0x59, 0x10, 0x6c, 0x04, 0x54, 0x59, 0x10, 0x6d, 0x08, 0x54, 0x59, 0x10, 0x6e, 0x10, 0x61, 0x54, 0x59, 0x10, 0x6f, 0x10, 0x6c, 0x54, 0x59, 0x10, 0x70, 0x10, 0x69, 0x54, 0x59, 0x10, 0x71, 0x10, 0x76]
def ch_M_init_21 : List UInt8 := [0x54, 0x59, 0x10, 0x72, 0x10, 0x65, 0x54, 0x59, 0x10, 0x73, 0x03, 0x54, 0x59, 0x10, 0x74, 0x06, 0x54, 0x59, 0x10, 0x75, 0x10, 0x6e, 0x54, 0x59, 0x10, 0x76, 0x10, 0x6f, 0x54, 0x59, 0x10, 0x77, 0x10, 0x77, 0x54, 0x59, 0x10, 0x78, 0x04, 0x54, 0x59, 0x10, 0x79, 0x10, 0x09, 0x54, 0x59, 0x10, 0x7a, 0x10, 0x69, 0x54, 0x59, 0x10, 0x7b, 0x10, 0x73, 0x54, 0x59, 0x10, 0x7c, 0x10, 0x5f, 0x54, 0x59, 0x10, 0x7d, 0x10, 0x6e, 0x54, 0x59, 0x10, 0x7e, 0x10, 0x75, 0x54, 0x59, 0x10, 0x7f, 0x10, 0x6d, 0x54, 0x59, 0x11, 0x00, 0x80, 0x10, 0x62, 0x54, 0x59, 0x11, 0x00, 0x81, 0x10, 0x65, 0x54, 0x59, 0x11, 0x00, 0x82]
def ch_M_init_22 : List UInt8 := [0x10, 0x72, 0x54, 0x59, 0x11, 0x00, 0x83, 0x04, 0x54, 0x59, 0x11, 0x00, 0x84, 0x10, 0x07, 0x54, 0x59, 0x11, 0x00, 0x85, 0x10, 0x69, 0x54, 0x59, 0x11, 0x00, 0x86, 0x10, 0x73, 0x54, 0x59, 0x11, 0x00, 0x87, 0x10, 0x5f, 0x54, 0x59, 0x11, 0x00, 0x88, 0x10, 0x61, 0x54, 0x59, 0x11, 0x00, 0x89, 0x10, 0x74, 0x54, 0x59, 0x11, 0x00, 0x8a, 0x10, 0x6f, 0x54, 0x59, 0x11, 0x00, 0x8b, 0x10, 0x6d, 0x54, 0x59, 0x11, 0x00, 0x8c, 0x04, 0x54, 0x59, 0x11, 0x00, 0x8d, 0x10, 0x07, 0x54, 0x59, 0x11, 0x00, 0x8e, 0x10, 0x69, 0x54, 0x59, 0x11, 0x00, 0x8f, 0x10, 0x73, 0x54, 0x59, 0x11, 0x00, 0x90, 0x10, 0x5f, 0x54, 0x59]
def ch_M_init_23 : List UInt8 := [0x11, 0x00, 0x91, 0x10, 0x6c, 0x54, 0x59, 0x11, 0x00, 0x92, 0x10, 0x69, 0x54, 0x59, 0x11, 0x00, 0x93, 0x10, 0x73, 0x54, 0x59, 0x11, 0x00, 0x94, 0x10, 0x74, 0x54, 0x59, 0x11, 0x00, 0x95, 0x04, 0x54, 0x59, 0x11, 0x00, 0x96, 0x10, 0x08, 0x54, 0x59, 0x11, 0x00, 0x97, 0x10, 0x69, 0x54, 0x59, 0x11, 0x00, 0x98, 0x10, 0x73, 0x54, 0x59, 0x11, 0x00, 0x99, 0x10, 0x5f, 0x54, 0x59, 0x11, 0x00, 0x9a, 0x10, 0x74, 0x54, 0x59, 0x11, 0x00, 0x9b, 0x10, 0x75, 0x54, 0x59, 0x11, 0x00, 0x9c, 0x10, 0x70, 0x54, 0x59, 0x11, 0x00, 0x9d, 0x10, 0x6c, 0x54, 0x59, 0x11, 0x00, 0x9e, 0x10, 0x65, 0x54, 0x59, 0x11, 0x00, 0x9f]
def ch_M_init_24 : List UInt8 := [0x04, 0x54, 0x59, 0x11, 0x00, 0xa0, 0x10, 0x06, 0x54, 0x59, 0x11, 0x00, 0xa1, 0x10, 0x69, 0x54, 0x59, 0x11, 0x00, 0xa2, 0x10, 0x73, 0x54, 0x59, 0x11, 0x00, 0xa3, 0x10, 0x5f, 0x54, 0x59, 0x11, 0x00, 0xa4, 0x10, 0x66, 0x54, 0x59, 0x11, 0x00, 0xa5, 0x10, 0x75, 0x54, 0x59, 0x11, 0x00, 0xa6, 0x10, 0x6e, 0x54, 0x59, 0x11, 0x00, 0xa7, 0x04, 0x54, 0x59, 0x11, 0x00, 0xa8, 0x10, 0x0a, 0x54, 0x59, 0x11, 0x00, 0xa9, 0x10, 0x69, 0x54, 0x59, 0x11, 0x00, 0xaa, 0x10, 0x73, 0x54, 0x59, 0x11, 0x00, 0xab, 0x10, 0x5f, 0x54, 0x59, 0x11, 0x00, 0xac, 0x10, 0x70, 0x54, 0x59, 0x11, 0x00, 0xad, 0x10, 0x72, 0x54, 0x59]
def ch_M_init_25 : List UInt8 := [0x11, 0x00, 0xae, 0x10, 0x6f, 0x54, 0x59, 0x11, 0x00, 0xaf, 0x10, 0x63, 0x54, 0x59, 0x11, 0x00, 0xb0, 0x10, 0x65, 0x54, 0x59, 0x11, 0x00, 0xb1, 0x10, 0x73, 0x54, 0x59, 0x11, 0x00, 0xb2, 0x10, 0x73, 0x54, 0x59, 0x11, 0x00, 0xb3, 0x04, 0x54, 0x59, 0x11, 0x00, 0xb4, 0x10, 0x06, 0x54, 0x59, 0x11, 0x00, 0xb5, 0x10, 0x69, 0x54, 0x59, 0x11, 0x00, 0xb6, 0x10, 0x73, 0x54, 0x59, 0x11, 0x00, 0xb7, 0x10, 0x5f, 0x54, 0x59, 0x11, 0x00, 0xb8, 0x10, 0x72, 0x54, 0x59, 0x11, 0x00, 0xb9, 0x10, 0x65, 0x54, 0x59, 0x11, 0x00, 0xba, 0x10, 0x66, 0x54, 0x59, 0x11, 0x00, 0xbb, 0x04, 0x54, 0x59, 0x11, 0x00, 0xbc, 0x05]
def ch_M_init_26 : List UInt8 := [0x54, 0x59, 0x11, 0x00, 0xbd, 0x10, 0x68, 0x54, 0x59, 0x11, 0x00, 0xbe, 0x10, 0x64, 0x54, 0x59, 0x11, 0x00, 0xbf, 0x04, 0x54, 0x59, 0x11, 0x00, 0xc0, 0x05, 0x54, 0x59, 0x11, 0x00, 0xc1, 0x10, 0x74, 0x54, 0x59, 0x11, 0x00, 0xc2, 0x10, 0x6c, 0x54, 0x59, 0x11, 0x00, 0xc3, 0x04, 0x54, 0x59, 0x11, 0x00, 0xc4, 0x10, 0x06, 0x54, 0x59, 0x11, 0x00, 0xc5, 0x10, 0x6c, 0x54, 0x59, 0x11, 0x00, 0xc6, 0x10, 0x65, 0x54, 0x59, 0x11, 0x00, 0xc7, 0x10, 0x6e, 0x54, 0x59, 0x11, 0x00, 0xc8, 0x10, 0x67, 0x54, 0x59, 0x11, 0x00, 0xc9, 0x10, 0x74, 0x54, 0x59, 0x11, 0x00, 0xca, 0x10, 0x68, 0x54, 0x59, 0x11, 0x00, 0xcb]
def ch_M_init_27 : List UInt8 := [0x05, 0x54, 0x59, 0x11, 0x00, 0xcc, 0x10, 0x07, 0x54, 0x59, 0x11, 0x00, 0xcd, 0x10, 0x65, 0x54, 0x59, 0x11, 0x00, 0xce, 0x10, 0x6c, 0x54, 0x59, 0x11, 0x00, 0xcf, 0x10, 0x65, 0x54, 0x59, 0x11, 0x00, 0xd0, 0x10, 0x6d, 0x54, 0x59, 0x11, 0x00, 0xd1, 0x10, 0x65, 0x54, 0x59, 0x11, 0x00, 0xd2, 0x10, 0x6e, 0x54, 0x59, 0x11, 0x00, 0xd3, 0x10, 0x74, 0x54, 0x59, 0x11, 0x00, 0xd4, 0x04, 0x54, 0x59, 0x11, 0x00, 0xd5, 0x07, 0x54, 0x59, 0x11, 0x00, 0xd6, 0x10, 0x73, 0x54, 0x59, 0x11, 0x00, 0xd7, 0x10, 0x69, 0x54, 0x59, 0x11, 0x00, 0xd8, 0x10, 0x7a, 0x54, 0x59, 0x11, 0x00, 0xd9, 0x10, 0x65, 0x54, 0xb5, 0x00]
def ch_M_init_28 : List UInt8 := [0x10, 0x2a, 0x11, 0x0f, 0xa0, 0xbc, 0x08, 0xb5, 0x00, 0x13, 0x2a, 0x11, 0x0f, 0xa2, 0xbc, 0x08, 0xb5, 0x00, 0x16, 0x2a, 0x11, 0x0f, 0xa2, 0xbc, 0x0a, 0xb5, 0x00, 0x19, 0x2a, 0x11, 0x0f, 0xa2, 0xbc, 0x0a, 0xb5, 0x00, 0x1d, 0x2a, 0x11, 0x13, 0x88, 0xbc, 0x08, 0xb5, 0x00, 0x20, 0x2a, 0x11, 0x08, 0x98, 0xbc, 0x0a, 0xb5, 0x00, 0x23, 0x2a, 0x11, 0x13, 0x88, 0xbc, 0x08, 0xb5, 0x00, 0x26, 0x2a, 0x11, 0x08, 0x98, 0xbc, 0x0a, 0xb5, 0x00, 0x29, 0x2a, 0x11, 0x0f, 0xa2, 0xbc, 0x08, 0xb5, 0x00, 0x2c, 0x2a, 0x11, 0x07, 0xd2, 0xbc, 0x0a, 0xb5, 0x00, 0x2f, 0x2a, 0x10, 0x15, 0xbc, 0x08, 0x59, 0x03, 0x10, 0x2d]
def ch_M_init_29 : List UInt8 := [0x54, 0x59, 0x04, 0x10, 0x3e, 0x54, 0x59, 0x05, 0x10, 0x0a, 0x54, 0x59, 0x06, 0x10, 0x3d, 0x54, 0x59, 0x07, 0x10, 0x3d, 0x54, 0x59, 0x08, 0x10, 0x0c, 0x54, 0x59, 0x10, 0x06, 0x10, 0x2f, 0x54, 0x59, 0x10, 0x07, 0x10, 0x3d, 0x54, 0x59, 0x10, 0x08, 0x10, 0x0d, 0x54, 0x59, 0x10, 0x09, 0x10, 0x3d, 0x54, 0x59, 0x10, 0x0a, 0x10, 0x3c, 0x54, 0x59, 0x10, 0x0b, 0x10, 0x0f, 0x54, 0x59, 0x10, 0x0c, 0x10, 0x3e, 0x54, 0x59, 0x10, 0x0d, 0x10, 0x3d, 0x54, 0x59, 0x10, 0x0e, 0x10, 0x11, 0x54, 0x59, 0x10, 0x0f, 0x10, 0x2b, 0x54, 0x59, 0x10, 0x10, 0x10, 0x2b, 0x54, 0x59, 0x10, 0x11, 0x10, 0x16, 0x54, 0x59, 0x10]
def ch_M_init_30 : List UInt8 := [0x12, 0x10, 0x2d, 0x54, 0x59, 0x10, 0x13, 0x10, 0x2d, 0x54, 0x59, 0x10, 0x14, 0x10, 0x17, 0x54, 0xb5, 0x00, 0x32, 0x2a, 0x10, 0x24, 0xbc, 0x08, 0x59, 0x03, 0x10, 0x28, 0x54, 0x59, 0x04, 0x03, 0x54, 0x59, 0x05, 0x10, 0x29, 0x54, 0x59, 0x06, 0x04, 0x54, 0x59, 0x07, 0x10, 0x7b, 0x54, 0x59, 0x08, 0x05, 0x54, 0x59, 0x10, 0x06, 0x10, 0x7d, 0x54, 0x59, 0x10, 0x07, 0x06, 0x54, 0x59, 0x10, 0x08, 0x10, 0x5b, 0x54, 0x59, 0x10, 0x09, 0x07, 0x54, 0x59, 0x10, 0x0a, 0x10, 0x5d, 0x54, 0x59, 0x10, 0x0b, 0x08, 0x54, 0x59, 0x10, 0x0c, 0x10, 0x2c, 0x54, 0x59, 0x10, 0x0d, 0x10, 0x06, 0x54, 0x59, 0x10, 0x0e, 0x10]
def ch_M_init_31 : List UInt8 := [0x3b, 0x54, 0x59, 0x10, 0x0f, 0x10, 0x07, 0x54, 0x59, 0x10, 0x10, 0x10, 0x2e, 0x54, 0x59, 0x10, 0x11, 0x10, 0x08, 0x54, 0x59, 0x10, 0x12, 0x10, 0x7c, 0x54, 0x59, 0x10, 0x13, 0x10, 0x09, 0x54, 0x59, 0x10, 0x14, 0x10, 0x3d, 0x54, 0x59, 0x10, 0x15, 0x10, 0x0b, 0x54, 0x59, 0x10, 0x16, 0x10, 0x3c, 0x54, 0x59, 0x10, 0x17, 0x10, 0x0e, 0x54, 0x59, 0x10, 0x18, 0x10, 0x3e, 0x54, 0x59, 0x10, 0x19, 0x10, 0x10, 0x54, 0x59, 0x10, 0x1a, 0x10, 0x2b, 0x54, 0x59, 0x10, 0x1b, 0x10, 0x12, 0x54, 0x59, 0x10, 0x1c, 0x10, 0x2d, 0x54, 0x59, 0x10, 0x1d, 0x10, 0x13, 0x54, 0x59, 0x10, 0x1e, 0x10, 0x2a, 0x54, 0x59, 0x10]
def ch_M_init_32 : List UInt8 := [0x1f, 0x10, 0x14, 0x54, 0x59, 0x10, 0x20, 0x10, 0x21, 0x54, 0x59, 0x10, 0x21, 0x10, 0x15, 0x54, 0x59, 0x10, 0x22, 0x10, 0x2f, 0x54, 0x59, 0x10, 0x23, 0x10, 0x18, 0x54, 0xb5, 0x00, 0x35, 0x2a, 0x11, 0x3e, 0x80, 0xbc, 0x08, 0xb5, 0x00, 0x38, 0x2a, 0x11, 0x3e, 0x80, 0xbc, 0x09, 0xb5, 0x00, 0x3b, 0x2a, 0x11, 0x3e, 0x80, 0xbc, 0x0a, 0xb5, 0x00, 0x3f, 0x2a, 0x11, 0x3e, 0x80, 0xbc, 0x0a, 0xb5, 0x00, 0x42, 0x2a, 0x11, 0x3e, 0x80, 0xbc, 0x0a, 0xb5, 0x00, 0x45, 0x2a, 0x11, 0x3e, 0x80, 0xbc, 0x0a, 0xb5, 0x00, 0x48, 0x2a, 0x11, 0x3e, 0x80, 0xbc, 0x0a, 0xb5, 0x00, 0x4b, 0x2a, 0x11, 0x3e, 0x80, 0xbc, 0x04]
def ch_M_init_33 : List UInt8 := [0xb5, 0x00, 0x4e, 0x2a, 0x11, 0x3e, 0x80, 0xbc, 0x0a, 0xb5, 0x00, 0x52, 0x2a, 0x11, 0x13, 0x88, 0xbc, 0x08, 0xb5, 0x00, 0x55, 0x2a, 0x11, 0x13, 0x88, 0xbc, 0x0b, 0xb5, 0x00, 0x58, 0x2a, 0x11, 0x13, 0x88, 0xbc, 0x0a, 0xb5, 0x00, 0x5c, 0x2a, 0x11, 0x13, 0x88, 0xbc, 0x0a, 0xb5, 0x00, 0x5f, 0x2a, 0x11, 0x13, 0x88, 0xbc, 0x0a, 0xb5, 0x00, 0x62, 0x2a, 0x11, 0x13, 0x88, 0xbc, 0x04, 0xb5, 0x00, 0x65, 0x2a, 0x11, 0x05, 0x78, 0xbc, 0x0a, 0xb5, 0x00, 0x68, 0x2a, 0x11, 0x05, 0x78, 0xbc, 0x0a, 0xb5, 0x00, 0x6b, 0x2a, 0x11, 0x05, 0x78, 0xbc, 0x0a, 0xb5, 0x00, 0x6e, 0x2a, 0x11, 0x05, 0x78, 0xbc, 0x0a, 0xb5]
def ch_M_init_34 : List UInt8 := [0x00, 0x71, 0x2a, 0x11, 0x05, 0x78, 0xbc, 0x0a, 0xb5, 0x00, 0x74, 0x2a, 0x11, 0x05, 0x78, 0xbc, 0x0a, 0xb5, 0x00, 0x77, 0x2a, 0x11, 0x03, 0xe8, 0xbc, 0x0a, 0xb5, 0x00, 0x7a, 0x2a, 0x11, 0x03, 0xe8, 0xbc, 0x0a, 0xb5, 0x00, 0x7d, 0x2a, 0x11, 0x03, 0xe8, 0xbc, 0x0a, 0xb5, 0x00, 0x80, 0x2a, 0x11, 0x03, 0xe8, 0xbc, 0x0a, 0xb5, 0x00, 0x83, 0x2a, 0x11, 0x03, 0xe8, 0xbc, 0x0a, 0xb5, 0x00, 0x86, 0x2a, 0x11, 0x05, 0x78, 0xbc, 0x0a, 0xb5, 0x00, 0x89, 0x2a, 0x11, 0x05, 0x78, 0xbc, 0x0a, 0xb5, 0x00, 0x8c, 0x2a, 0x11, 0x05, 0x78, 0xbc, 0x0a, 0xb5, 0x00, 0x8f, 0x2a, 0x11, 0x5d, 0xc0, 0xbc, 0x0a, 0xb5, 0x00]
def ch_M_init_35 : List UInt8 := [0x92, 0x2a, 0x12, 0x95, 0xbc, 0x0a, 0xb5, 0x00, 0x96, 0x2a, 0x10, 0x1b, 0xbc, 0x0a, 0xb5, 0x00, 0x99, 0x2a, 0x12, 0x95, 0xbc, 0x0a, 0xb5, 0x00, 0x9c, 0x2a, 0x12, 0x95, 0xbc, 0x0a, 0xb5, 0x00, 0x9f, 0x2a, 0x10, 0x1b, 0xbc, 0x0a, 0xb5, 0x00, 0xa2, 0x2a, 0x10, 0x1b, 0xbc, 0x0a, 0xb5, 0x00, 0xa5, 0x2a, 0x11, 0x01, 0x90, 0xbc, 0x0a, 0xb5, 0x00, 0xa8, 0x2a, 0x11, 0x0c, 0xa8, 0xbc, 0x0a, 0xb5, 0x00, 0xab, 0x2a, 0x10, 0x1b, 0xbc, 0x0a, 0xb5, 0x00, 0xae, 0x2a, 0x11, 0x0b, 0xb8, 0xbc, 0x08, 0xb5, 0x00, 0xb1, 0x2a, 0x11, 0x0b, 0xb8, 0xbc, 0x09, 0xb5, 0x00, 0xb4, 0x2a, 0x11, 0x0b, 0xb8, 0xbc, 0x0a, 0xb5]
def ch_M_init_36 : List UInt8 := [0x00, 0xb7, 0x2a, 0x11, 0x0b, 0xb8, 0xbc, 0x0a, 0xb5, 0x00, 0xba, 0x2a, 0x11, 0x30, 0xd4, 0xbc, 0x0b, 0xb5, 0x00, 0xbd, 0x2a, 0x10, 0x19, 0xbc, 0x0a, 0xb5, 0x00, 0xc0, 0x2a, 0x10, 0x18, 0xbc, 0x0a, 0xb5, 0x00, 0xc3, 0x2a, 0x12, 0xc6, 0xbc, 0x0b, 0xb5, 0x00, 0xc7, 0x2a, 0x10, 0x18, 0xbc, 0x0a, 0xb5, 0x00, 0xca, 0x2a, 0x12, 0xcd, 0xbc, 0x0b, 0xb5, 0x00, 0xce, 0x2a, 0x10, 0x18, 0xbc, 0x0a, 0xb5, 0x00, 0xd1, 0x2a, 0x10, 0x18, 0xbc, 0x0a, 0xb5, 0x00, 0xd4, 0x2a, 0x11, 0x05, 0xa0, 0xbc, 0x0a, 0xb5, 0x00, 0xd7, 0x2a, 0x11, 0x05, 0xa0, 0xbc, 0x0a, 0xb5, 0x00, 0xda, 0x2a, 0x11, 0x05, 0xa0, 0xbc, 0x0a]
def ch_M_init_37 : List UInt8 := [0xb5, 0x00, 0xdd, 0x2a, 0x11, 0x05, 0xa0, 0xbc, 0x0a, 0xb5, 0x00, 0xe0, 0x2a, 0x11, 0x05, 0xa0, 0xbc, 0x0a, 0xb5, 0x00, 0xe3, 0x2a, 0x11, 0x05, 0xa0, 0xbc, 0x0a, 0xb5, 0x00, 0xe6, 0x2a, 0x12, 0xe9, 0xbc, 0x0a, 0xb5, 0x00, 0xea, 0x2a, 0x12, 0xe9, 0xbc, 0x0a, 0xb5, 0x00, 0xed, 0x2a, 0x12, 0xe9, 0xbc, 0x0a, 0xb5, 0x00, 0xf0, 0x2a, 0x12, 0xe9, 0xbc, 0x0a, 0xb5, 0x00, 0xf3, 0x2a, 0x10, 0x18, 0xbc, 0x0a, 0xb5, 0x00, 0xf6, 0x2a, 0x11, 0x02, 0xd0, 0xbc, 0x0b, 0xb5, 0x00, 0xf9, 0x2a, 0x10, 0x18, 0xbc, 0x0a, 0xb5, 0x00, 0xfc, 0x2a, 0x10, 0x18, 0xbc, 0x0a, 0xb5, 0x00, 0xff, 0x2a, 0x10, 0x18, 0xbc, 0x0a]
def ch_M_init_38 : List UInt8 := [0xb5, 0x01, 0x02, 0x2a, 0x10, 0x18, 0xbc, 0x0b, 0xb5, 0x01, 0x05, 0x2a, 0x10, 0x18, 0xbc, 0x04, 0xb5, 0x01, 0x08, 0x2a, 0x10, 0x18, 0xbc, 0x0a, 0xb5, 0x01, 0x0b, 0x2a, 0x10, 0x18, 0xbc, 0x0a, 0xb5, 0x01, 0x0e, 0x2a, 0x10, 0x18, 0xbc, 0x0a, 0xb5, 0x01, 0x11, 0x2a, 0x11, 0x02, 0x40, 0xbc, 0x0a, 0xb5, 0x01, 0x14, 0x2a, 0x10, 0x18, 0xbc, 0x0a, 0xb5, 0x01, 0x17, 0x2a, 0x11, 0x0f, 0xa0, 0xbc, 0x0a, 0xb5, 0x01, 0x1a, 0x2a, 0x11, 0x0f, 0xa0, 0xbc, 0x0a, 0xb5, 0x01, 0x1d, 0x2a, 0x11, 0x0f, 0xa0, 0xbc, 0x0a, 0xb5, 0x01, 0x20, 0x2a, 0x11, 0x4e, 0x20, 0xbc, 0x08, 0xb5, 0x01, 0x23, 0x2a, 0x11, 0x00, 0xc8]
def ch_M_init_39 : List UInt8 := [0xbc, 0x0a, 0xb5, 0x01, 0x26, 0x2a, 0x10, 0x64, 0xbc, 0x08, 0xb5, 0x01, 0x29, 0x2a, 0x11, 0x09, 0x60, 0xbc, 0x08, 0xb5, 0x01, 0x2c, 0x2a, 0x10, 0x18, 0xbc, 0x0a, 0xb5, 0x01, 0x2f, 0x2a, 0x11, 0x01, 0xf4, 0xbc, 0x0b, 0xb5, 0x01, 0x32, 0x2a, 0x11, 0x01, 0xf4, 0xbc, 0x0a, 0xb5, 0x01, 0x35, 0x2a, 0x11, 0x01, 0xf4, 0xbc, 0x0b, 0xb5, 0x01, 0x38, 0x2a, 0x10, 0x06, 0x03, 0xb8, 0x01, 0x3b, 0xb5, 0x01, 0x3f, 0x2a, 0x02, 0xb5, 0x01, 0x43, 0x2a, 0x11, 0x0b, 0xb8, 0xbc, 0x0b, 0xb5, 0x01, 0x47, 0x2a, 0x11, 0x0b, 0xb8, 0xbc, 0x0a, 0xb5, 0x01, 0x4a, 0x2a, 0x10, 0x64, 0xbc, 0x08, 0xb5, 0x01, 0x4d, 0x2a, 0x11]
def ch_M_init_40 : List UInt8 := [0x0f, 0xa0, 0xbc, 0x0a, 0xb5, 0x01, 0x50, 0x2a, 0x11, 0x0f, 0xa0, 0xbc, 0x0a, 0xb5, 0x01, 0x53, 0x2a, 0x11, 0x0f, 0xa0, 0xbc, 0x0a, 0xb5, 0x01, 0x56, 0x2a, 0x11, 0x0f, 0xa0, 0xbc, 0x0b, 0xb5, 0x01, 0x59, 0x2a, 0x11, 0x0b, 0xb8, 0xbc, 0x0a, 0xb5, 0x01, 0x5c, 0x2a, 0x11, 0x0b, 0xb8, 0xbc, 0x0b, 0xb5, 0x01, 0x5f, 0x2a, 0x10, 0x0a, 0xbc, 0x0a, 0xb5, 0x01, 0x62, 0x2a, 0x10, 0x0a, 0xbc, 0x0b, 0xb5, 0x01, 0x65, 0x2a, 0x11, 0x01, 0xf4, 0xbc, 0x0b, 0xb5, 0x01, 0x68, 0x2a, 0x11, 0x01, 0xf4, 0xbc, 0x04, 0xb5, 0x01, 0x6b, 0x2a, 0x10, 0x18, 0xbc, 0x0a, 0xb5, 0x01, 0x6e, 0xb1]
def tl_M_init_40 : List UInt8 := ch_M_init_40
def tl_M_init_39 : List UInt8 := ch_M_init_39 ++ tl_M_init_40
def tl_M_init_38 : List UInt8 := ch_M_init_38 ++ tl_M_init_39
def tl_M_init_37 : List UInt8 := ch_M_init_37 ++ tl_M_init_38
def tl_M_init_36 : List UInt8 := ch_M_init_36 ++ tl_M_init_37
def tl_M_init_35 : List UInt8 := ch_M_init_35 ++ tl_M_init_36
def tl_M_init_34 : List UInt8 := ch_M_init_34 ++ tl_M_init_35
def tl_M_init_33 : List UInt8 := ch_M_init_33 ++ tl_M_init_34
def tl_M_init_32 : List UInt8 := ch_M_init_32 ++ tl_M_init_33
def tl_M_init_31 : List UInt8 := ch_M_init_31 ++ tl_M_init_32
def tl_M_init_30 : List UInt8 := ch_M_init_30 ++ tl_M_init_31
def tl_M_init_29 : List UInt8 := ch_M_init_29 ++ tl_M_init_30
def tl_M_init_28 : List UInt8 := ch_M_init_28 ++ tl_M_init_29
def tl_M_init_27 : List UInt8 := ch_M_init_27 ++ tl_M_init_28
def tl_M_init_26 : List UInt8 := ch_M_init_26 ++ tl_M_init_27
def tl_M_init_25 : List UInt8 := ch_M_init_25 ++ tl_M_init_26
def tl_M_init_24 : List UInt8 := ch_M_init_24 ++ tl_M_init_25
def tl_M_init_23 : List UInt8 := ch_M_init_23 ++ tl_M_init_24
def tl_M_init_22 : List UInt8 := ch_M_init_22 ++ tl_M_init_23
def tl_M_init_21 : List UInt8 := ch_M_init_21 ++ tl_M_init_22
def tl_M_init_20 : List UInt8 := ch_M_init_20 ++ tl_M_init_21
def tl_M_init_19 : List UInt8 := ch_M_init_19 ++ tl_M_init_20
def tl_M_init_18 : List UInt8 := ch_M_init_18 ++ tl_M_init_19
def tl_M_init_17 : List UInt8 := ch_M_init_17 ++ tl_M_init_18
def tl_M_init_16 : List UInt8 := ch_M_init_16 ++ tl_M_init_17
def tl_M_init_15 : List UInt8 := ch_M_init_15 ++ tl_M_init_16
def tl_M_init_14 : List UInt8 := ch_M_init_14 ++ tl_M_init_15
def tl_M_init_13 : List UInt8 := ch_M_init_13 ++ tl_M_init_14
def tl_M_init_12 : List UInt8 := ch_M_init_12 ++ tl_M_init_13
def tl_M_init_11 : List UInt8 := ch_M_init_11 ++ tl_M_init_12
def tl_M_init_10 : List UInt8 := ch_M_init_10 ++ tl_M_init_11
def tl_M_init_9 : List UInt8 := ch_M_init_9 ++ tl_M_init_10
def tl_M_init_8 : List UInt8 := ch_M_init_8 ++ tl_M_init_9
def tl_M_init_7 : List UInt8 := ch_M_init_7 ++ tl_M_init_8
def tl_M_init_6 : List UInt8 := ch_M_init_6 ++ tl_M_init_7
def tl_M_init_5 : List UInt8 := ch_M_init_5 ++ tl_M_init_6
def tl_M_init_4 : List UInt8 := ch_M_init_4 ++ tl_M_init_5
def tl_M_init_3 : List UInt8 := ch_M_init_3 ++ tl_M_init_4
def tl_M_init_2 : List UInt8 := ch_M_init_2 ++ tl_M_init_3
def tl_M_init_1 : List UInt8 := ch_M_init_1 ++ tl_M_init_2
def tl_M_init_0 : List UInt8 := ch_M_init_0 ++ tl_M_init_1
set_option maxRecDepth 100000 in
theorem ch_M_init_all : b_M_init.data.toList = tl_M_init_0 := rfl
theorem gt_M_init_0 (k : Nat) : b_M_init.data[100 * 0 + k]? = tl_M_init_0[k]? := by
  rw [← ch_M_init_all, Array.getElem?_toList, Nat.mul_zero, Nat.zero_add]
theorem gt_M_init_1 (k : Nat) : b_M_init.data[100 * 1 + k]? = tl_M_init_1[k]? := gt_step (gt_M_init_0) rfl k
theorem gt_M_init_2 (k : Nat) : b_M_init.data[100 * 2 + k]? = tl_M_init_2[k]? := gt_step (gt_M_init_1) rfl k
theorem gt_M_init_3 (k : Nat) : b_M_init.data[100 * 3 + k]? = tl_M_init_3[k]? := gt_step (gt_M_init_2) rfl k
theorem gt_M_init_4 (k : Nat) : b_M_init.data[100 * 4 + k]? = tl_M_init_4[k]? := gt_step (gt_M_init_3) rfl k
theorem gt_M_init_5 (k : Nat) : b_M_init.data[100 * 5 + k]? = tl_M_init_5[k]? := gt_step (gt_M_init_4) rfl k
theorem gt_M_init_6 (k : Nat) : b_M_init.data[100 * 6 + k]? = tl_M_init_6[k]? := gt_step (gt_M_init_5) rfl k
theorem gt_M_init_7 (k : Nat) : b_M_init.data[100 * 7 + k]? = tl_M_init_7[k]? := gt_step (gt_M_init_6) rfl k
theorem gt_M_init_8 (k : Nat) : b_M_init.data[100 * 8 + k]? = tl_M_init_8[k]? := gt_step (gt_M_init_7) rfl k
theorem gt_M_init_9 (k : Nat) : b_M_init.data[100 * 9 + k]? = tl_M_init_9[k]? := gt_step (gt_M_init_8) rfl k
theorem gt_M_init_10 (k : Nat) : b_M_init.data[100 * 10 + k]? = tl_M_init_10[k]? := gt_step (gt_M_init_9) rfl k
theorem gt_M_init_11 (k : Nat) : b_M_init.data[100 * 11 + k]? = tl_M_init_11[k]? := gt_step (gt_M_init_10) rfl k
theorem gt_M_init_12 (k : Nat) : b_M_init.data[100 * 12 + k]? = tl_M_init_12[k]? := gt_step (gt_M_init_11) rfl k
theorem gt_M_init_13 (k : Nat) : b_M_init.data[100 * 13 + k]? = tl_M_init_13[k]? := gt_step (gt_M_init_12) rfl k
theorem gt_M_init_14 (k : Nat) : b_M_init.data[100 * 14 + k]? = tl_M_init_14[k]? := gt_step (gt_M_init_13) rfl k
theorem gt_M_init_15 (k : Nat) : b_M_init.data[100 * 15 + k]? = tl_M_init_15[k]? := gt_step (gt_M_init_14) rfl k
theorem gt_M_init_16 (k : Nat) : b_M_init.data[100 * 16 + k]? = tl_M_init_16[k]? := gt_step (gt_M_init_15) rfl k
theorem gt_M_init_17 (k : Nat) : b_M_init.data[100 * 17 + k]? = tl_M_init_17[k]? := gt_step (gt_M_init_16) rfl k
theorem gt_M_init_18 (k : Nat) : b_M_init.data[100 * 18 + k]? = tl_M_init_18[k]? := gt_step (gt_M_init_17) rfl k
theorem gt_M_init_19 (k : Nat) : b_M_init.data[100 * 19 + k]? = tl_M_init_19[k]? := gt_step (gt_M_init_18) rfl k
theorem gt_M_init_20 (k : Nat) : b_M_init.data[100 * 20 + k]? = tl_M_init_20[k]? := gt_step (gt_M_init_19) rfl k
theorem gt_M_init_21 (k : Nat) : b_M_init.data[100 * 21 + k]? = tl_M_init_21[k]? := gt_step (gt_M_init_20) rfl k
theorem gt_M_init_22 (k : Nat) : b_M_init.data[100 * 22 + k]? = tl_M_init_22[k]? := gt_step (gt_M_init_21) rfl k
theorem gt_M_init_23 (k : Nat) : b_M_init.data[100 * 23 + k]? = tl_M_init_23[k]? := gt_step (gt_M_init_22) rfl k
theorem gt_M_init_24 (k : Nat) : b_M_init.data[100 * 24 + k]? = tl_M_init_24[k]? := gt_step (gt_M_init_23) rfl k
theorem gt_M_init_25 (k : Nat) : b_M_init.data[100 * 25 + k]? = tl_M_init_25[k]? := gt_step (gt_M_init_24) rfl k
theorem gt_M_init_26 (k : Nat) : b_M_init.data[100 * 26 + k]? = tl_M_init_26[k]? := gt_step (gt_M_init_25) rfl k
theorem gt_M_init_27 (k : Nat) : b_M_init.data[100 * 27 + k]? = tl_M_init_27[k]? := gt_step (gt_M_init_26) rfl k
theorem gt_M_init_28 (k : Nat) : b_M_init.data[100 * 28 + k]? = tl_M_init_28[k]? := gt_step (gt_M_init_27) rfl k
theorem gt_M_init_29 (k : Nat) : b_M_init.data[100 * 29 + k]? = tl_M_init_29[k]? := gt_step (gt_M_init_28) rfl k
theorem gt_M_init_30 (k : Nat) : b_M_init.data[100 * 30 + k]? = tl_M_init_30[k]? := gt_step (gt_M_init_29) rfl k
theorem gt_M_init_31 (k : Nat) : b_M_init.data[100 * 31 + k]? = tl_M_init_31[k]? := gt_step (gt_M_init_30) rfl k
theorem gt_M_init_32 (k : Nat) : b_M_init.data[100 * 32 + k]? = tl_M_init_32[k]? := gt_step (gt_M_init_31) rfl k
theorem gt_M_init_33 (k : Nat) : b_M_init.data[100 * 33 + k]? = tl_M_init_33[k]? := gt_step (gt_M_init_32) rfl k
theorem gt_M_init_34 (k : Nat) : b_M_init.data[100 * 34 + k]? = tl_M_init_34[k]? := gt_step (gt_M_init_33) rfl k
theorem gt_M_init_35 (k : Nat) : b_M_init.data[100 * 35 + k]? = tl_M_init_35[k]? := gt_step (gt_M_init_34) rfl k
theorem gt_M_init_36 (k : Nat) : b_M_init.data[100 * 36 + k]? = tl_M_init_36[k]? := gt_step (gt_M_init_35) rfl k
theorem gt_M_init_37 (k : Nat) : b_M_init.data[100 * 37 + k]? = tl_M_init_37[k]? := gt_step (gt_M_init_36) rfl k
theorem gt_M_init_38 (k : Nat) : b_M_init.data[100 * 38 + k]? = tl_M_init_38[k]? := gt_step (gt_M_init_37) rfl k
theorem gt_M_init_39 (k : Nat) : b_M_init.data[100 * 39 + k]? = tl_M_init_39[k]? := gt_step (gt_M_init_38) rfl k
theorem gt_M_init_40 (k : Nat) : b_M_init.data[100 * 40 + k]? = tl_M_init_40[k]? := gt_step (gt_M_init_39) rfl k
end
section
theorem d_M_init_0 : decode b_M_init 0 = .ok (.aload_n 0, 1) := dc_aload0 (gt_M_init_0 0)
theorem d_M_init_1 : decode b_M_init 1 = .ok (.invokespecial 1, 3) := dc_invokespecial (gt_M_init_0 1) (gt_M_init_0 2) (gt_M_init_0 3) rfl
theorem d_M_init_4 : decode b_M_init 4 = .ok (.aload_n 0, 1) := dc_aload0 (gt_M_init_0 4)
theorem d_M_init_5 : decode b_M_init 5 = .ok (.bipush 77, 2) := dc_bipush (gt_M_init_0 5) (gt_M_init_0 6) rfl
theorem d_M_init_7 : decode b_M_init 7 = .ok (.newarray .byte, 2) := dc_newarray (gt_M_init_0 7) (gt_M_init_0 8) (fun _ => rfl)
theorem d_M_init_9 : decode b_M_init 9 = .ok (.dup, 1) := dc_dup (gt_M_init_0 9)
theorem d_M_init_10 : decode b_M_init 10 = .ok (.iconst 0, 1) := dc_iconst_0 (gt_M_init_0 10)
theorem d_M_init_11 : decode b_M_init 11 = .ok (.iconst 5, 1) := dc_iconst_5 (gt_M_init_0 11)
theorem d_M_init_12 : decode b_M_init 12 = .ok (.bastore, 1) := dc_bastore (gt_M_init_0 12)
theorem d_M_init_13 : decode b_M_init 13 = .ok (.dup, 1) := dc_dup (gt_M_init_0 13)
theorem d_M_init_14 : decode b_M_init 14 = .ok (.iconst 1, 1) := dc_iconst_1 (gt_M_init_0 14)
theorem d_M_init_15 : decode b_M_init 15 = .ok (.bipush 97, 2) := dc_bipush (gt_M_init_0 15) (gt_M_init_0 16) rfl
theorem d_M_init_17 : decode b_M_init 17 = .ok (.bastore, 1) := dc_bastore (gt_M_init_0 17)
theorem d_M_init_18 : decode b_M_init 18 = .ok (.dup, 1) := dc_dup (gt_M_init_0 18)
theorem d_M_init_19 : decode b_M_init 19 = .ok (.iconst 2, 1) := dc_iconst_2 (gt_M_init_0 19)
theorem d_M_init_20 : decode b_M_init 20 = .ok (.bipush 102, 2) := dc_bipush (gt_M_init_0 20) (gt_M_init_0 21) rfl
theorem d_M_init_22 : decode b_M_init 22 = .ok (.bastore, 1) := dc_bastore (gt_M_init_0 22)
theorem d_M_init_23 : decode b_M_init 23 = .ok (.dup, 1) := dc_dup (gt_M_init_0 23)
theorem d_M_init_24 : decode b_M_init 24 = .ok (.iconst 3, 1) := dc_iconst_3 (gt_M_init_0 24)
theorem d_M_init_25 : decode b_M_init 25 = .ok (.bipush 116, 2) := dc_bipush (gt_M_init_0 25) (gt_M_init_0 26) rfl
theorem d_M_init_27 : decode b_M_init 27 = .ok (.bastore, 1) := dc_bastore (gt_M_init_0 27)
theorem d_M_init_28 : decode b_M_init 28 = .ok (.dup, 1) := dc_dup (gt_M_init_0 28)
theorem d_M_init_29 : decode b_M_init 29 = .ok (.iconst 4, 1) := dc_iconst_4 (gt_M_init_0 29)
theorem d_M_init_30 : decode b_M_init 30 = .ok (.bipush 101, 2) := dc_bipush (gt_M_init_0 30) (gt_M_init_0 31) rfl
theorem d_M_init_32 : decode b_M_init 32 = .ok (.bastore, 1) := dc_bastore (gt_M_init_0 32)
theorem d_M_init_33 : decode b_M_init 33 = .ok (.dup, 1) := dc_dup (gt_M_init_0 33)
theorem d_M_init_34 : decode b_M_init 34 = .ok (.iconst 5, 1) := dc_iconst_5 (gt_M_init_0 34)
theorem d_M_init_35 : decode b_M_init 35 = .ok (.bipush 114, 2) := dc_bipush (gt_M_init_0 35) (gt_M_init_0 36) rfl
theorem d_M_init_37 : decode b_M_init 37 = .ok (.bastore, 1) := dc_bastore (gt_M_init_0 37)
theorem d_M_init_38 : decode b_M_init 38 = .ok (.dup, 1) := dc_dup (gt_M_init_0 38)
theorem d_M_init_39 : decode b_M_init 39 = .ok (.bipush 6, 2) := dc_bipush (gt_M_init_0 39) (gt_M_init_0 40) rfl
theorem d_M_init_41 : decode b_M_init 41 = .ok (.bipush 7, 2) := dc_bipush (gt_M_init_0 41) (gt_M_init_0 42) rfl
theorem d_M_init_43 : decode b_M_init 43 = .ok (.bastore, 1) := dc_bastore (gt_M_init_0 43)
theorem d_M_init_44 : decode b_M_init 44 = .ok (.dup, 1) := dc_dup (gt_M_init_0 44)
theorem d_M_init_45 : decode b_M_init 45 = .ok (.bipush 7, 2) := dc_bipush (gt_M_init_0 45) (gt_M_init_0 46) rfl
theorem d_M_init_47 : decode b_M_init 47 = .ok (.bipush 97, 2) := dc_bipush (gt_M_init_0 47) (gt_M_init_0 48) rfl
theorem d_M_init_49 : decode b_M_init 49 = .ok (.bastore, 1) := dc_bastore (gt_M_init_0 49)
theorem d_M_init_50 : decode b_M_init 50 = .ok (.dup, 1) := dc_dup (gt_M_init_0 50)
theorem d_M_init_51 : decode b_M_init 51 = .ok (.bipush 8, 2) := dc_bipush (gt_M_init_0 51) (gt_M_init_0 52) rfl
theorem d_M_init_53 : decode b_M_init 53 = .ok (.bipush 110, 2) := dc_bipush (gt_M_init_0 53) (gt_M_init_0 54) rfl
theorem d_M_init_55 : decode b_M_init 55 = .ok (.bastore, 1) := dc_bastore (gt_M_init_0 55)
theorem d_M_init_56 : decode b_M_init 56 = .ok (.dup, 1) := dc_dup (gt_M_init_0 56)
theorem d_M_init_57 : decode b_M_init 57 = .ok (.bipush 9, 2) := dc_bipush (gt_M_init_0 57) (gt_M_init_0 58) rfl
theorem d_M_init_59 : decode b_M_init 59 = .ok (.bipush 100, 2) := dc_bipush (gt_M_init_0 59) (gt_M_init_0 60) rfl
theorem d_M_init_61 : decode b_M_init 61 = .ok (.bastore, 1) := dc_bastore (gt_M_init_0 61)
theorem d_M_init_62 : decode b_M_init 62 = .ok (.dup, 1) := dc_dup (gt_M_init_0 62)
theorem d_M_init_63 : decode b_M_init 63 = .ok (.bipush 10, 2) := dc_bipush (gt_M_init_0 63) (gt_M_init_0 64) rfl
theorem d_M_init_65 : decode b_M_init 65 = .ok (.bipush 97, 2) := dc_bipush (gt_M_init_0 65) (gt_M_init_0 66) rfl
theorem d_M_init_67 : decode b_M_init 67 = .ok (.bastore, 1) := dc_bastore (gt_M_init_0 67)
theorem d_M_init_68 : decode b_M_init 68 = .ok (.dup, 1) := dc_dup (gt_M_init_0 68)
theorem d_M_init_69 : decode b_M_init 69 = .ok (.bipush 11, 2) := dc_bipush (gt_M_init_0 69) (gt_M_init_0 70) rfl
theorem d_M_init_71 : decode b_M_init 71 = .ok (.bipush 108, 2) := dc_bipush (gt_M_init_0 71) (gt_M_init_0 72) rfl
theorem d_M_init_73 : decode b_M_init 73 = .ok (.bastore, 1) := dc_bastore (gt_M_init_0 73)
theorem d_M_init_74 : decode b_M_init 74 = .ok (.dup, 1) := dc_dup (gt_M_init_0 74)
theorem d_M_init_75 : decode b_M_init 75 = .ok (.bipush 12, 2) := dc_bipush (gt_M_init_0 75) (gt_M_init_0 76) rfl
theorem d_M_init_77 : decode b_M_init 77 = .ok (.bipush 115, 2) := dc_bipush (gt_M_init_0 77) (gt_M_init_0 78) rfl
theorem d_M_init_79 : decode b_M_init 79 = .ok (.bastore, 1) := dc_bastore (gt_M_init_0 79)
theorem d_M_init_80 : decode b_M_init 80 = .ok (.dup, 1) := dc_dup (gt_M_init_0 80)
theorem d_M_init_81 : decode b_M_init 81 = .ok (.bipush 13, 2) := dc_bipush (gt_M_init_0 81) (gt_M_init_0 82) rfl
theorem d_M_init_83 : decode b_M_init 83 = .ok (.bipush 111, 2) := dc_bipush (gt_M_init_0 83) (gt_M_init_0 84) rfl
theorem d_M_init_85 : decode b_M_init 85 = .ok (.bastore, 1) := dc_bastore (gt_M_init_0 85)
theorem d_M_init_86 : decode b_M_init 86 = .ok (.dup, 1) := dc_dup (gt_M_init_0 86)
theorem d_M_init_87 : decode b_M_init 87 = .ok (.bipush 14, 2) := dc_bipush (gt_M_init_0 87) (gt_M_init_0 88) rfl
theorem d_M_init_89 : decode b_M_init 89 = .ok (.iconst 5, 1) := dc_iconst_5 (gt_M_init_0 89)
theorem d_M_init_90 : decode b_M_init 90 = .ok (.bastore, 1) := dc_bastore (gt_M_init_0 90)
theorem d_M_init_91 : decode b_M_init 91 = .ok (.dup, 1) := dc_dup (gt_M_init_0 91)
theorem d_M_init_92 : decode b_M_init 92 = .ok (.bipush 15, 2) := dc_bipush (gt_M_init_0 92) (gt_M_init_0 93) rfl
theorem d_M_init_94 : decode b_M_init 94 = .ok (.bipush 98, 2) := dc_bipush (gt_M_init_0 94) (gt_M_init_0 95) rfl
theorem d_M_init_96 : decode b_M_init 96 = .ok (.bastore, 1) := dc_bastore (gt_M_init_0 96)
theorem d_M_init_97 : decode b_M_init 97 = .ok (.dup, 1) := dc_dup (gt_M_init_0 97)
theorem d_M_init_98 : decode b_M_init 98 = .ok (.bipush 16, 2) := dc_bipush (gt_M_init_0 98) (gt_M_init_0 99) rfl
theorem d_M_init_100 : decode b_M_init 100 = .ok (.bipush 101, 2) := dc_bipush (gt_M_init_1 0) (gt_M_init_1 1) rfl
theorem d_M_init_102 : decode b_M_init 102 = .ok (.bastore, 1) := dc_bastore (gt_M_init_1 2)
theorem d_M_init_103 : decode b_M_init 103 = .ok (.dup, 1) := dc_dup (gt_M_init_1 3)
theorem d_M_init_104 : decode b_M_init 104 = .ok (.bipush 17, 2) := dc_bipush (gt_M_init_1 4) (gt_M_init_1 5) rfl
theorem d_M_init_106 : decode b_M_init 106 = .ok (.bipush 103, 2) := dc_bipush (gt_M_init_1 6) (gt_M_init_1 7) rfl
theorem d_M_init_108 : decode b_M_init 108 = .ok (.bastore, 1) := dc_bastore (gt_M_init_1 8)
theorem d_M_init_109 : decode b_M_init 109 = .ok (.dup, 1) := dc_dup (gt_M_init_1 9)
theorem d_M_init_110 : decode b_M_init 110 = .ok (.bipush 18, 2) := dc_bipush (gt_M_init_1 10) (gt_M_init_1 11) rfl
theorem d_M_init_112 : decode b_M_init 112 = .ok (.bipush 105, 2) := dc_bipush (gt_M_init_1 12) (gt_M_init_1 13) rfl
theorem d_M_init_114 : decode b_M_init 114 = .ok (.bastore, 1) := dc_bastore (gt_M_init_1 14)
theorem d_M_init_115 : decode b_M_init 115 = .ok (.dup, 1) := dc_dup (gt_M_init_1 15)
theorem d_M_init_116 : decode b_M_init 116 = .ok (.bipush 19, 2) := dc_bipush (gt_M_init_1 16) (gt_M_init_1 17) rfl
theorem d_M_init_118 : decode b_M_init 118 = .ok (.bipush 110, 2) := dc_bipush (gt_M_init_1 18) (gt_M_init_1 19) rfl
theorem d_M_init_120 : decode b_M_init 120 = .ok (.bastore, 1) := dc_bastore (gt_M_init_1 20)
theorem d_M_init_121 : decode b_M_init 121 = .ok (.dup, 1) := dc_dup (gt_M_init_1 21)
theorem d_M_init_122 : decode b_M_init 122 = .ok (.bipush 20, 2) := dc_bipush (gt_M_init_1 22) (gt_M_init_1 23) rfl
theorem d_M_init_124 : decode b_M_init 124 = .ok (.iconst 4, 1) := dc_iconst_4 (gt_M_init_1 24)
theorem d_M_init_125 : decode b_M_init 125 = .ok (.bastore, 1) := dc_bastore (gt_M_init_1 25)
theorem d_M_init_126 : decode b_M_init 126 = .ok (.dup, 1) := dc_dup (gt_M_init_1 26)
theorem d_M_init_127 : decode b_M_init 127 = .ok (.bipush 21, 2) := dc_bipush (gt_M_init_1 27) (gt_M_init_1 28) rfl
theorem d_M_init_129 : decode b_M_init 129 = .ok (.bipush 99, 2) := dc_bipush (gt_M_init_1 29) (gt_M_init_1 30) rfl
theorem d_M_init_131 : decode b_M_init 131 = .ok (.bastore, 1) := dc_bastore (gt_M_init_1 31)
theorem d_M_init_132 : decode b_M_init 132 = .ok (.dup, 1) := dc_dup (gt_M_init_1 32)
theorem d_M_init_133 : decode b_M_init 133 = .ok (.bipush 22, 2) := dc_bipush (gt_M_init_1 33) (gt_M_init_1 34) rfl
theorem d_M_init_135 : decode b_M_init 135 = .ok (.bipush 97, 2) := dc_bipush (gt_M_init_1 35) (gt_M_init_1 36) rfl
theorem d_M_init_137 : decode b_M_init 137 = .ok (.bastore, 1) := dc_bastore (gt_M_init_1 37)
theorem d_M_init_138 : decode b_M_init 138 = .ok (.dup, 1) := dc_dup (gt_M_init_1 38)
theorem d_M_init_139 : decode b_M_init 139 = .ok (.bipush 23, 2) := dc_bipush (gt_M_init_1 39) (gt_M_init_1 40) rfl
theorem d_M_init_141 : decode b_M_init 141 = .ok (.bipush 115, 2) := dc_bipush (gt_M_init_1 41) (gt_M_init_1 42) rfl
theorem d_M_init_143 : decode b_M_init 143 = .ok (.bastore, 1) := dc_bastore (gt_M_init_1 43)
theorem d_M_init_144 : decode b_M_init 144 = .ok (.dup, 1) := dc_dup (gt_M_init_1 44)
theorem d_M_init_145 : decode b_M_init 145 = .ok (.bipush 24, 2) := dc_bipush (gt_M_init_1 45) (gt_M_init_1 46) rfl
theorem d_M_init_147 : decode b_M_init 147 = .ok (.bipush 101, 2) := dc_bipush (gt_M_init_1 47) (gt_M_init_1 48) rfl
theorem d_M_init_149 : decode b_M_init 149 = .ok (.bastore, 1) := dc_bastore (gt_M_init_1 49)
theorem d_M_init_150 : decode b_M_init 150 = .ok (.dup, 1) := dc_dup (gt_M_init_1 50)
theorem d_M_init_151 : decode b_M_init 151 = .ok (.bipush 25, 2) := dc_bipush (gt_M_init_1 51) (gt_M_init_1 52) rfl
theorem d_M_init_153 : decode b_M_init 153 = .ok (.iconst 5, 1) := dc_iconst_5 (gt_M_init_1 53)
theorem d_M_init_154 : decode b_M_init 154 = .ok (.bastore, 1) := dc_bastore (gt_M_init_1 54)
theorem d_M_init_155 : decode b_M_init 155 = .ok (.dup, 1) := dc_dup (gt_M_init_1 55)
theorem d_M_init_156 : decode b_M_init 156 = .ok (.bipush 26, 2) := dc_bipush (gt_M_init_1 56) (gt_M_init_1 57) rfl
theorem d_M_init_158 : decode b_M_init 158 = .ok (.bipush 99, 2) := dc_bipush (gt_M_init_1 58) (gt_M_init_1 59) rfl
theorem d_M_init_160 : decode b_M_init 160 = .ok (.bastore, 1) := dc_bastore (gt_M_init_1 60)
theorem d_M_init_161 : decode b_M_init 161 = .ok (.dup, 1) := dc_dup (gt_M_init_1 61)
theorem d_M_init_162 : decode b_M_init 162 = .ok (.bipush 27, 2) := dc_bipush (gt_M_init_1 62) (gt_M_init_1 63) rfl
theorem d_M_init_164 : decode b_M_init 164 = .ok (.bipush 97, 2) := dc_bipush (gt_M_init_1 64) (gt_M_init_1 65) rfl
theorem d_M_init_166 : decode b_M_init 166 = .ok (.bastore, 1) := dc_bastore (gt_M_init_1 66)
theorem d_M_init_167 : decode b_M_init 167 = .ok (.dup, 1) := dc_dup (gt_M_init_1 67)
theorem d_M_init_168 : decode b_M_init 168 = .ok (.bipush 28, 2) := dc_bipush (gt_M_init_1 68) (gt_M_init_1 69) rfl
theorem d_M_init_170 : decode b_M_init 170 = .ok (.bipush 116, 2) := dc_bipush (gt_M_init_1 70) (gt_M_init_1 71) rfl
theorem d_M_init_172 : decode b_M_init 172 = .ok (.bastore, 1) := dc_bastore (gt_M_init_1 72)
theorem d_M_init_173 : decode b_M_init 173 = .ok (.dup, 1) := dc_dup (gt_M_init_1 73)
theorem d_M_init_174 : decode b_M_init 174 = .ok (.bipush 29, 2) := dc_bipush (gt_M_init_1 74) (gt_M_init_1 75) rfl
theorem d_M_init_176 : decode b_M_init 176 = .ok (.bipush 99, 2) := dc_bipush (gt_M_init_1 76) (gt_M_init_1 77) rfl
theorem d_M_init_178 : decode b_M_init 178 = .ok (.bastore, 1) := dc_bastore (gt_M_init_1 78)
theorem d_M_init_179 : decode b_M_init 179 = .ok (.dup, 1) := dc_dup (gt_M_init_1 79)
theorem d_M_init_180 : decode b_M_init 180 = .ok (.bipush 30, 2) := dc_bipush (gt_M_init_1 80) (gt_M_init_1 81) rfl
theorem d_M_init_182 : decode b_M_init 182 = .ok (.bipush 104, 2) := dc_bipush (gt_M_init_1 82) (gt_M_init_1 83) rfl
theorem d_M_init_184 : decode b_M_init 184 = .ok (.bastore, 1) := dc_bastore (gt_M_init_1 84)
theorem d_M_init_185 : decode b_M_init 185 = .ok (.dup, 1) := dc_dup (gt_M_init_1 85)
theorem d_M_init_186 : decode b_M_init 186 = .ok (.bipush 31, 2) := dc_bipush (gt_M_init_1 86) (gt_M_init_1 87) rfl
theorem d_M_init_188 : decode b_M_init 188 = .ok (.iconst 3, 1) := dc_iconst_3 (gt_M_init_1 88)
theorem d_M_init_189 : decode b_M_init 189 = .ok (.bastore, 1) := dc_bastore (gt_M_init_1 89)
theorem d_M_init_190 : decode b_M_init 190 = .ok (.dup, 1) := dc_dup (gt_M_init_1 90)
theorem d_M_init_191 : decode b_M_init 191 = .ok (.bipush 32, 2) := dc_bipush (gt_M_init_1 91) (gt_M_init_1 92) rfl
theorem d_M_init_193 : decode b_M_init 193 = .ok (.bipush 100, 2) := dc_bipush (gt_M_init_1 93) (gt_M_init_1 94) rfl
theorem d_M_init_195 : decode b_M_init 195 = .ok (.bastore, 1) := dc_bastore (gt_M_init_1 95)
theorem d_M_init_196 : decode b_M_init 196 = .ok (.dup, 1) := dc_dup (gt_M_init_1 96)
theorem d_M_init_197 : decode b_M_init 197 = .ok (.bipush 33, 2) := dc_bipush (gt_M_init_1 97) (gt_M_init_1 98) rfl
theorem d_M_init_199 : decode b_M_init 199 = .ok (.bipush 105, 2) := dc_bipush (gt_M_init_1 99) (gt_M_init_2 0) rfl
theorem d_M_init_201 : decode b_M_init 201 = .ok (.bastore, 1) := dc_bastore (gt_M_init_2 1)
theorem d_M_init_202 : decode b_M_init 202 = .ok (.dup, 1) := dc_dup (gt_M_init_2 2)
theorem d_M_init_203 : decode b_M_init 203 = .ok (.bipush 34, 2) := dc_bipush (gt_M_init_2 3) (gt_M_init_2 4) rfl
theorem d_M_init_205 : decode b_M_init 205 = .ok (.bipush 118, 2) := dc_bipush (gt_M_init_2 5) (gt_M_init_2 6) rfl
theorem d_M_init_207 : decode b_M_init 207 = .ok (.bastore, 1) := dc_bastore (gt_M_init_2 7)
theorem d_M_init_208 : decode b_M_init 208 = .ok (.dup, 1) := dc_dup (gt_M_init_2 8)
theorem d_M_init_209 : decode b_M_init 209 = .ok (.bipush 35, 2) := dc_bipush (gt_M_init_2 9) (gt_M_init_2 10) rfl
theorem d_M_init_211 : decode b_M_init 211 = .ok (.iconst 3, 1) := dc_iconst_3 (gt_M_init_2 11)
theorem d_M_init_212 : decode b_M_init 212 = .ok (.bastore, 1) := dc_bastore (gt_M_init_2 12)
theorem d_M_init_213 : decode b_M_init 213 = .ok (.dup, 1) := dc_dup (gt_M_init_2 13)
theorem d_M_init_214 : decode b_M_init 214 = .ok (.bipush 36, 2) := dc_bipush (gt_M_init_2 14) (gt_M_init_2 15) rfl
theorem d_M_init_216 : decode b_M_init 216 = .ok (.bipush 101, 2) := dc_bipush (gt_M_init_2 16) (gt_M_init_2 17) rfl
theorem d_M_init_218 : decode b_M_init 218 = .ok (.bastore, 1) := dc_bastore (gt_M_init_2 18)
theorem d_M_init_219 : decode b_M_init 219 = .ok (.dup, 1) := dc_dup (gt_M_init_2 19)
theorem d_M_init_220 : decode b_M_init 220 = .ok (.bipush 37, 2) := dc_bipush (gt_M_init_2 20) (gt_M_init_2 21) rfl
theorem d_M_init_222 : decode b_M_init 222 = .ok (.bipush 110, 2) := dc_bipush (gt_M_init_2 22) (gt_M_init_2 23) rfl
theorem d_M_init_224 : decode b_M_init 224 = .ok (.bastore, 1) := dc_bastore (gt_M_init_2 24)
theorem d_M_init_225 : decode b_M_init 225 = .ok (.dup, 1) := dc_dup (gt_M_init_2 25)
theorem d_M_init_226 : decode b_M_init 226 = .ok (.bipush 38, 2) := dc_bipush (gt_M_init_2 26) (gt_M_init_2 27) rfl
theorem d_M_init_228 : decode b_M_init 228 = .ok (.bipush 100, 2) := dc_bipush (gt_M_init_2 28) (gt_M_init_2 29) rfl
theorem d_M_init_230 : decode b_M_init 230 = .ok (.bastore, 1) := dc_bastore (gt_M_init_2 30)
theorem d_M_init_231 : decode b_M_init 231 = .ok (.dup, 1) := dc_dup (gt_M_init_2 31)
theorem d_M_init_232 : decode b_M_init 232 = .ok (.bipush 39, 2) := dc_bipush (gt_M_init_2 32) (gt_M_init_2 33) rfl
theorem d_M_init_234 : decode b_M_init 234 = .ok (.iconst 3, 1) := dc_iconst_3 (gt_M_init_2 34)
theorem d_M_init_235 : decode b_M_init 235 = .ok (.bastore, 1) := dc_bastore (gt_M_init_2 35)
theorem d_M_init_236 : decode b_M_init 236 = .ok (.dup, 1) := dc_dup (gt_M_init_2 36)
theorem d_M_init_237 : decode b_M_init 237 = .ok (.bipush 40, 2) := dc_bipush (gt_M_init_2 37) (gt_M_init_2 38) rfl
theorem d_M_init_239 : decode b_M_init 239 = .ok (.bipush 102, 2) := dc_bipush (gt_M_init_2 39) (gt_M_init_2 40) rfl
theorem d_M_init_241 : decode b_M_init 241 = .ok (.bastore, 1) := dc_bastore (gt_M_init_2 41)
theorem d_M_init_242 : decode b_M_init 242 = .ok (.dup, 1) := dc_dup (gt_M_init_2 42)
theorem d_M_init_243 : decode b_M_init 243 = .ok (.bipush 41, 2) := dc_bipush (gt_M_init_2 43) (gt_M_init_2 44) rfl
theorem d_M_init_245 : decode b_M_init 245 = .ok (.bipush 117, 2) := dc_bipush (gt_M_init_2 45) (gt_M_init_2 46) rfl
theorem d_M_init_247 : decode b_M_init 247 = .ok (.bastore, 1) := dc_bastore (gt_M_init_2 47)
theorem d_M_init_248 : decode b_M_init 248 = .ok (.dup, 1) := dc_dup (gt_M_init_2 48)
theorem d_M_init_249 : decode b_M_init 249 = .ok (.bipush 42, 2) := dc_bipush (gt_M_init_2 49) (gt_M_init_2 50) rfl
theorem d_M_init_251 : decode b_M_init 251 = .ok (.bipush 110, 2) := dc_bipush (gt_M_init_2 51) (gt_M_init_2 52) rfl
theorem d_M_init_253 : decode b_M_init 253 = .ok (.bastore, 1) := dc_bastore (gt_M_init_2 53)
theorem d_M_init_254 : decode b_M_init 254 = .ok (.dup, 1) := dc_dup (gt_M_init_2 54)
theorem d_M_init_255 : decode b_M_init 255 = .ok (.bipush 43, 2) := dc_bipush (gt_M_init_2 55) (gt_M_init_2 56) rfl
theorem d_M_init_257 : decode b_M_init 257 = .ok (.iconst 2, 1) := dc_iconst_2 (gt_M_init_2 57)
theorem d_M_init_258 : decode b_M_init 258 = .ok (.bastore, 1) := dc_bastore (gt_M_init_2 58)
theorem d_M_init_259 : decode b_M_init 259 = .ok (.dup, 1) := dc_dup (gt_M_init_2 59)
theorem d_M_init_260 : decode b_M_init 260 = .ok (.bipush 44, 2) := dc_bipush (gt_M_init_2 60) (gt_M_init_2 61) rfl
theorem d_M_init_262 : decode b_M_init 262 = .ok (.bipush 105, 2) := dc_bipush (gt_M_init_2 62) (gt_M_init_2 63) rfl
theorem d_M_init_264 : decode b_M_init 264 = .ok (.bastore, 1) := dc_bastore (gt_M_init_2 64)
theorem d_M_init_265 : decode b_M_init 265 = .ok (.dup, 1) := dc_dup (gt_M_init_2 65)
theorem d_M_init_266 : decode b_M_init 266 = .ok (.bipush 45, 2) := dc_bipush (gt_M_init_2 66) (gt_M_init_2 67) rfl
theorem d_M_init_268 : decode b_M_init 268 = .ok (.bipush 102, 2) := dc_bipush (gt_M_init_2 68) (gt_M_init_2 69) rfl
theorem d_M_init_270 : decode b_M_init 270 = .ok (.bastore, 1) := dc_bastore (gt_M_init_2 70)
theorem d_M_init_271 : decode b_M_init 271 = .ok (.dup, 1) := dc_dup (gt_M_init_2 71)
theorem d_M_init_272 : decode b_M_init 272 = .ok (.bipush 46, 2) := dc_bipush (gt_M_init_2 72) (gt_M_init_2 73) rfl
theorem d_M_init_274 : decode b_M_init 274 = .ok (.iconst 3, 1) := dc_iconst_3 (gt_M_init_2 74)
theorem d_M_init_275 : decode b_M_init 275 = .ok (.bastore, 1) := dc_bastore (gt_M_init_2 75)
theorem d_M_init_276 : decode b_M_init 276 = .ok (.dup, 1) := dc_dup (gt_M_init_2 76)
theorem d_M_init_277 : decode b_M_init 277 = .ok (.bipush 47, 2) := dc_bipush (gt_M_init_2 77) (gt_M_init_2 78) rfl
theorem d_M_init_279 : decode b_M_init 279 = .ok (.bipush 110, 2) := dc_bipush (gt_M_init_2 79) (gt_M_init_2 80) rfl
theorem d_M_init_281 : decode b_M_init 281 = .ok (.bastore, 1) := dc_bastore (gt_M_init_2 81)
theorem d_M_init_282 : decode b_M_init 282 = .ok (.dup, 1) := dc_dup (gt_M_init_2 82)
theorem d_M_init_283 : decode b_M_init 283 = .ok (.bipush 48, 2) := dc_bipush (gt_M_init_2 83) (gt_M_init_2 84) rfl
theorem d_M_init_285 : decode b_M_init 285 = .ok (.bipush 111, 2) := dc_bipush (gt_M_init_2 85) (gt_M_init_2 86) rfl
theorem d_M_init_287 : decode b_M_init 287 = .ok (.bastore, 1) := dc_bastore (gt_M_init_2 87)
theorem d_M_init_288 : decode b_M_init 288 = .ok (.dup, 1) := dc_dup (gt_M_init_2 88)
theorem d_M_init_289 : decode b_M_init 289 = .ok (.bipush 49, 2) := dc_bipush (gt_M_init_2 89) (gt_M_init_2 90) rfl
theorem d_M_init_291 : decode b_M_init 291 = .ok (.bipush 116, 2) := dc_bipush (gt_M_init_2 91) (gt_M_init_2 92) rfl
theorem d_M_init_293 : decode b_M_init 293 = .ok (.bastore, 1) := dc_bastore (gt_M_init_2 93)
theorem d_M_init_294 : decode b_M_init 294 = .ok (.dup, 1) := dc_dup (gt_M_init_2 94)
theorem d_M_init_295 : decode b_M_init 295 = .ok (.bipush 50, 2) := dc_bipush (gt_M_init_2 95) (gt_M_init_2 96) rfl
theorem d_M_init_297 : decode b_M_init 297 = .ok (.iconst 2, 1) := dc_iconst_2 (gt_M_init_2 97)
theorem d_M_init_298 : decode b_M_init 298 = .ok (.bastore, 1) := dc_bastore (gt_M_init_2 98)
theorem d_M_init_299 : decode b_M_init 299 = .ok (.dup, 1) := dc_dup (gt_M_init_2 99)
theorem d_M_init_300 : decode b_M_init 300 = .ok (.bipush 51, 2) := dc_bipush (gt_M_init_3 0) (gt_M_init_3 1) rfl
theorem d_M_init_302 : decode b_M_init 302 = .ok (.bipush 111, 2) := dc_bipush (gt_M_init_3 2) (gt_M_init_3 3) rfl
theorem d_M_init_304 : decode b_M_init 304 = .ok (.bastore, 1) := dc_bastore (gt_M_init_3 4)
theorem d_M_init_305 : decode b_M_init 305 = .ok (.dup, 1) := dc_dup (gt_M_init_3 5)
theorem d_M_init_306 : decode b_M_init 306 = .ok (.bipush 52, 2) := dc_bipush (gt_M_init_3 6) (gt_M_init_3 7) rfl
theorem d_M_init_308 : decode b_M_init 308 = .ok (.bipush 102, 2) := dc_bipush (gt_M_init_3 8) (gt_M_init_3 9) rfl
theorem d_M_init_310 : decode b_M_init 310 = .ok (.bastore, 1) := dc_bastore (gt_M_init_3 10)
theorem d_M_init_311 : decode b_M_init 311 = .ok (.dup, 1) := dc_dup (gt_M_init_3 11)
theorem d_M_init_312 : decode b_M_init 312 = .ok (.bipush 53, 2) := dc_bipush (gt_M_init_3 12) (gt_M_init_3 13) rfl
theorem d_M_init_314 : decode b_M_init 314 = .ok (.bipush 6, 2) := dc_bipush (gt_M_init_3 14) (gt_M_init_3 15) rfl
theorem d_M_init_316 : decode b_M_init 316 = .ok (.bastore, 1) := dc_bastore (gt_M_init_3 16)
theorem d_M_init_317 : decode b_M_init 317 = .ok (.dup, 1) := dc_dup (gt_M_init_3 17)
theorem d_M_init_318 : decode b_M_init 318 = .ok (.bipush 54, 2) := dc_bipush (gt_M_init_3 18) (gt_M_init_3 19) rfl
theorem d_M_init_320 : decode b_M_init 320 = .ok (.bipush 111, 2) := dc_bipush (gt_M_init_3 20) (gt_M_init_3 21) rfl
theorem d_M_init_322 : decode b_M_init 322 = .ok (.bastore, 1) := dc_bastore (gt_M_init_3 22)
theorem d_M_init_323 : decode b_M_init 323 = .ok (.dup, 1) := dc_dup (gt_M_init_3 23)
theorem d_M_init_324 : decode b_M_init 324 = .ok (.bipush 55, 2) := dc_bipush (gt_M_init_3 24) (gt_M_init_3 25) rfl
theorem d_M_init_326 : decode b_M_init 326 = .ok (.bipush 114, 2) := dc_bipush (gt_M_init_3 26) (gt_M_init_3 27) rfl
theorem d_M_init_328 : decode b_M_init 328 = .ok (.bastore, 1) := dc_bastore (gt_M_init_3 28)
theorem d_M_init_329 : decode b_M_init 329 = .ok (.dup, 1) := dc_dup (gt_M_init_3 29)
theorem d_M_init_330 : decode b_M_init 330 = .ok (.bipush 56, 2) := dc_bipush (gt_M_init_3 30) (gt_M_init_3 31) rfl
theorem d_M_init_332 : decode b_M_init 332 = .ok (.bipush 101, 2) := dc_bipush (gt_M_init_3 32) (gt_M_init_3 33) rfl
theorem d_M_init_334 : decode b_M_init 334 = .ok (.bastore, 1) := dc_bastore (gt_M_init_3 34)
theorem d_M_init_335 : decode b_M_init 335 = .ok (.dup, 1) := dc_dup (gt_M_init_3 35)
theorem d_M_init_336 : decode b_M_init 336 = .ok (.bipush 57, 2) := dc_bipush (gt_M_init_3 36) (gt_M_init_3 37) rfl
theorem d_M_init_338 : decode b_M_init 338 = .ok (.bipush 108, 2) := dc_bipush (gt_M_init_3 38) (gt_M_init_3 39) rfl
theorem d_M_init_340 : decode b_M_init 340 = .ok (.bastore, 1) := dc_bastore (gt_M_init_3 40)
theorem d_M_init_341 : decode b_M_init 341 = .ok (.dup, 1) := dc_dup (gt_M_init_3 41)
theorem d_M_init_342 : decode b_M_init 342 = .ok (.bipush 58, 2) := dc_bipush (gt_M_init_3 42) (gt_M_init_3 43) rfl
theorem d_M_init_344 : decode b_M_init 344 = .ok (.bipush 115, 2) := dc_bipush (gt_M_init_3 44) (gt_M_init_3 45) rfl
theorem d_M_init_346 : decode b_M_init 346 = .ok (.bastore, 1) := dc_bastore (gt_M_init_3 46)
theorem d_M_init_347 : decode b_M_init 347 = .ok (.dup, 1) := dc_dup (gt_M_init_3 47)
theorem d_M_init_348 : decode b_M_init 348 = .ok (.bipush 59, 2) := dc_bipush (gt_M_init_3 48) (gt_M_init_3 49) rfl
theorem d_M_init_350 : decode b_M_init 350 = .ok (.bipush 101, 2) := dc_bipush (gt_M_init_3 50) (gt_M_init_3 51) rfl
theorem d_M_init_352 : decode b_M_init 352 = .ok (.bastore, 1) := dc_bastore (gt_M_init_3 52)
theorem d_M_init_353 : decode b_M_init 353 = .ok (.dup, 1) := dc_dup (gt_M_init_3 53)
theorem d_M_init_354 : decode b_M_init 354 = .ok (.bipush 60, 2) := dc_bipush (gt_M_init_3 54) (gt_M_init_3 55) rfl
theorem d_M_init_356 : decode b_M_init 356 = .ok (.bipush 7, 2) := dc_bipush (gt_M_init_3 56) (gt_M_init_3 57) rfl
theorem d_M_init_358 : decode b_M_init 358 = .ok (.bastore, 1) := dc_bastore (gt_M_init_3 58)
theorem d_M_init_359 : decode b_M_init 359 = .ok (.dup, 1) := dc_dup (gt_M_init_3 59)
theorem d_M_init_360 : decode b_M_init 360 = .ok (.bipush 61, 2) := dc_bipush (gt_M_init_3 60) (gt_M_init_3 61) rfl
theorem d_M_init_362 : decode b_M_init 362 = .ok (.bipush 114, 2) := dc_bipush (gt_M_init_3 62) (gt_M_init_3 63) rfl
theorem d_M_init_364 : decode b_M_init 364 = .ok (.bastore, 1) := dc_bastore (gt_M_init_3 64)
theorem d_M_init_365 : decode b_M_init 365 = .ok (.dup, 1) := dc_dup (gt_M_init_3 65)
theorem d_M_init_366 : decode b_M_init 366 = .ok (.bipush 62, 2) := dc_bipush (gt_M_init_3 66) (gt_M_init_3 67) rfl
theorem d_M_init_368 : decode b_M_init 368 = .ok (.bipush 101, 2) := dc_bipush (gt_M_init_3 68) (gt_M_init_3 69) rfl
theorem d_M_init_370 : decode b_M_init 370 = .ok (.bastore, 1) := dc_bastore (gt_M_init_3 70)
theorem d_M_init_371 : decode b_M_init 371 = .ok (.dup, 1) := dc_dup (gt_M_init_3 71)
theorem d_M_init_372 : decode b_M_init 372 = .ok (.bipush 63, 2) := dc_bipush (gt_M_init_3 72) (gt_M_init_3 73) rfl
theorem d_M_init_374 : decode b_M_init 374 = .ok (.bipush 99, 2) := dc_bipush (gt_M_init_3 74) (gt_M_init_3 75) rfl
theorem d_M_init_376 : decode b_M_init 376 = .ok (.bastore, 1) := dc_bastore (gt_M_init_3 76)
theorem d_M_init_377 : decode b_M_init 377 = .ok (.dup, 1) := dc_dup (gt_M_init_3 77)
theorem d_M_init_378 : decode b_M_init 378 = .ok (.bipush 64, 2) := dc_bipush (gt_M_init_3 78) (gt_M_init_3 79) rfl
theorem d_M_init_380 : decode b_M_init 380 = .ok (.bipush 101, 2) := dc_bipush (gt_M_init_3 80) (gt_M_init_3 81) rfl
theorem d_M_init_382 : decode b_M_init 382 = .ok (.bastore, 1) := dc_bastore (gt_M_init_3 82)
theorem d_M_init_383 : decode b_M_init 383 = .ok (.dup, 1) := dc_dup (gt_M_init_3 83)
theorem d_M_init_384 : decode b_M_init 384 = .ok (.bipush 65, 2) := dc_bipush (gt_M_init_3 84) (gt_M_init_3 85) rfl
theorem d_M_init_386 : decode b_M_init 386 = .ok (.bipush 105, 2) := dc_bipush (gt_M_init_3 86) (gt_M_init_3 87) rfl
theorem d_M_init_388 : decode b_M_init 388 = .ok (.bastore, 1) := dc_bastore (gt_M_init_3 88)
theorem d_M_init_389 : decode b_M_init 389 = .ok (.dup, 1) := dc_dup (gt_M_init_3 89)
theorem d_M_init_390 : decode b_M_init 390 = .ok (.bipush 66, 2) := dc_bipush (gt_M_init_3 90) (gt_M_init_3 91) rfl
theorem d_M_init_392 : decode b_M_init 392 = .ok (.bipush 118, 2) := dc_bipush (gt_M_init_3 92) (gt_M_init_3 93) rfl
theorem d_M_init_394 : decode b_M_init 394 = .ok (.bastore, 1) := dc_bastore (gt_M_init_3 94)
theorem d_M_init_395 : decode b_M_init 395 = .ok (.dup, 1) := dc_dup (gt_M_init_3 95)
theorem d_M_init_396 : decode b_M_init 396 = .ok (.bipush 67, 2) := dc_bipush (gt_M_init_3 96) (gt_M_init_3 97) rfl
theorem d_M_init_398 : decode b_M_init 398 = .ok (.bipush 101, 2) := dc_bipush (gt_M_init_3 98) (gt_M_init_3 99) rfl
theorem d_M_init_400 : decode b_M_init 400 = .ok (.bastore, 1) := dc_bastore (gt_M_init_4 0)
theorem d_M_init_401 : decode b_M_init 401 = .ok (.dup, 1) := dc_dup (gt_M_init_4 1)
theorem d_M_init_402 : decode b_M_init 402 = .ok (.bipush 68, 2) := dc_bipush (gt_M_init_4 2) (gt_M_init_4 3) rfl
theorem d_M_init_404 : decode b_M_init 404 = .ok (.iconst 3, 1) := dc_iconst_3 (gt_M_init_4 4)
theorem d_M_init_405 : decode b_M_init 405 = .ok (.bastore, 1) := dc_bastore (gt_M_init_4 5)
theorem d_M_init_406 : decode b_M_init 406 = .ok (.dup, 1) := dc_dup (gt_M_init_4 6)
theorem d_M_init_407 : decode b_M_init 407 = .ok (.bipush 69, 2) := dc_bipush (gt_M_init_4 7) (gt_M_init_4 8) rfl
theorem d_M_init_409 : decode b_M_init 409 = .ok (.bipush 114, 2) := dc_bipush (gt_M_init_4 9) (gt_M_init_4 10) rfl
theorem d_M_init_411 : decode b_M_init 411 = .ok (.bastore, 1) := dc_bastore (gt_M_init_4 11)
theorem d_M_init_412 : decode b_M_init 412 = .ok (.dup, 1) := dc_dup (gt_M_init_4 12)
theorem d_M_init_413 : decode b_M_init 413 = .ok (.bipush 70, 2) := dc_bipush (gt_M_init_4 13) (gt_M_init_4 14) rfl
theorem d_M_init_415 : decode b_M_init 415 = .ok (.bipush 101, 2) := dc_bipush (gt_M_init_4 15) (gt_M_init_4 16) rfl
theorem d_M_init_417 : decode b_M_init 417 = .ok (.bastore, 1) := dc_bastore (gt_M_init_4 17)
theorem d_M_init_418 : decode b_M_init 418 = .ok (.dup, 1) := dc_dup (gt_M_init_4 18)
theorem d_M_init_419 : decode b_M_init 419 = .ok (.bipush 71, 2) := dc_bipush (gt_M_init_4 19) (gt_M_init_4 20) rfl
theorem d_M_init_421 : decode b_M_init 421 = .ok (.bipush 109, 2) := dc_bipush (gt_M_init_4 21) (gt_M_init_4 22) rfl
theorem d_M_init_423 : decode b_M_init 423 = .ok (.bastore, 1) := dc_bastore (gt_M_init_4 23)
theorem d_M_init_424 : decode b_M_init 424 = .ok (.dup, 1) := dc_dup (gt_M_init_4 24)
theorem d_M_init_425 : decode b_M_init 425 = .ok (.bipush 72, 2) := dc_bipush (gt_M_init_4 25) (gt_M_init_4 26) rfl
theorem d_M_init_427 : decode b_M_init 427 = .ok (.iconst 4, 1) := dc_iconst_4 (gt_M_init_4 27)
theorem d_M_init_428 : decode b_M_init 428 = .ok (.bastore, 1) := dc_bastore (gt_M_init_4 28)
theorem d_M_init_429 : decode b_M_init 429 = .ok (.dup, 1) := dc_dup (gt_M_init_4 29)
theorem d_M_init_430 : decode b_M_init 430 = .ok (.bipush 73, 2) := dc_bipush (gt_M_init_4 30) (gt_M_init_4 31) rfl
theorem d_M_init_432 : decode b_M_init 432 = .ok (.bipush 119, 2) := dc_bipush (gt_M_init_4 32) (gt_M_init_4 33) rfl
theorem d_M_init_434 : decode b_M_init 434 = .ok (.bastore, 1) := dc_bastore (gt_M_init_4 34)
theorem d_M_init_435 : decode b_M_init 435 = .ok (.dup, 1) := dc_dup (gt_M_init_4 35)
theorem d_M_init_436 : decode b_M_init 436 = .ok (.bipush 74, 2) := dc_bipush (gt_M_init_4 36) (gt_M_init_4 37) rfl
theorem d_M_init_438 : decode b_M_init 438 = .ok (.bipush 104, 2) := dc_bipush (gt_M_init_4 38) (gt_M_init_4 39) rfl
theorem d_M_init_440 : decode b_M_init 440 = .ok (.bastore, 1) := dc_bastore (gt_M_init_4 40)
theorem d_M_init_441 : decode b_M_init 441 = .ok (.dup, 1) := dc_dup (gt_M_init_4 41)
theorem d_M_init_442 : decode b_M_init 442 = .ok (.bipush 75, 2) := dc_bipush (gt_M_init_4 42) (gt_M_init_4 43) rfl
theorem d_M_init_444 : decode b_M_init 444 = .ok (.bipush 101, 2) := dc_bipush (gt_M_init_4 44) (gt_M_init_4 45) rfl
theorem d_M_init_446 : decode b_M_init 446 = .ok (.bastore, 1) := dc_bastore (gt_M_init_4 46)
theorem d_M_init_447 : decode b_M_init 447 = .ok (.dup, 1) := dc_dup (gt_M_init_4 47)
theorem d_M_init_448 : decode b_M_init 448 = .ok (.bipush 76, 2) := dc_bipush (gt_M_init_4 48) (gt_M_init_4 49) rfl
theorem d_M_init_450 : decode b_M_init 450 = .ok (.bipush 110, 2) := dc_bipush (gt_M_init_4 50) (gt_M_init_4 51) rfl
theorem d_M_init_452 : decode b_M_init 452 = .ok (.bastore, 1) := dc_bastore (gt_M_init_4 52)
theorem d_M_init_453 : decode b_M_init 453 = .ok (.putfield 7, 3) := dc_putfield (gt_M_init_4 53) (gt_M_init_4 54) (gt_M_init_4 55) rfl
theorem d_M_init_456 : decode b_M_init 456 = .ok (.aload_n 0, 1) := dc_aload0 (gt_M_init_4 56)
theorem d_M_init_457 : decode b_M_init 457 = .ok (.sipush 161, 3) := dc_sipush (gt_M_init_4 57) (gt_M_init_4 58) (gt_M_init_4 59) (by decide)
theorem d_M_init_460 : decode b_M_init 460 = .ok (.newarray .byte, 2) := dc_newarray (gt_M_init_4 60) (gt_M_init_4 61) (fun _ => rfl)
theorem d_M_init_462 : decode b_M_init 462 = .ok (.dup, 1) := dc_dup (gt_M_init_4 62)
theorem d_M_init_463 : decode b_M_init 463 = .ok (.iconst 0, 1) := dc_iconst_0 (gt_M_init_4 63)
theorem d_M_init_464 : decode b_M_init 464 = .ok (.iconst 4, 1) := dc_iconst_4 (gt_M_init_4 64)
theorem d_M_init_465 : decode b_M_init 465 = .ok (.bastore, 1) := dc_bastore (gt_M_init_4 65)
theorem d_M_init_466 : decode b_M_init 466 = .ok (.dup, 1) := dc_dup (gt_M_init_4 66)
theorem d_M_init_467 : decode b_M_init 467 = .ok (.iconst 1, 1) := dc_iconst_1 (gt_M_init_4 67)
theorem d_M_init_468 : decode b_M_init 468 = .ok (.bipush 116, 2) := dc_bipush (gt_M_init_4 68) (gt_M_init_4 69) rfl
theorem d_M_init_470 : decode b_M_init 470 = .ok (.bastore, 1) := dc_bastore (gt_M_init_4 70)
theorem d_M_init_471 : decode b_M_init 471 = .ok (.dup, 1) := dc_dup (gt_M_init_4 71)
theorem d_M_init_472 : decode b_M_init 472 = .ok (.iconst 2, 1) := dc_iconst_2 (gt_M_init_4 72)
theorem d_M_init_473 : decode b_M_init 473 = .ok (.bipush 114, 2) := dc_bipush (gt_M_init_4 73) (gt_M_init_4 74) rfl
theorem d_M_init_475 : decode b_M_init 475 = .ok (.bastore, 1) := dc_bastore (gt_M_init_4 75)
theorem d_M_init_476 : decode b_M_init 476 = .ok (.dup, 1) := dc_dup (gt_M_init_4 76)
theorem d_M_init_477 : decode b_M_init 477 = .ok (.iconst 3, 1) := dc_iconst_3 (gt_M_init_4 77)
theorem d_M_init_478 : decode b_M_init 478 = .ok (.bipush 117, 2) := dc_bipush (gt_M_init_4 78) (gt_M_init_4 79) rfl
theorem d_M_init_480 : decode b_M_init 480 = .ok (.bastore, 1) := dc_bastore (gt_M_init_4 80)
theorem d_M_init_481 : decode b_M_init 481 = .ok (.dup, 1) := dc_dup (gt_M_init_4 81)
theorem d_M_init_482 : decode b_M_init 482 = .ok (.iconst 4, 1) := dc_iconst_4 (gt_M_init_4 82)
theorem d_M_init_483 : decode b_M_init 483 = .ok (.bipush 101, 2) := dc_bipush (gt_M_init_4 83) (gt_M_init_4 84) rfl
theorem d_M_init_485 : decode b_M_init 485 = .ok (.bastore, 1) := dc_bastore (gt_M_init_4 85)
theorem d_M_init_486 : decode b_M_init 486 = .ok (.dup, 1) := dc_dup (gt_M_init_4 86)
theorem d_M_init_487 : decode b_M_init 487 = .ok (.iconst 5, 1) := dc_iconst_5 (gt_M_init_4 87)
theorem d_M_init_488 : decode b_M_init 488 = .ok (.iconst 5, 1) := dc_iconst_5 (gt_M_init_4 88)
theorem d_M_init_489 : decode b_M_init 489 = .ok (.bastore, 1) := dc_bastore (gt_M_init_4 89)
theorem d_M_init_490 : decode b_M_init 490 = .ok (.dup, 1) := dc_dup (gt_M_init_4 90)
theorem d_M_init_491 : decode b_M_init 491 = .ok (.bipush 6, 2) := dc_bipush (gt_M_init_4 91) (gt_M_init_4 92) rfl
theorem d_M_init_493 : decode b_M_init 493 = .ok (.bipush 102, 2) := dc_bipush (gt_M_init_4 93) (gt_M_init_4 94) rfl
theorem d_M_init_495 : decode b_M_init 495 = .ok (.bastore, 1) := dc_bastore (gt_M_init_4 95)
theorem d_M_init_496 : decode b_M_init 496 = .ok (.dup, 1) := dc_dup (gt_M_init_4 96)
theorem d_M_init_497 : decode b_M_init 497 = .ok (.bipush 7, 2) := dc_bipush (gt_M_init_4 97) (gt_M_init_4 98) rfl
theorem d_M_init_499 : decode b_M_init 499 = .ok (.bipush 97, 2) := dc_bipush (gt_M_init_4 99) (gt_M_init_5 0) rfl
theorem d_M_init_501 : decode b_M_init 501 = .ok (.bastore, 1) := dc_bastore (gt_M_init_5 1)
theorem d_M_init_502 : decode b_M_init 502 = .ok (.dup, 1) := dc_dup (gt_M_init_5 2)
theorem d_M_init_503 : decode b_M_init 503 = .ok (.bipush 8, 2) := dc_bipush (gt_M_init_5 3) (gt_M_init_5 4) rfl
theorem d_M_init_505 : decode b_M_init 505 = .ok (.bipush 108, 2) := dc_bipush (gt_M_init_5 5) (gt_M_init_5 6) rfl
theorem d_M_init_507 : decode b_M_init 507 = .ok (.bastore, 1) := dc_bastore (gt_M_init_5 7)
theorem d_M_init_508 : decode b_M_init 508 = .ok (.dup, 1) := dc_dup (gt_M_init_5 8)
theorem d_M_init_509 : decode b_M_init 509 = .ok (.bipush 9, 2) := dc_bipush (gt_M_init_5 9) (gt_M_init_5 10) rfl
theorem d_M_init_511 : decode b_M_init 511 = .ok (.bipush 115, 2) := dc_bipush (gt_M_init_5 11) (gt_M_init_5 12) rfl
theorem d_M_init_513 : decode b_M_init 513 = .ok (.bastore, 1) := dc_bastore (gt_M_init_5 13)
theorem d_M_init_514 : decode b_M_init 514 = .ok (.dup, 1) := dc_dup (gt_M_init_5 14)
theorem d_M_init_515 : decode b_M_init 515 = .ok (.bipush 10, 2) := dc_bipush (gt_M_init_5 15) (gt_M_init_5 16) rfl
theorem d_M_init_517 : decode b_M_init 517 = .ok (.bipush 101, 2) := dc_bipush (gt_M_init_5 17) (gt_M_init_5 18) rfl
theorem d_M_init_519 : decode b_M_init 519 = .ok (.bastore, 1) := dc_bastore (gt_M_init_5 19)
theorem d_M_init_520 : decode b_M_init 520 = .ok (.dup, 1) := dc_dup (gt_M_init_5 20)
theorem d_M_init_521 : decode b_M_init 521 = .ok (.bipush 11, 2) := dc_bipush (gt_M_init_5 21) (gt_M_init_5 22) rfl
theorem d_M_init_523 : decode b_M_init 523 = .ok (.iconst 2, 1) := dc_iconst_2 (gt_M_init_5 23)
theorem d_M_init_524 : decode b_M_init 524 = .ok (.bastore, 1) := dc_bastore (gt_M_init_5 24)
theorem d_M_init_525 : decode b_M_init 525 = .ok (.dup, 1) := dc_dup (gt_M_init_5 25)
theorem d_M_init_526 : decode b_M_init 526 = .ok (.bipush 12, 2) := dc_bipush (gt_M_init_5 26) (gt_M_init_5 27) rfl
theorem d_M_init_528 : decode b_M_init 528 = .ok (.bipush 111, 2) := dc_bipush (gt_M_init_5 28) (gt_M_init_5 29) rfl
theorem d_M_init_530 : decode b_M_init 530 = .ok (.bastore, 1) := dc_bastore (gt_M_init_5 30)
theorem d_M_init_531 : decode b_M_init 531 = .ok (.dup, 1) := dc_dup (gt_M_init_5 31)
theorem d_M_init_532 : decode b_M_init 532 = .ok (.bipush 13, 2) := dc_bipush (gt_M_init_5 32) (gt_M_init_5 33) rfl
theorem d_M_init_534 : decode b_M_init 534 = .ok (.bipush 107, 2) := dc_bipush (gt_M_init_5 34) (gt_M_init_5 35) rfl
theorem d_M_init_536 : decode b_M_init 536 = .ok (.bastore, 1) := dc_bastore (gt_M_init_5 36)
theorem d_M_init_537 : decode b_M_init 537 = .ok (.dup, 1) := dc_dup (gt_M_init_5 37)
theorem d_M_init_538 : decode b_M_init 538 = .ok (.bipush 14, 2) := dc_bipush (gt_M_init_5 38) (gt_M_init_5 39) rfl
theorem d_M_init_540 : decode b_M_init 540 = .ok (.iconst 4, 1) := dc_iconst_4 (gt_M_init_5 40)
theorem d_M_init_541 : decode b_M_init 541 = .ok (.bastore, 1) := dc_bastore (gt_M_init_5 41)
theorem d_M_init_542 : decode b_M_init 542 = .ok (.dup, 1) := dc_dup (gt_M_init_5 42)
theorem d_M_init_543 : decode b_M_init 543 = .ok (.bipush 15, 2) := dc_bipush (gt_M_init_5 43) (gt_M_init_5 44) rfl
theorem d_M_init_545 : decode b_M_init 545 = .ok (.bipush 110, 2) := dc_bipush (gt_M_init_5 45) (gt_M_init_5 46) rfl
theorem d_M_init_547 : decode b_M_init 547 = .ok (.bastore, 1) := dc_bastore (gt_M_init_5 47)
theorem d_M_init_548 : decode b_M_init 548 = .ok (.dup, 1) := dc_dup (gt_M_init_5 48)
theorem d_M_init_549 : decode b_M_init 549 = .ok (.bipush 16, 2) := dc_bipush (gt_M_init_5 49) (gt_M_init_5 50) rfl
theorem d_M_init_551 : decode b_M_init 551 = .ok (.bipush 111, 2) := dc_bipush (gt_M_init_5 51) (gt_M_init_5 52) rfl
theorem d_M_init_553 : decode b_M_init 553 = .ok (.bastore, 1) := dc_bastore (gt_M_init_5 53)
theorem d_M_init_554 : decode b_M_init 554 = .ok (.dup, 1) := dc_dup (gt_M_init_5 54)
theorem d_M_init_555 : decode b_M_init 555 = .ok (.bipush 17, 2) := dc_bipush (gt_M_init_5 55) (gt_M_init_5 56) rfl
theorem d_M_init_557 : decode b_M_init 557 = .ok (.bipush 110, 2) := dc_bipush (gt_M_init_5 57) (gt_M_init_5 58) rfl
theorem d_M_init_559 : decode b_M_init 559 = .ok (.bastore, 1) := dc_bastore (gt_M_init_5 59)
theorem d_M_init_560 : decode b_M_init 560 = .ok (.dup, 1) := dc_dup (gt_M_init_5 60)
theorem d_M_init_561 : decode b_M_init 561 = .ok (.bipush 18, 2) := dc_bipush (gt_M_init_5 61) (gt_M_init_5 62) rfl
theorem d_M_init_563 : decode b_M_init 563 = .ok (.bipush 101, 2) := dc_bipush (gt_M_init_5 63) (gt_M_init_5 64) rfl
theorem d_M_init_565 : decode b_M_init 565 = .ok (.bastore, 1) := dc_bastore (gt_M_init_5 65)
theorem d_M_init_566 : decode b_M_init 566 = .ok (.dup, 1) := dc_dup (gt_M_init_5 66)
theorem d_M_init_567 : decode b_M_init 567 = .ok (.bipush 19, 2) := dc_bipush (gt_M_init_5 67) (gt_M_init_5 68) rfl
theorem d_M_init_569 : decode b_M_init 569 = .ok (.bipush 6, 2) := dc_bipush (gt_M_init_5 69) (gt_M_init_5 70) rfl
theorem d_M_init_571 : decode b_M_init 571 = .ok (.bastore, 1) := dc_bastore (gt_M_init_5 71)
theorem d_M_init_572 : decode b_M_init 572 = .ok (.dup, 1) := dc_dup (gt_M_init_5 72)
theorem d_M_init_573 : decode b_M_init 573 = .ok (.bipush 20, 2) := dc_bipush (gt_M_init_5 73) (gt_M_init_5 74) rfl
theorem d_M_init_575 : decode b_M_init 575 = .ok (.bipush 110, 2) := dc_bipush (gt_M_init_5 75) (gt_M_init_5 76) rfl
theorem d_M_init_577 : decode b_M_init 577 = .ok (.bastore, 1) := dc_bastore (gt_M_init_5 77)
theorem d_M_init_578 : decode b_M_init 578 = .ok (.dup, 1) := dc_dup (gt_M_init_5 78)
theorem d_M_init_579 : decode b_M_init 579 = .ok (.bipush 21, 2) := dc_bipush (gt_M_init_5 79) (gt_M_init_5 80) rfl
theorem d_M_init_581 : decode b_M_init 581 = .ok (.bipush 111, 2) := dc_bipush (gt_M_init_5 81) (gt_M_init_5 82) rfl
theorem d_M_init_583 : decode b_M_init 583 = .ok (.bastore, 1) := dc_bastore (gt_M_init_5 83)
theorem d_M_init_584 : decode b_M_init 584 = .ok (.dup, 1) := dc_dup (gt_M_init_5 84)
theorem d_M_init_585 : decode b_M_init 585 = .ok (.bipush 22, 2) := dc_bipush (gt_M_init_5 85) (gt_M_init_5 86) rfl
theorem d_M_init_587 : decode b_M_init 587 = .ok (.bipush 114, 2) := dc_bipush (gt_M_init_5 87) (gt_M_init_5 88) rfl
theorem d_M_init_589 : decode b_M_init 589 = .ok (.bastore, 1) := dc_bastore (gt_M_init_5 89)
theorem d_M_init_590 : decode b_M_init 590 = .ok (.dup, 1) := dc_dup (gt_M_init_5 90)
theorem d_M_init_591 : decode b_M_init 591 = .ok (.bipush 23, 2) := dc_bipush (gt_M_init_5 91) (gt_M_init_5 92) rfl
theorem d_M_init_593 : decode b_M_init 593 = .ok (.bipush 109, 2) := dc_bipush (gt_M_init_5 93) (gt_M_init_5 94) rfl
theorem d_M_init_595 : decode b_M_init 595 = .ok (.bastore, 1) := dc_bastore (gt_M_init_5 95)
theorem d_M_init_596 : decode b_M_init 596 = .ok (.dup, 1) := dc_dup (gt_M_init_5 96)
theorem d_M_init_597 : decode b_M_init 597 = .ok (.bipush 24, 2) := dc_bipush (gt_M_init_5 97) (gt_M_init_5 98) rfl
theorem d_M_init_599 : decode b_M_init 599 = .ok (.bipush 97, 2) := dc_bipush (gt_M_init_5 99) (gt_M_init_6 0) rfl
theorem d_M_init_601 : decode b_M_init 601 = .ok (.bastore, 1) := dc_bastore (gt_M_init_6 1)
theorem d_M_init_602 : decode b_M_init 602 = .ok (.dup, 1) := dc_dup (gt_M_init_6 2)
theorem d_M_init_603 : decode b_M_init 603 = .ok (.bipush 25, 2) := dc_bipush (gt_M_init_6 3) (gt_M_init_6 4) rfl
theorem d_M_init_605 : decode b_M_init 605 = .ok (.bipush 108, 2) := dc_bipush (gt_M_init_6 5) (gt_M_init_6 6) rfl
theorem d_M_init_607 : decode b_M_init 607 = .ok (.bastore, 1) := dc_bastore (gt_M_init_6 7)
theorem d_M_init_608 : decode b_M_init 608 = .ok (.dup, 1) := dc_dup (gt_M_init_6 8)
theorem d_M_init_609 : decode b_M_init 609 = .ok (.bipush 26, 2) := dc_bipush (gt_M_init_6 9) (gt_M_init_6 10) rfl
theorem d_M_init_611 : decode b_M_init 611 = .ok (.iconst 4, 1) := dc_iconst_4 (gt_M_init_6 11)
theorem d_M_init_612 : decode b_M_init 612 = .ok (.bastore, 1) := dc_bastore (gt_M_init_6 12)
theorem d_M_init_613 : decode b_M_init 613 = .ok (.dup, 1) := dc_dup (gt_M_init_6 13)
theorem d_M_init_614 : decode b_M_init 614 = .ok (.bipush 27, 2) := dc_bipush (gt_M_init_6 14) (gt_M_init_6 15) rfl
theorem d_M_init_616 : decode b_M_init 616 = .ok (.bipush 107, 2) := dc_bipush (gt_M_init_6 16) (gt_M_init_6 17) rfl
theorem d_M_init_618 : decode b_M_init 618 = .ok (.bastore, 1) := dc_bastore (gt_M_init_6 18)
theorem d_M_init_619 : decode b_M_init 619 = .ok (.dup, 1) := dc_dup (gt_M_init_6 19)
theorem d_M_init_620 : decode b_M_init 620 = .ok (.bipush 28, 2) := dc_bipush (gt_M_init_6 20) (gt_M_init_6 21) rfl
theorem d_M_init_622 : decode b_M_init 622 = .ok (.bipush 105, 2) := dc_bipush (gt_M_init_6 22) (gt_M_init_6 23) rfl
theorem d_M_init_624 : decode b_M_init 624 = .ok (.bastore, 1) := dc_bastore (gt_M_init_6 24)
theorem d_M_init_625 : decode b_M_init 625 = .ok (.dup, 1) := dc_dup (gt_M_init_6 25)
theorem d_M_init_626 : decode b_M_init 626 = .ok (.bipush 29, 2) := dc_bipush (gt_M_init_6 26) (gt_M_init_6 27) rfl
theorem d_M_init_628 : decode b_M_init 628 = .ok (.bipush 108, 2) := dc_bipush (gt_M_init_6 28) (gt_M_init_6 29) rfl
theorem d_M_init_630 : decode b_M_init 630 = .ok (.bastore, 1) := dc_bastore (gt_M_init_6 30)
theorem d_M_init_631 : decode b_M_init 631 = .ok (.dup, 1) := dc_dup (gt_M_init_6 31)
theorem d_M_init_632 : decode b_M_init 632 = .ok (.bipush 30, 2) := dc_bipush (gt_M_init_6 32) (gt_M_init_6 33) rfl
theorem d_M_init_634 : decode b_M_init 634 = .ok (.bipush 108, 2) := dc_bipush (gt_M_init_6 34) (gt_M_init_6 35) rfl
theorem d_M_init_636 : decode b_M_init 636 = .ok (.bastore, 1) := dc_bastore (gt_M_init_6 36)
theorem d_M_init_637 : decode b_M_init 637 = .ok (.dup, 1) := dc_dup (gt_M_init_6 37)
theorem d_M_init_638 : decode b_M_init 638 = .ok (.bipush 31, 2) := dc_bipush (gt_M_init_6 38) (gt_M_init_6 39) rfl
theorem d_M_init_640 : decode b_M_init 640 = .ok (.bipush 6, 2) := dc_bipush (gt_M_init_6 40) (gt_M_init_6 41) rfl
theorem d_M_init_642 : decode b_M_init 642 = .ok (.bastore, 1) := dc_bastore (gt_M_init_6 42)
theorem d_M_init_643 : decode b_M_init 643 = .ok (.dup, 1) := dc_dup (gt_M_init_6 43)
theorem d_M_init_644 : decode b_M_init 644 = .ok (.bipush 32, 2) := dc_bipush (gt_M_init_6 44) (gt_M_init_6 45) rfl
theorem d_M_init_646 : decode b_M_init 646 = .ok (.bipush 107, 2) := dc_bipush (gt_M_init_6 46) (gt_M_init_6 47) rfl
theorem d_M_init_648 : decode b_M_init 648 = .ok (.bastore, 1) := dc_bastore (gt_M_init_6 48)
theorem d_M_init_649 : decode b_M_init 649 = .ok (.dup, 1) := dc_dup (gt_M_init_6 49)
theorem d_M_init_650 : decode b_M_init 650 = .ok (.bipush 33, 2) := dc_bipush (gt_M_init_6 50) (gt_M_init_6 51) rfl
theorem d_M_init_652 : decode b_M_init 652 = .ok (.bipush 105, 2) := dc_bipush (gt_M_init_6 52) (gt_M_init_6 53) rfl
theorem d_M_init_654 : decode b_M_init 654 = .ok (.bastore, 1) := dc_bastore (gt_M_init_6 54)
theorem d_M_init_655 : decode b_M_init 655 = .ok (.dup, 1) := dc_dup (gt_M_init_6 55)
theorem d_M_init_656 : decode b_M_init 656 = .ok (.bipush 34, 2) := dc_bipush (gt_M_init_6 56) (gt_M_init_6 57) rfl
theorem d_M_init_658 : decode b_M_init 658 = .ok (.bipush 108, 2) := dc_bipush (gt_M_init_6 58) (gt_M_init_6 59) rfl
theorem d_M_init_660 : decode b_M_init 660 = .ok (.bastore, 1) := dc_bastore (gt_M_init_6 60)
theorem d_M_init_661 : decode b_M_init 661 = .ok (.dup, 1) := dc_dup (gt_M_init_6 61)
theorem d_M_init_662 : decode b_M_init 662 = .ok (.bipush 35, 2) := dc_bipush (gt_M_init_6 62) (gt_M_init_6 63) rfl
theorem d_M_init_664 : decode b_M_init 664 = .ok (.bipush 108, 2) := dc_bipush (gt_M_init_6 64) (gt_M_init_6 65) rfl
theorem d_M_init_666 : decode b_M_init 666 = .ok (.bastore, 1) := dc_bastore (gt_M_init_6 66)
theorem d_M_init_667 : decode b_M_init 667 = .ok (.dup, 1) := dc_dup (gt_M_init_6 67)
theorem d_M_init_668 : decode b_M_init 668 = .ok (.bipush 36, 2) := dc_bipush (gt_M_init_6 68) (gt_M_init_6 69) rfl
theorem d_M_init_670 : decode b_M_init 670 = .ok (.bipush 101, 2) := dc_bipush (gt_M_init_6 70) (gt_M_init_6 71) rfl
theorem d_M_init_672 : decode b_M_init 672 = .ok (.bastore, 1) := dc_bastore (gt_M_init_6 72)
theorem d_M_init_673 : decode b_M_init 673 = .ok (.dup, 1) := dc_dup (gt_M_init_6 73)
theorem d_M_init_674 : decode b_M_init 674 = .ok (.bipush 37, 2) := dc_bipush (gt_M_init_6 74) (gt_M_init_6 75) rfl
theorem d_M_init_676 : decode b_M_init 676 = .ok (.bipush 100, 2) := dc_bipush (gt_M_init_6 76) (gt_M_init_6 77) rfl
theorem d_M_init_678 : decode b_M_init 678 = .ok (.bastore, 1) := dc_bastore (gt_M_init_6 78)
theorem d_M_init_679 : decode b_M_init 679 = .ok (.dup, 1) := dc_dup (gt_M_init_6 79)
theorem d_M_init_680 : decode b_M_init 680 = .ok (.bipush 38, 2) := dc_bipush (gt_M_init_6 80) (gt_M_init_6 81) rfl
theorem d_M_init_682 : decode b_M_init 682 = .ok (.iconst 5, 1) := dc_iconst_5 (gt_M_init_6 82)
theorem d_M_init_683 : decode b_M_init 683 = .ok (.bastore, 1) := dc_bastore (gt_M_init_6 83)
theorem d_M_init_684 : decode b_M_init 684 = .ok (.dup, 1) := dc_dup (gt_M_init_6 84)
theorem d_M_init_685 : decode b_M_init 685 = .ok (.bipush 39, 2) := dc_bipush (gt_M_init_6 85) (gt_M_init_6 86) rfl
theorem d_M_init_687 : decode b_M_init 687 = .ok (.bipush 101, 2) := dc_bipush (gt_M_init_6 87) (gt_M_init_6 88) rfl
theorem d_M_init_689 : decode b_M_init 689 = .ok (.bastore, 1) := dc_bastore (gt_M_init_6 89)
theorem d_M_init_690 : decode b_M_init 690 = .ok (.dup, 1) := dc_dup (gt_M_init_6 90)
theorem d_M_init_691 : decode b_M_init 691 = .ok (.bipush 40, 2) := dc_bipush (gt_M_init_6 91) (gt_M_init_6 92) rfl
theorem d_M_init_693 : decode b_M_init 693 = .ok (.bipush 114, 2) := dc_bipush (gt_M_init_6 93) (gt_M_init_6 94) rfl
theorem d_M_init_695 : decode b_M_init 695 = .ok (.bastore, 1) := dc_bastore (gt_M_init_6 95)
theorem d_M_init_696 : decode b_M_init 696 = .ok (.dup, 1) := dc_dup (gt_M_init_6 96)
theorem d_M_init_697 : decode b_M_init 697 = .ok (.bipush 41, 2) := dc_bipush (gt_M_init_6 97) (gt_M_init_6 98) rfl
theorem d_M_init_699 : decode b_M_init 699 = .ok (.bipush 114, 2) := dc_bipush (gt_M_init_6 99) (gt_M_init_7 0) rfl
theorem d_M_init_701 : decode b_M_init 701 = .ok (.bastore, 1) := dc_bastore (gt_M_init_7 1)
theorem d_M_init_702 : decode b_M_init 702 = .ok (.dup, 1) := dc_dup (gt_M_init_7 2)
theorem d_M_init_703 : decode b_M_init 703 = .ok (.bipush 42, 2) := dc_bipush (gt_M_init_7 3) (gt_M_init_7 4) rfl
theorem d_M_init_705 : decode b_M_init 705 = .ok (.bipush 111, 2) := dc_bipush (gt_M_init_7 5) (gt_M_init_7 6) rfl
theorem d_M_init_707 : decode b_M_init 707 = .ok (.bastore, 1) := dc_bastore (gt_M_init_7 7)
theorem d_M_init_708 : decode b_M_init 708 = .ok (.dup, 1) := dc_dup (gt_M_init_7 8)
theorem d_M_init_709 : decode b_M_init 709 = .ok (.bipush 43, 2) := dc_bipush (gt_M_init_7 9) (gt_M_init_7 10) rfl
theorem d_M_init_711 : decode b_M_init 711 = .ok (.bipush 114, 2) := dc_bipush (gt_M_init_7 11) (gt_M_init_7 12) rfl
theorem d_M_init_713 : decode b_M_init 713 = .ok (.bastore, 1) := dc_bastore (gt_M_init_7 13)
theorem d_M_init_714 : decode b_M_init 714 = .ok (.dup, 1) := dc_dup (gt_M_init_7 14)
theorem d_M_init_715 : decode b_M_init 715 = .ok (.bipush 44, 2) := dc_bipush (gt_M_init_7 15) (gt_M_init_7 16) rfl
theorem d_M_init_717 : decode b_M_init 717 = .ok (.iconst 4, 1) := dc_iconst_4 (gt_M_init_7 17)
theorem d_M_init_718 : decode b_M_init 718 = .ok (.bastore, 1) := dc_bastore (gt_M_init_7 18)
theorem d_M_init_719 : decode b_M_init 719 = .ok (.dup, 1) := dc_dup (gt_M_init_7 19)
theorem d_M_init_720 : decode b_M_init 720 = .ok (.bipush 45, 2) := dc_bipush (gt_M_init_7 20) (gt_M_init_7 21) rfl
theorem d_M_init_722 : decode b_M_init 722 = .ok (.bipush 101, 2) := dc_bipush (gt_M_init_7 22) (gt_M_init_7 23) rfl
theorem d_M_init_724 : decode b_M_init 724 = .ok (.bastore, 1) := dc_bastore (gt_M_init_7 24)
theorem d_M_init_725 : decode b_M_init 725 = .ok (.dup, 1) := dc_dup (gt_M_init_7 25)
theorem d_M_init_726 : decode b_M_init 726 = .ok (.bipush 46, 2) := dc_bipush (gt_M_init_7 26) (gt_M_init_7 27) rfl
theorem d_M_init_728 : decode b_M_init 728 = .ok (.bipush 120, 2) := dc_bipush (gt_M_init_7 28) (gt_M_init_7 29) rfl
theorem d_M_init_730 : decode b_M_init 730 = .ok (.bastore, 1) := dc_bastore (gt_M_init_7 30)
theorem d_M_init_731 : decode b_M_init 731 = .ok (.dup, 1) := dc_dup (gt_M_init_7 31)
theorem d_M_init_732 : decode b_M_init 732 = .ok (.bipush 47, 2) := dc_bipush (gt_M_init_7 32) (gt_M_init_7 33) rfl
theorem d_M_init_734 : decode b_M_init 734 = .ok (.bipush 105, 2) := dc_bipush (gt_M_init_7 34) (gt_M_init_7 35) rfl
theorem d_M_init_736 : decode b_M_init 736 = .ok (.bastore, 1) := dc_bastore (gt_M_init_7 36)
theorem d_M_init_737 : decode b_M_init 737 = .ok (.dup, 1) := dc_dup (gt_M_init_7 37)
theorem d_M_init_738 : decode b_M_init 738 = .ok (.bipush 48, 2) := dc_bipush (gt_M_init_7 38) (gt_M_init_7 39) rfl
theorem d_M_init_740 : decode b_M_init 740 = .ok (.bipush 116, 2) := dc_bipush (gt_M_init_7 40) (gt_M_init_7 41) rfl
theorem d_M_init_742 : decode b_M_init 742 = .ok (.bastore, 1) := dc_bastore (gt_M_init_7 42)
theorem d_M_init_743 : decode b_M_init 743 = .ok (.dup, 1) := dc_dup (gt_M_init_7 43)
theorem d_M_init_744 : decode b_M_init 744 = .ok (.bipush 49, 2) := dc_bipush (gt_M_init_7 44) (gt_M_init_7 45) rfl
theorem d_M_init_746 : decode b_M_init 746 = .ok (.iconst 4, 1) := dc_iconst_4 (gt_M_init_7 46)
theorem d_M_init_747 : decode b_M_init 747 = .ok (.bastore, 1) := dc_bastore (gt_M_init_7 47)
theorem d_M_init_748 : decode b_M_init 748 = .ok (.dup, 1) := dc_dup (gt_M_init_7 48)
theorem d_M_init_749 : decode b_M_init 749 = .ok (.bipush 50, 2) := dc_bipush (gt_M_init_7 49) (gt_M_init_7 50) rfl
theorem d_M_init_751 : decode b_M_init 751 = .ok (.bipush 100, 2) := dc_bipush (gt_M_init_7 51) (gt_M_init_7 52) rfl
theorem d_M_init_753 : decode b_M_init 753 = .ok (.bastore, 1) := dc_bastore (gt_M_init_7 53)
theorem d_M_init_754 : decode b_M_init 754 = .ok (.dup, 1) := dc_dup (gt_M_init_7 54)
theorem d_M_init_755 : decode b_M_init 755 = .ok (.bipush 51, 2) := dc_bipush (gt_M_init_7 55) (gt_M_init_7 56) rfl
theorem d_M_init_757 : decode b_M_init 757 = .ok (.bipush 111, 2) := dc_bipush (gt_M_init_7 57) (gt_M_init_7 58) rfl
theorem d_M_init_759 : decode b_M_init 759 = .ok (.bastore, 1) := dc_bastore (gt_M_init_7 59)
theorem d_M_init_760 : decode b_M_init 760 = .ok (.dup, 1) := dc_dup (gt_M_init_7 60)
theorem d_M_init_761 : decode b_M_init 761 = .ok (.bipush 52, 2) := dc_bipush (gt_M_init_7 61) (gt_M_init_7 62) rfl
theorem d_M_init_763 : decode b_M_init 763 = .ok (.bipush 119, 2) := dc_bipush (gt_M_init_7 63) (gt_M_init_7 64) rfl
theorem d_M_init_765 : decode b_M_init 765 = .ok (.bastore, 1) := dc_bastore (gt_M_init_7 65)
theorem d_M_init_766 : decode b_M_init 766 = .ok (.dup, 1) := dc_dup (gt_M_init_7 66)
theorem d_M_init_767 : decode b_M_init 767 = .ok (.bipush 53, 2) := dc_bipush (gt_M_init_7 67) (gt_M_init_7 68) rfl
theorem d_M_init_769 : decode b_M_init 769 = .ok (.bipush 110, 2) := dc_bipush (gt_M_init_7 69) (gt_M_init_7 70) rfl
theorem d_M_init_771 : decode b_M_init 771 = .ok (.bastore, 1) := dc_bastore (gt_M_init_7 71)
theorem d_M_init_772 : decode b_M_init 772 = .ok (.dup, 1) := dc_dup (gt_M_init_7 72)
theorem d_M_init_773 : decode b_M_init 773 = .ok (.bipush 54, 2) := dc_bipush (gt_M_init_7 73) (gt_M_init_7 74) rfl
theorem d_M_init_775 : decode b_M_init 775 = .ok (.bipush 8, 2) := dc_bipush (gt_M_init_7 75) (gt_M_init_7 76) rfl
theorem d_M_init_777 : decode b_M_init 777 = .ok (.bastore, 1) := dc_bastore (gt_M_init_7 77)
theorem d_M_init_778 : decode b_M_init 778 = .ok (.dup, 1) := dc_dup (gt_M_init_7 78)
theorem d_M_init_779 : decode b_M_init 779 = .ok (.bipush 55, 2) := dc_bipush (gt_M_init_7 79) (gt_M_init_7 80) rfl
theorem d_M_init_781 : decode b_M_init 781 = .ok (.bipush 105, 2) := dc_bipush (gt_M_init_7 81) (gt_M_init_7 82) rfl
theorem d_M_init_783 : decode b_M_init 783 = .ok (.bastore, 1) := dc_bastore (gt_M_init_7 83)
theorem d_M_init_784 : decode b_M_init 784 = .ok (.dup, 1) := dc_dup (gt_M_init_7 84)
theorem d_M_init_785 : decode b_M_init 785 = .ok (.bipush 56, 2) := dc_bipush (gt_M_init_7 85) (gt_M_init_7 86) rfl
theorem d_M_init_787 : decode b_M_init 787 = .ok (.bipush 110, 2) := dc_bipush (gt_M_init_7 87) (gt_M_init_7 88) rfl
theorem d_M_init_789 : decode b_M_init 789 = .ok (.bastore, 1) := dc_bastore (gt_M_init_7 89)
theorem d_M_init_790 : decode b_M_init 790 = .ok (.dup, 1) := dc_dup (gt_M_init_7 90)
theorem d_M_init_791 : decode b_M_init 791 = .ok (.bipush 57, 2) := dc_bipush (gt_M_init_7 91) (gt_M_init_7 92) rfl
theorem d_M_init_793 : decode b_M_init 793 = .ok (.bipush 102, 2) := dc_bipush (gt_M_init_7 93) (gt_M_init_7 94) rfl
theorem d_M_init_795 : decode b_M_init 795 = .ok (.bastore, 1) := dc_bastore (gt_M_init_7 95)
theorem d_M_init_796 : decode b_M_init 796 = .ok (.dup, 1) := dc_dup (gt_M_init_7 96)
theorem d_M_init_797 : decode b_M_init 797 = .ok (.bipush 58, 2) := dc_bipush (gt_M_init_7 97) (gt_M_init_7 98) rfl
theorem d_M_init_799 : decode b_M_init 799 = .ok (.bipush 105, 2) := dc_bipush (gt_M_init_7 99) (gt_M_init_8 0) rfl
theorem d_M_init_801 : decode b_M_init 801 = .ok (.bastore, 1) := dc_bastore (gt_M_init_8 1)
theorem d_M_init_802 : decode b_M_init 802 = .ok (.dup, 1) := dc_dup (gt_M_init_8 2)
theorem d_M_init_803 : decode b_M_init 803 = .ok (.bipush 59, 2) := dc_bipush (gt_M_init_8 3) (gt_M_init_8 4) rfl
theorem d_M_init_805 : decode b_M_init 805 = .ok (.bipush 110, 2) := dc_bipush (gt_M_init_8 5) (gt_M_init_8 6) rfl
theorem d_M_init_807 : decode b_M_init 807 = .ok (.bastore, 1) := dc_bastore (gt_M_init_8 7)
theorem d_M_init_808 : decode b_M_init 808 = .ok (.dup, 1) := dc_dup (gt_M_init_8 8)
theorem d_M_init_809 : decode b_M_init 809 = .ok (.bipush 60, 2) := dc_bipush (gt_M_init_8 9) (gt_M_init_8 10) rfl
theorem d_M_init_811 : decode b_M_init 811 = .ok (.bipush 105, 2) := dc_bipush (gt_M_init_8 11) (gt_M_init_8 12) rfl
theorem d_M_init_813 : decode b_M_init 813 = .ok (.bastore, 1) := dc_bastore (gt_M_init_8 13)
theorem d_M_init_814 : decode b_M_init 814 = .ok (.dup, 1) := dc_dup (gt_M_init_8 14)
theorem d_M_init_815 : decode b_M_init 815 = .ok (.bipush 61, 2) := dc_bipush (gt_M_init_8 15) (gt_M_init_8 16) rfl
theorem d_M_init_817 : decode b_M_init 817 = .ok (.bipush 116, 2) := dc_bipush (gt_M_init_8 17) (gt_M_init_8 18) rfl
theorem d_M_init_819 : decode b_M_init 819 = .ok (.bastore, 1) := dc_bastore (gt_M_init_8 19)
theorem d_M_init_820 : decode b_M_init 820 = .ok (.dup, 1) := dc_dup (gt_M_init_8 20)
theorem d_M_init_821 : decode b_M_init 821 = .ok (.bipush 62, 2) := dc_bipush (gt_M_init_8 21) (gt_M_init_8 22) rfl
theorem d_M_init_823 : decode b_M_init 823 = .ok (.bipush 121, 2) := dc_bipush (gt_M_init_8 23) (gt_M_init_8 24) rfl
theorem d_M_init_825 : decode b_M_init 825 = .ok (.bastore, 1) := dc_bastore (gt_M_init_8 25)
theorem d_M_init_826 : decode b_M_init 826 = .ok (.dup, 1) := dc_dup (gt_M_init_8 26)
theorem d_M_init_827 : decode b_M_init 827 = .ok (.bipush 63, 2) := dc_bipush (gt_M_init_8 27) (gt_M_init_8 28) rfl
theorem d_M_init_829 : decode b_M_init 829 = .ok (.bipush 6, 2) := dc_bipush (gt_M_init_8 29) (gt_M_init_8 30) rfl
theorem d_M_init_831 : decode b_M_init 831 = .ok (.bastore, 1) := dc_bastore (gt_M_init_8 31)
theorem d_M_init_832 : decode b_M_init 832 = .ok (.dup, 1) := dc_dup (gt_M_init_8 32)
theorem d_M_init_833 : decode b_M_init 833 = .ok (.bipush 64, 2) := dc_bipush (gt_M_init_8 33) (gt_M_init_8 34) rfl
theorem d_M_init_835 : decode b_M_init 835 = .ok (.bipush 98, 2) := dc_bipush (gt_M_init_8 35) (gt_M_init_8 36) rfl
theorem d_M_init_837 : decode b_M_init 837 = .ok (.bastore, 1) := dc_bastore (gt_M_init_8 37)
theorem d_M_init_838 : decode b_M_init 838 = .ok (.dup, 1) := dc_dup (gt_M_init_8 38)
theorem d_M_init_839 : decode b_M_init 839 = .ok (.bipush 65, 2) := dc_bipush (gt_M_init_8 39) (gt_M_init_8 40) rfl
theorem d_M_init_841 : decode b_M_init 841 = .ok (.bipush 97, 2) := dc_bipush (gt_M_init_8 41) (gt_M_init_8 42) rfl
theorem d_M_init_843 : decode b_M_init 843 = .ok (.bastore, 1) := dc_bastore (gt_M_init_8 43)
theorem d_M_init_844 : decode b_M_init 844 = .ok (.dup, 1) := dc_dup (gt_M_init_8 44)
theorem d_M_init_845 : decode b_M_init 845 = .ok (.bipush 66, 2) := dc_bipush (gt_M_init_8 45) (gt_M_init_8 46) rfl
theorem d_M_init_847 : decode b_M_init 847 = .ok (.bipush 100, 2) := dc_bipush (gt_M_init_8 47) (gt_M_init_8 48) rfl
theorem d_M_init_849 : decode b_M_init 849 = .ok (.bastore, 1) := dc_bastore (gt_M_init_8 49)
theorem d_M_init_850 : decode b_M_init 850 = .ok (.dup, 1) := dc_dup (gt_M_init_8 50)
theorem d_M_init_851 : decode b_M_init 851 = .ok (.bipush 67, 2) := dc_bipush (gt_M_init_8 51) (gt_M_init_8 52) rfl
theorem d_M_init_853 : decode b_M_init 853 = .ok (.bipush 97, 2) := dc_bipush (gt_M_init_8 53) (gt_M_init_8 54) rfl
theorem d_M_init_855 : decode b_M_init 855 = .ok (.bastore, 1) := dc_bastore (gt_M_init_8 55)
theorem d_M_init_856 : decode b_M_init 856 = .ok (.dup, 1) := dc_dup (gt_M_init_8 56)
theorem d_M_init_857 : decode b_M_init 857 = .ok (.bipush 68, 2) := dc_bipush (gt_M_init_8 57) (gt_M_init_8 58) rfl
theorem d_M_init_859 : decode b_M_init 859 = .ok (.bipush 114, 2) := dc_bipush (gt_M_init_8 59) (gt_M_init_8 60) rfl
theorem d_M_init_861 : decode b_M_init 861 = .ok (.bastore, 1) := dc_bastore (gt_M_init_8 61)
theorem d_M_init_862 : decode b_M_init 862 = .ok (.dup, 1) := dc_dup (gt_M_init_8 62)
theorem d_M_init_863 : decode b_M_init 863 = .ok (.bipush 69, 2) := dc_bipush (gt_M_init_8 63) (gt_M_init_8 64) rfl
theorem d_M_init_865 : decode b_M_init 865 = .ok (.bipush 103, 2) := dc_bipush (gt_M_init_8 65) (gt_M_init_8 66) rfl
theorem d_M_init_867 : decode b_M_init 867 = .ok (.bastore, 1) := dc_bastore (gt_M_init_8 67)
theorem d_M_init_868 : decode b_M_init 868 = .ok (.dup, 1) := dc_dup (gt_M_init_8 68)
theorem d_M_init_869 : decode b_M_init 869 = .ok (.bipush 70, 2) := dc_bipush (gt_M_init_8 69) (gt_M_init_8 70) rfl
theorem d_M_init_871 : decode b_M_init 871 = .ok (.bipush 8, 2) := dc_bipush (gt_M_init_8 71) (gt_M_init_8 72) rfl
theorem d_M_init_873 : decode b_M_init 873 = .ok (.bastore, 1) := dc_bastore (gt_M_init_8 73)
theorem d_M_init_874 : decode b_M_init 874 = .ok (.dup, 1) := dc_dup (gt_M_init_8 74)
theorem d_M_init_875 : decode b_M_init 875 = .ok (.bipush 71, 2) := dc_bipush (gt_M_init_8 75) (gt_M_init_8 76) rfl
theorem d_M_init_877 : decode b_M_init 877 = .ok (.bipush 98, 2) := dc_bipush (gt_M_init_8 77) (gt_M_init_8 78) rfl
theorem d_M_init_879 : decode b_M_init 879 = .ok (.bastore, 1) := dc_bastore (gt_M_init_8 79)
theorem d_M_init_880 : decode b_M_init 880 = .ok (.dup, 1) := dc_dup (gt_M_init_8 80)
theorem d_M_init_881 : decode b_M_init 881 = .ok (.bipush 72, 2) := dc_bipush (gt_M_init_8 81) (gt_M_init_8 82) rfl
theorem d_M_init_883 : decode b_M_init 883 = .ok (.bipush 97, 2) := dc_bipush (gt_M_init_8 83) (gt_M_init_8 84) rfl
theorem d_M_init_885 : decode b_M_init 885 = .ok (.bastore, 1) := dc_bastore (gt_M_init_8 85)
theorem d_M_init_886 : decode b_M_init 886 = .ok (.dup, 1) := dc_dup (gt_M_init_8 86)
theorem d_M_init_887 : decode b_M_init 887 = .ok (.bipush 73, 2) := dc_bipush (gt_M_init_8 87) (gt_M_init_8 88) rfl
theorem d_M_init_889 : decode b_M_init 889 = .ok (.bipush 100, 2) := dc_bipush (gt_M_init_8 89) (gt_M_init_8 90) rfl
theorem d_M_init_891 : decode b_M_init 891 = .ok (.bastore, 1) := dc_bastore (gt_M_init_8 91)
theorem d_M_init_892 : decode b_M_init 892 = .ok (.dup, 1) := dc_dup (gt_M_init_8 92)
theorem d_M_init_893 : decode b_M_init 893 = .ok (.bipush 74, 2) := dc_bipush (gt_M_init_8 93) (gt_M_init_8 94) rfl
theorem d_M_init_895 : decode b_M_init 895 = .ok (.bipush 97, 2) := dc_bipush (gt_M_init_8 95) (gt_M_init_8 96) rfl
theorem d_M_init_897 : decode b_M_init 897 = .ok (.bastore, 1) := dc_bastore (gt_M_init_8 97)
theorem d_M_init_898 : decode b_M_init 898 = .ok (.dup, 1) := dc_dup (gt_M_init_8 98)
theorem d_M_init_899 : decode b_M_init 899 = .ok (.bipush 75, 2) := dc_bipush (gt_M_init_8 99) (gt_M_init_9 0) rfl
theorem d_M_init_901 : decode b_M_init 901 = .ok (.bipush 114, 2) := dc_bipush (gt_M_init_9 1) (gt_M_init_9 2) rfl
theorem d_M_init_903 : decode b_M_init 903 = .ok (.bastore, 1) := dc_bastore (gt_M_init_9 3)
theorem d_M_init_904 : decode b_M_init 904 = .ok (.dup, 1) := dc_dup (gt_M_init_9 4)
theorem d_M_init_905 : decode b_M_init 905 = .ok (.bipush 76, 2) := dc_bipush (gt_M_init_9 5) (gt_M_init_9 6) rfl
theorem d_M_init_907 : decode b_M_init 907 = .ok (.bipush 105, 2) := dc_bipush (gt_M_init_9 7) (gt_M_init_9 8) rfl
theorem d_M_init_909 : decode b_M_init 909 = .ok (.bastore, 1) := dc_bastore (gt_M_init_9 9)
theorem d_M_init_910 : decode b_M_init 910 = .ok (.dup, 1) := dc_dup (gt_M_init_9 10)
theorem d_M_init_911 : decode b_M_init 911 = .ok (.bipush 77, 2) := dc_bipush (gt_M_init_9 11) (gt_M_init_9 12) rfl
theorem d_M_init_913 : decode b_M_init 913 = .ok (.bipush 116, 2) := dc_bipush (gt_M_init_9 13) (gt_M_init_9 14) rfl
theorem d_M_init_915 : decode b_M_init 915 = .ok (.bastore, 1) := dc_bastore (gt_M_init_9 15)
theorem d_M_init_916 : decode b_M_init 916 = .ok (.dup, 1) := dc_dup (gt_M_init_9 16)
theorem d_M_init_917 : decode b_M_init 917 = .ok (.bipush 78, 2) := dc_bipush (gt_M_init_9 17) (gt_M_init_9 18) rfl
theorem d_M_init_919 : decode b_M_init 919 = .ok (.bipush 104, 2) := dc_bipush (gt_M_init_9 19) (gt_M_init_9 20) rfl
theorem d_M_init_921 : decode b_M_init 921 = .ok (.bastore, 1) := dc_bastore (gt_M_init_9 21)
theorem d_M_init_922 : decode b_M_init 922 = .ok (.dup, 1) := dc_dup (gt_M_init_9 22)
theorem d_M_init_923 : decode b_M_init 923 = .ok (.bipush 79, 2) := dc_bipush (gt_M_init_9 23) (gt_M_init_9 24) rfl
theorem d_M_init_925 : decode b_M_init 925 = .ok (.bipush 8, 2) := dc_bipush (gt_M_init_9 25) (gt_M_init_9 26) rfl
theorem d_M_init_927 : decode b_M_init 927 = .ok (.bastore, 1) := dc_bastore (gt_M_init_9 27)
theorem d_M_init_928 : decode b_M_init 928 = .ok (.dup, 1) := dc_dup (gt_M_init_9 28)
theorem d_M_init_929 : decode b_M_init 929 = .ok (.bipush 80, 2) := dc_bipush (gt_M_init_9 29) (gt_M_init_9 30) rfl
theorem d_M_init_931 : decode b_M_init 931 = .ok (.bipush 98, 2) := dc_bipush (gt_M_init_9 31) (gt_M_init_9 32) rfl
theorem d_M_init_933 : decode b_M_init 933 = .ok (.bastore, 1) := dc_bastore (gt_M_init_9 33)
theorem d_M_init_934 : decode b_M_init 934 = .ok (.dup, 1) := dc_dup (gt_M_init_9 34)
theorem d_M_init_935 : decode b_M_init 935 = .ok (.bipush 81, 2) := dc_bipush (gt_M_init_9 35) (gt_M_init_9 36) rfl
theorem d_M_init_937 : decode b_M_init 937 = .ok (.bipush 97, 2) := dc_bipush (gt_M_init_9 37) (gt_M_init_9 38) rfl
theorem d_M_init_939 : decode b_M_init 939 = .ok (.bastore, 1) := dc_bastore (gt_M_init_9 39)
theorem d_M_init_940 : decode b_M_init 940 = .ok (.dup, 1) := dc_dup (gt_M_init_9 40)
theorem d_M_init_941 : decode b_M_init 941 = .ok (.bipush 82, 2) := dc_bipush (gt_M_init_9 41) (gt_M_init_9 42) rfl
theorem d_M_init_943 : decode b_M_init 943 = .ok (.bipush 100, 2) := dc_bipush (gt_M_init_9 43) (gt_M_init_9 44) rfl
theorem d_M_init_945 : decode b_M_init 945 = .ok (.bastore, 1) := dc_bastore (gt_M_init_9 45)
theorem d_M_init_946 : decode b_M_init 946 = .ok (.dup, 1) := dc_dup (gt_M_init_9 46)
theorem d_M_init_947 : decode b_M_init 947 = .ok (.bipush 83, 2) := dc_bipush (gt_M_init_9 47) (gt_M_init_9 48) rfl
theorem d_M_init_949 : decode b_M_init 949 = .ok (.bipush 109, 2) := dc_bipush (gt_M_init_9 49) (gt_M_init_9 50) rfl
theorem d_M_init_951 : decode b_M_init 951 = .ok (.bastore, 1) := dc_bastore (gt_M_init_9 51)
theorem d_M_init_952 : decode b_M_init 952 = .ok (.dup, 1) := dc_dup (gt_M_init_9 52)
theorem d_M_init_953 : decode b_M_init 953 = .ok (.bipush 84, 2) := dc_bipush (gt_M_init_9 53) (gt_M_init_9 54) rfl
theorem d_M_init_955 : decode b_M_init 955 = .ok (.bipush 97, 2) := dc_bipush (gt_M_init_9 55) (gt_M_init_9 56) rfl
theorem d_M_init_957 : decode b_M_init 957 = .ok (.bastore, 1) := dc_bastore (gt_M_init_9 57)
theorem d_M_init_958 : decode b_M_init 958 = .ok (.dup, 1) := dc_dup (gt_M_init_9 58)
theorem d_M_init_959 : decode b_M_init 959 = .ok (.bipush 85, 2) := dc_bipush (gt_M_init_9 59) (gt_M_init_9 60) rfl
theorem d_M_init_961 : decode b_M_init 961 = .ok (.bipush 116, 2) := dc_bipush (gt_M_init_9 61) (gt_M_init_9 62) rfl
theorem d_M_init_963 : decode b_M_init 963 = .ok (.bastore, 1) := dc_bastore (gt_M_init_9 63)
theorem d_M_init_964 : decode b_M_init 964 = .ok (.dup, 1) := dc_dup (gt_M_init_9 64)
theorem d_M_init_965 : decode b_M_init 965 = .ok (.bipush 86, 2) := dc_bipush (gt_M_init_9 65) (gt_M_init_9 66) rfl
theorem d_M_init_967 : decode b_M_init 967 = .ok (.bipush 99, 2) := dc_bipush (gt_M_init_9 67) (gt_M_init_9 68) rfl
theorem d_M_init_969 : decode b_M_init 969 = .ok (.bastore, 1) := dc_bastore (gt_M_init_9 69)
theorem d_M_init_970 : decode b_M_init 970 = .ok (.dup, 1) := dc_dup (gt_M_init_9 70)
theorem d_M_init_971 : decode b_M_init 971 = .ok (.bipush 87, 2) := dc_bipush (gt_M_init_9 71) (gt_M_init_9 72) rfl
theorem d_M_init_973 : decode b_M_init 973 = .ok (.bipush 104, 2) := dc_bipush (gt_M_init_9 73) (gt_M_init_9 74) rfl
theorem d_M_init_975 : decode b_M_init 975 = .ok (.bastore, 1) := dc_bastore (gt_M_init_9 75)
theorem d_M_init_976 : decode b_M_init 976 = .ok (.dup, 1) := dc_dup (gt_M_init_9 76)
theorem d_M_init_977 : decode b_M_init 977 = .ok (.bipush 88, 2) := dc_bipush (gt_M_init_9 77) (gt_M_init_9 78) rfl
theorem d_M_init_979 : decode b_M_init 979 = .ok (.bipush 15, 2) := dc_bipush (gt_M_init_9 79) (gt_M_init_9 80) rfl
theorem d_M_init_981 : decode b_M_init 981 = .ok (.bastore, 1) := dc_bastore (gt_M_init_9 81)
theorem d_M_init_982 : decode b_M_init 982 = .ok (.dup, 1) := dc_dup (gt_M_init_9 82)
theorem d_M_init_983 : decode b_M_init 983 = .ok (.bipush 89, 2) := dc_bipush (gt_M_init_9 83) (gt_M_init_9 84) rfl
theorem d_M_init_985 : decode b_M_init 985 = .ok (.bipush 102, 2) := dc_bipush (gt_M_init_9 85) (gt_M_init_9 86) rfl
theorem d_M_init_987 : decode b_M_init 987 = .ok (.bastore, 1) := dc_bastore (gt_M_init_9 87)
theorem d_M_init_988 : decode b_M_init 988 = .ok (.dup, 1) := dc_dup (gt_M_init_9 88)
theorem d_M_init_989 : decode b_M_init 989 = .ok (.bipush 90, 2) := dc_bipush (gt_M_init_9 89) (gt_M_init_9 90) rfl
theorem d_M_init_991 : decode b_M_init 991 = .ok (.bipush 117, 2) := dc_bipush (gt_M_init_9 91) (gt_M_init_9 92) rfl
theorem d_M_init_993 : decode b_M_init 993 = .ok (.bastore, 1) := dc_bastore (gt_M_init_9 93)
theorem d_M_init_994 : decode b_M_init 994 = .ok (.dup, 1) := dc_dup (gt_M_init_9 94)
theorem d_M_init_995 : decode b_M_init 995 = .ok (.bipush 91, 2) := dc_bipush (gt_M_init_9 95) (gt_M_init_9 96) rfl
theorem d_M_init_997 : decode b_M_init 997 = .ok (.bipush 110, 2) := dc_bipush (gt_M_init_9 97) (gt_M_init_9 98) rfl
theorem d_M_init_999 : decode b_M_init 999 = .ok (.bastore, 1) := dc_bastore (gt_M_init_9 99)
theorem d_M_init_1000 : decode b_M_init 1000 = .ok (.dup, 1) := dc_dup (gt_M_init_10 0)
theorem d_M_init_1001 : decode b_M_init 1001 = .ok (.bipush 92, 2) := dc_bipush (gt_M_init_10 1) (gt_M_init_10 2) rfl
theorem d_M_init_1003 : decode b_M_init 1003 = .ok (.bipush 99, 2) := dc_bipush (gt_M_init_10 3) (gt_M_init_10 4) rfl
theorem d_M_init_1005 : decode b_M_init 1005 = .ok (.bastore, 1) := dc_bastore (gt_M_init_10 5)
theorem d_M_init_1006 : decode b_M_init 1006 = .ok (.dup, 1) := dc_dup (gt_M_init_10 6)
theorem d_M_init_1007 : decode b_M_init 1007 = .ok (.bipush 93, 2) := dc_bipush (gt_M_init_10 7) (gt_M_init_10 8) rfl
theorem d_M_init_1009 : decode b_M_init 1009 = .ok (.bipush 116, 2) := dc_bipush (gt_M_init_10 9) (gt_M_init_10 10) rfl
theorem d_M_init_1011 : decode b_M_init 1011 = .ok (.bastore, 1) := dc_bastore (gt_M_init_10 11)
theorem d_M_init_1012 : decode b_M_init 1012 = .ok (.dup, 1) := dc_dup (gt_M_init_10 12)
theorem d_M_init_1013 : decode b_M_init 1013 = .ok (.bipush 94, 2) := dc_bipush (gt_M_init_10 13) (gt_M_init_10 14) rfl
theorem d_M_init_1015 : decode b_M_init 1015 = .ok (.bipush 105, 2) := dc_bipush (gt_M_init_10 15) (gt_M_init_10 16) rfl
theorem d_M_init_1017 : decode b_M_init 1017 = .ok (.bastore, 1) := dc_bastore (gt_M_init_10 17)
theorem d_M_init_1018 : decode b_M_init 1018 = .ok (.dup, 1) := dc_dup (gt_M_init_10 18)
theorem d_M_init_1019 : decode b_M_init 1019 = .ok (.bipush 95, 2) := dc_bipush (gt_M_init_10 19) (gt_M_init_10 20) rfl
theorem d_M_init_1021 : decode b_M_init 1021 = .ok (.bipush 111, 2) := dc_bipush (gt_M_init_10 21) (gt_M_init_10 22) rfl
theorem d_M_init_1023 : decode b_M_init 1023 = .ok (.bastore, 1) := dc_bastore (gt_M_init_10 23)
theorem d_M_init_1024 : decode b_M_init 1024 = .ok (.dup, 1) := dc_dup (gt_M_init_10 24)
theorem d_M_init_1025 : decode b_M_init 1025 = .ok (.bipush 96, 2) := dc_bipush (gt_M_init_10 25) (gt_M_init_10 26) rfl
theorem d_M_init_1027 : decode b_M_init 1027 = .ok (.bipush 110, 2) := dc_bipush (gt_M_init_10 27) (gt_M_init_10 28) rfl
theorem d_M_init_1029 : decode b_M_init 1029 = .ok (.bastore, 1) := dc_bastore (gt_M_init_10 29)
theorem d_M_init_1030 : decode b_M_init 1030 = .ok (.dup, 1) := dc_dup (gt_M_init_10 30)
theorem d_M_init_1031 : decode b_M_init 1031 = .ok (.bipush 97, 2) := dc_bipush (gt_M_init_10 31) (gt_M_init_10 32) rfl
theorem d_M_init_1033 : decode b_M_init 1033 = .ok (.bipush 95, 2) := dc_bipush (gt_M_init_10 33) (gt_M_init_10 34) rfl
theorem d_M_init_1035 : decode b_M_init 1035 = .ok (.bastore, 1) := dc_bastore (gt_M_init_10 35)
theorem d_M_init_1036 : decode b_M_init 1036 = .ok (.dup, 1) := dc_dup (gt_M_init_10 36)
theorem d_M_init_1037 : decode b_M_init 1037 = .ok (.bipush 98, 2) := dc_bipush (gt_M_init_10 37) (gt_M_init_10 38) rfl
theorem d_M_init_1039 : decode b_M_init 1039 = .ok (.bipush 99, 2) := dc_bipush (gt_M_init_10 39) (gt_M_init_10 40) rfl
theorem d_M_init_1041 : decode b_M_init 1041 = .ok (.bastore, 1) := dc_bastore (gt_M_init_10 41)
theorem d_M_init_1042 : decode b_M_init 1042 = .ok (.dup, 1) := dc_dup (gt_M_init_10 42)
theorem d_M_init_1043 : decode b_M_init 1043 = .ok (.bipush 99, 2) := dc_bipush (gt_M_init_10 43) (gt_M_init_10 44) rfl
theorem d_M_init_1045 : decode b_M_init 1045 = .ok (.bipush 108, 2) := dc_bipush (gt_M_init_10 45) (gt_M_init_10 46) rfl
theorem d_M_init_1047 : decode b_M_init 1047 = .ok (.bastore, 1) := dc_bastore (gt_M_init_10 47)
theorem d_M_init_1048 : decode b_M_init 1048 = .ok (.dup, 1) := dc_dup (gt_M_init_10 48)
theorem d_M_init_1049 : decode b_M_init 1049 = .ok (.bipush 100, 2) := dc_bipush (gt_M_init_10 49) (gt_M_init_10 50) rfl
theorem d_M_init_1051 : decode b_M_init 1051 = .ok (.bipush 97, 2) := dc_bipush (gt_M_init_10 51) (gt_M_init_10 52) rfl
theorem d_M_init_1053 : decode b_M_init 1053 = .ok (.bastore, 1) := dc_bastore (gt_M_init_10 53)
theorem d_M_init_1054 : decode b_M_init 1054 = .ok (.dup, 1) := dc_dup (gt_M_init_10 54)
theorem d_M_init_1055 : decode b_M_init 1055 = .ok (.bipush 101, 2) := dc_bipush (gt_M_init_10 55) (gt_M_init_10 56) rfl
theorem d_M_init_1057 : decode b_M_init 1057 = .ok (.bipush 117, 2) := dc_bipush (gt_M_init_10 57) (gt_M_init_10 58) rfl
theorem d_M_init_1059 : decode b_M_init 1059 = .ok (.bastore, 1) := dc_bastore (gt_M_init_10 59)
theorem d_M_init_1060 : decode b_M_init 1060 = .ok (.dup, 1) := dc_dup (gt_M_init_10 60)
theorem d_M_init_1061 : decode b_M_init 1061 = .ok (.bipush 102, 2) := dc_bipush (gt_M_init_10 61) (gt_M_init_10 62) rfl
theorem d_M_init_1063 : decode b_M_init 1063 = .ok (.bipush 115, 2) := dc_bipush (gt_M_init_10 63) (gt_M_init_10 64) rfl
theorem d_M_init_1065 : decode b_M_init 1065 = .ok (.bastore, 1) := dc_bastore (gt_M_init_10 65)
theorem d_M_init_1066 : decode b_M_init 1066 = .ok (.dup, 1) := dc_dup (gt_M_init_10 66)
theorem d_M_init_1067 : decode b_M_init 1067 = .ok (.bipush 103, 2) := dc_bipush (gt_M_init_10 67) (gt_M_init_10 68) rfl
theorem d_M_init_1069 : decode b_M_init 1069 = .ok (.bipush 101, 2) := dc_bipush (gt_M_init_10 69) (gt_M_init_10 70) rfl
theorem d_M_init_1071 : decode b_M_init 1071 = .ok (.bastore, 1) := dc_bastore (gt_M_init_10 71)
theorem d_M_init_1072 : decode b_M_init 1072 = .ok (.dup, 1) := dc_dup (gt_M_init_10 72)
theorem d_M_init_1073 : decode b_M_init 1073 = .ok (.bipush 104, 2) := dc_bipush (gt_M_init_10 73) (gt_M_init_10 74) rfl
theorem d_M_init_1075 : decode b_M_init 1075 = .ok (.bipush 11, 2) := dc_bipush (gt_M_init_10 75) (gt_M_init_10 76) rfl
theorem d_M_init_1077 : decode b_M_init 1077 = .ok (.bastore, 1) := dc_bastore (gt_M_init_10 77)
theorem d_M_init_1078 : decode b_M_init 1078 = .ok (.dup, 1) := dc_dup (gt_M_init_10 78)
theorem d_M_init_1079 : decode b_M_init 1079 = .ok (.bipush 105, 2) := dc_bipush (gt_M_init_10 79) (gt_M_init_10 80) rfl
theorem d_M_init_1081 : decode b_M_init 1081 = .ok (.bipush 99, 2) := dc_bipush (gt_M_init_10 81) (gt_M_init_10 82) rfl
theorem d_M_init_1083 : decode b_M_init 1083 = .ok (.bastore, 1) := dc_bastore (gt_M_init_10 83)
theorem d_M_init_1084 : decode b_M_init 1084 = .ok (.dup, 1) := dc_dup (gt_M_init_10 84)
theorem d_M_init_1085 : decode b_M_init 1085 = .ok (.bipush 106, 2) := dc_bipush (gt_M_init_10 85) (gt_M_init_10 86) rfl
theorem d_M_init_1087 : decode b_M_init 1087 = .ok (.bipush 97, 2) := dc_bipush (gt_M_init_10 87) (gt_M_init_10 88) rfl
theorem d_M_init_1089 : decode b_M_init 1089 = .ok (.bastore, 1) := dc_bastore (gt_M_init_10 89)
theorem d_M_init_1090 : decode b_M_init 1090 = .ok (.dup, 1) := dc_dup (gt_M_init_10 90)
theorem d_M_init_1091 : decode b_M_init 1091 = .ok (.bipush 107, 2) := dc_bipush (gt_M_init_10 91) (gt_M_init_10 92) rfl
theorem d_M_init_1093 : decode b_M_init 1093 = .ok (.bipush 115, 2) := dc_bipush (gt_M_init_10 93) (gt_M_init_10 94) rfl
theorem d_M_init_1095 : decode b_M_init 1095 = .ok (.bastore, 1) := dc_bastore (gt_M_init_10 95)
theorem d_M_init_1096 : decode b_M_init 1096 = .ok (.dup, 1) := dc_dup (gt_M_init_10 96)
theorem d_M_init_1097 : decode b_M_init 1097 = .ok (.bipush 108, 2) := dc_bipush (gt_M_init_10 97) (gt_M_init_10 98) rfl
theorem d_M_init_1099 : decode b_M_init 1099 = .ok (.bipush 101, 2) := dc_bipush (gt_M_init_10 99) (gt_M_init_11 0) rfl
theorem d_M_init_1101 : decode b_M_init 1101 = .ok (.bastore, 1) := dc_bastore (gt_M_init_11 1)
theorem d_M_init_1102 : decode b_M_init 1102 = .ok (.dup, 1) := dc_dup (gt_M_init_11 2)
theorem d_M_init_1103 : decode b_M_init 1103 = .ok (.bipush 109, 2) := dc_bipush (gt_M_init_11 3) (gt_M_init_11 4) rfl
theorem d_M_init_1105 : decode b_M_init 1105 = .ok (.bipush 95, 2) := dc_bipush (gt_M_init_11 5) (gt_M_init_11 6) rfl
theorem d_M_init_1107 : decode b_M_init 1107 = .ok (.bastore, 1) := dc_bastore (gt_M_init_11 7)
theorem d_M_init_1108 : decode b_M_init 1108 = .ok (.dup, 1) := dc_dup (gt_M_init_11 8)
theorem d_M_init_1109 : decode b_M_init 1109 = .ok (.bipush 110, 2) := dc_bipush (gt_M_init_11 9) (gt_M_init_11 10) rfl
theorem d_M_init_1111 : decode b_M_init 1111 = .ok (.bipush 99, 2) := dc_bipush (gt_M_init_11 11) (gt_M_init_11 12) rfl
theorem d_M_init_1113 : decode b_M_init 1113 = .ok (.bastore, 1) := dc_bastore (gt_M_init_11 13)
theorem d_M_init_1114 : decode b_M_init 1114 = .ok (.dup, 1) := dc_dup (gt_M_init_11 14)
theorem d_M_init_1115 : decode b_M_init 1115 = .ok (.bipush 111, 2) := dc_bipush (gt_M_init_11 15) (gt_M_init_11 16) rfl
theorem d_M_init_1117 : decode b_M_init 1117 = .ok (.bipush 108, 2) := dc_bipush (gt_M_init_11 17) (gt_M_init_11 18) rfl
theorem d_M_init_1119 : decode b_M_init 1119 = .ok (.bastore, 1) := dc_bastore (gt_M_init_11 19)
theorem d_M_init_1120 : decode b_M_init 1120 = .ok (.dup, 1) := dc_dup (gt_M_init_11 20)
theorem d_M_init_1121 : decode b_M_init 1121 = .ok (.bipush 112, 2) := dc_bipush (gt_M_init_11 21) (gt_M_init_11 22) rfl
theorem d_M_init_1123 : decode b_M_init 1123 = .ok (.bipush 97, 2) := dc_bipush (gt_M_init_11 23) (gt_M_init_11 24) rfl
theorem d_M_init_1125 : decode b_M_init 1125 = .ok (.bastore, 1) := dc_bastore (gt_M_init_11 25)
theorem d_M_init_1126 : decode b_M_init 1126 = .ok (.dup, 1) := dc_dup (gt_M_init_11 26)
theorem d_M_init_1127 : decode b_M_init 1127 = .ok (.bipush 113, 2) := dc_bipush (gt_M_init_11 27) (gt_M_init_11 28) rfl
theorem d_M_init_1129 : decode b_M_init 1129 = .ok (.bipush 117, 2) := dc_bipush (gt_M_init_11 29) (gt_M_init_11 30) rfl
theorem d_M_init_1131 : decode b_M_init 1131 = .ok (.bastore, 1) := dc_bastore (gt_M_init_11 31)
theorem d_M_init_1132 : decode b_M_init 1132 = .ok (.dup, 1) := dc_dup (gt_M_init_11 32)
theorem d_M_init_1133 : decode b_M_init 1133 = .ok (.bipush 114, 2) := dc_bipush (gt_M_init_11 33) (gt_M_init_11 34) rfl
theorem d_M_init_1135 : decode b_M_init 1135 = .ok (.bipush 115, 2) := dc_bipush (gt_M_init_11 35) (gt_M_init_11 36) rfl
theorem d_M_init_1137 : decode b_M_init 1137 = .ok (.bastore, 1) := dc_bastore (gt_M_init_11 37)
theorem d_M_init_1138 : decode b_M_init 1138 = .ok (.dup, 1) := dc_dup (gt_M_init_11 38)
theorem d_M_init_1139 : decode b_M_init 1139 = .ok (.bipush 115, 2) := dc_bipush (gt_M_init_11 39) (gt_M_init_11 40) rfl
theorem d_M_init_1141 : decode b_M_init 1141 = .ok (.bipush 101, 2) := dc_bipush (gt_M_init_11 41) (gt_M_init_11 42) rfl
theorem d_M_init_1143 : decode b_M_init 1143 = .ok (.bastore, 1) := dc_bastore (gt_M_init_11 43)
theorem d_M_init_1144 : decode b_M_init 1144 = .ok (.dup, 1) := dc_dup (gt_M_init_11 44)
theorem d_M_init_1145 : decode b_M_init 1145 = .ok (.bipush 116, 2) := dc_bipush (gt_M_init_11 45) (gt_M_init_11 46) rfl
theorem d_M_init_1147 : decode b_M_init 1147 = .ok (.bipush 9, 2) := dc_bipush (gt_M_init_11 47) (gt_M_init_11 48) rfl
theorem d_M_init_1149 : decode b_M_init 1149 = .ok (.bastore, 1) := dc_bastore (gt_M_init_11 49)
theorem d_M_init_1150 : decode b_M_init 1150 = .ok (.dup, 1) := dc_dup (gt_M_init_11 50)
theorem d_M_init_1151 : decode b_M_init 1151 = .ok (.bipush 117, 2) := dc_bipush (gt_M_init_11 51) (gt_M_init_11 52) rfl
theorem d_M_init_1153 : decode b_M_init 1153 = .ok (.bipush 105, 2) := dc_bipush (gt_M_init_11 53) (gt_M_init_11 54) rfl
theorem d_M_init_1155 : decode b_M_init 1155 = .ok (.bastore, 1) := dc_bastore (gt_M_init_11 55)
theorem d_M_init_1156 : decode b_M_init 1156 = .ok (.dup, 1) := dc_dup (gt_M_init_11 56)
theorem d_M_init_1157 : decode b_M_init 1157 = .ok (.bipush 118, 2) := dc_bipush (gt_M_init_11 57) (gt_M_init_11 58) rfl
theorem d_M_init_1159 : decode b_M_init 1159 = .ok (.bipush 102, 2) := dc_bipush (gt_M_init_11 59) (gt_M_init_11 60) rfl
theorem d_M_init_1161 : decode b_M_init 1161 = .ok (.bastore, 1) := dc_bastore (gt_M_init_11 61)
theorem d_M_init_1162 : decode b_M_init 1162 = .ok (.dup, 1) := dc_dup (gt_M_init_11 62)
theorem d_M_init_1163 : decode b_M_init 1163 = .ok (.bipush 119, 2) := dc_bipush (gt_M_init_11 63) (gt_M_init_11 64) rfl
theorem d_M_init_1165 : decode b_M_init 1165 = .ok (.bipush 95, 2) := dc_bipush (gt_M_init_11 65) (gt_M_init_11 66) rfl
theorem d_M_init_1167 : decode b_M_init 1167 = .ok (.bastore, 1) := dc_bastore (gt_M_init_11 67)
theorem d_M_init_1168 : decode b_M_init 1168 = .ok (.dup, 1) := dc_dup (gt_M_init_11 68)
theorem d_M_init_1169 : decode b_M_init 1169 = .ok (.bipush 120, 2) := dc_bipush (gt_M_init_11 69) (gt_M_init_11 70) rfl
theorem d_M_init_1171 : decode b_M_init 1171 = .ok (.bipush 99, 2) := dc_bipush (gt_M_init_11 71) (gt_M_init_11 72) rfl
theorem d_M_init_1173 : decode b_M_init 1173 = .ok (.bastore, 1) := dc_bastore (gt_M_init_11 73)
theorem d_M_init_1174 : decode b_M_init 1174 = .ok (.dup, 1) := dc_dup (gt_M_init_11 74)
theorem d_M_init_1175 : decode b_M_init 1175 = .ok (.bipush 121, 2) := dc_bipush (gt_M_init_11 75) (gt_M_init_11 76) rfl
theorem d_M_init_1177 : decode b_M_init 1177 = .ok (.bipush 108, 2) := dc_bipush (gt_M_init_11 77) (gt_M_init_11 78) rfl
theorem d_M_init_1179 : decode b_M_init 1179 = .ok (.bastore, 1) := dc_bastore (gt_M_init_11 79)
theorem d_M_init_1180 : decode b_M_init 1180 = .ok (.dup, 1) := dc_dup (gt_M_init_11 80)
theorem d_M_init_1181 : decode b_M_init 1181 = .ok (.bipush 122, 2) := dc_bipush (gt_M_init_11 81) (gt_M_init_11 82) rfl
theorem d_M_init_1183 : decode b_M_init 1183 = .ok (.bipush 97, 2) := dc_bipush (gt_M_init_11 83) (gt_M_init_11 84) rfl
theorem d_M_init_1185 : decode b_M_init 1185 = .ok (.bastore, 1) := dc_bastore (gt_M_init_11 85)
theorem d_M_init_1186 : decode b_M_init 1186 = .ok (.dup, 1) := dc_dup (gt_M_init_11 86)
theorem d_M_init_1187 : decode b_M_init 1187 = .ok (.bipush 123, 2) := dc_bipush (gt_M_init_11 87) (gt_M_init_11 88) rfl
theorem d_M_init_1189 : decode b_M_init 1189 = .ok (.bipush 117, 2) := dc_bipush (gt_M_init_11 89) (gt_M_init_11 90) rfl
theorem d_M_init_1191 : decode b_M_init 1191 = .ok (.bastore, 1) := dc_bastore (gt_M_init_11 91)
theorem d_M_init_1192 : decode b_M_init 1192 = .ok (.dup, 1) := dc_dup (gt_M_init_11 92)
theorem d_M_init_1193 : decode b_M_init 1193 = .ok (.bipush 124, 2) := dc_bipush (gt_M_init_11 93) (gt_M_init_11 94) rfl
theorem d_M_init_1195 : decode b_M_init 1195 = .ok (.bipush 115, 2) := dc_bipush (gt_M_init_11 95) (gt_M_init_11 96) rfl
theorem d_M_init_1197 : decode b_M_init 1197 = .ok (.bastore, 1) := dc_bastore (gt_M_init_11 97)
theorem d_M_init_1198 : decode b_M_init 1198 = .ok (.dup, 1) := dc_dup (gt_M_init_11 98)
theorem d_M_init_1199 : decode b_M_init 1199 = .ok (.bipush 125, 2) := dc_bipush (gt_M_init_11 99) (gt_M_init_12 0) rfl
theorem d_M_init_1201 : decode b_M_init 1201 = .ok (.bipush 101, 2) := dc_bipush (gt_M_init_12 1) (gt_M_init_12 2) rfl
theorem d_M_init_1203 : decode b_M_init 1203 = .ok (.bastore, 1) := dc_bastore (gt_M_init_12 3)
theorem d_M_init_1204 : decode b_M_init 1204 = .ok (.dup, 1) := dc_dup (gt_M_init_12 4)
theorem d_M_init_1205 : decode b_M_init 1205 = .ok (.bipush 126, 2) := dc_bipush (gt_M_init_12 5) (gt_M_init_12 6) rfl
theorem d_M_init_1207 : decode b_M_init 1207 = .ok (.bipush 6, 2) := dc_bipush (gt_M_init_12 7) (gt_M_init_12 8) rfl
theorem d_M_init_1209 : decode b_M_init 1209 = .ok (.bastore, 1) := dc_bastore (gt_M_init_12 9)
theorem d_M_init_1210 : decode b_M_init 1210 = .ok (.dup, 1) := dc_dup (gt_M_init_12 10)
theorem d_M_init_1211 : decode b_M_init 1211 = .ok (.bipush 127, 2) := dc_bipush (gt_M_init_12 11) (gt_M_init_12 12) rfl
theorem d_M_init_1213 : decode b_M_init 1213 = .ok (.bipush 98, 2) := dc_bipush (gt_M_init_12 13) (gt_M_init_12 14) rfl
theorem d_M_init_1215 : decode b_M_init 1215 = .ok (.bastore, 1) := dc_bastore (gt_M_init_12 15)
theorem d_M_init_1216 : decode b_M_init 1216 = .ok (.dup, 1) := dc_dup (gt_M_init_12 16)
theorem d_M_init_1217 : decode b_M_init 1217 = .ok (.sipush 128, 3) := dc_sipush (gt_M_init_12 17) (gt_M_init_12 18) (gt_M_init_12 19) (by decide)
theorem d_M_init_1220 : decode b_M_init 1220 = .ok (.bipush 97, 2) := dc_bipush (gt_M_init_12 20) (gt_M_init_12 21) rfl
theorem d_M_init_1222 : decode b_M_init 1222 = .ok (.bastore, 1) := dc_bastore (gt_M_init_12 22)
theorem d_M_init_1223 : decode b_M_init 1223 = .ok (.dup, 1) := dc_dup (gt_M_init_12 23)
theorem d_M_init_1224 : decode b_M_init 1224 = .ok (.sipush 129, 3) := dc_sipush (gt_M_init_12 24) (gt_M_init_12 25) (gt_M_init_12 26) (by decide)
theorem d_M_init_1227 : decode b_M_init 1227 = .ok (.bipush 100, 2) := dc_bipush (gt_M_init_12 27) (gt_M_init_12 28) rfl
theorem d_M_init_1229 : decode b_M_init 1229 = .ok (.bastore, 1) := dc_bastore (gt_M_init_12 29)
theorem d_M_init_1230 : decode b_M_init 1230 = .ok (.dup, 1) := dc_dup (gt_M_init_12 30)
theorem d_M_init_1231 : decode b_M_init 1231 = .ok (.sipush 130, 3) := dc_sipush (gt_M_init_12 31) (gt_M_init_12 32) (gt_M_init_12 33) (by decide)
theorem d_M_init_1234 : decode b_M_init 1234 = .ok (.bipush 102, 2) := dc_bipush (gt_M_init_12 34) (gt_M_init_12 35) rfl
theorem d_M_init_1236 : decode b_M_init 1236 = .ok (.bastore, 1) := dc_bastore (gt_M_init_12 36)
theorem d_M_init_1237 : decode b_M_init 1237 = .ok (.dup, 1) := dc_dup (gt_M_init_12 37)
theorem d_M_init_1238 : decode b_M_init 1238 = .ok (.sipush 131, 3) := dc_sipush (gt_M_init_12 38) (gt_M_init_12 39) (gt_M_init_12 40) (by decide)
theorem d_M_init_1241 : decode b_M_init 1241 = .ok (.bipush 117, 2) := dc_bipush (gt_M_init_12 41) (gt_M_init_12 42) rfl
theorem d_M_init_1243 : decode b_M_init 1243 = .ok (.bastore, 1) := dc_bastore (gt_M_init_12 43)
theorem d_M_init_1244 : decode b_M_init 1244 = .ok (.dup, 1) := dc_dup (gt_M_init_12 44)
theorem d_M_init_1245 : decode b_M_init 1245 = .ok (.sipush 132, 3) := dc_sipush (gt_M_init_12 45) (gt_M_init_12 46) (gt_M_init_12 47) (by decide)
theorem d_M_init_1248 : decode b_M_init 1248 = .ok (.bipush 110, 2) := dc_bipush (gt_M_init_12 48) (gt_M_init_12 49) rfl
theorem d_M_init_1250 : decode b_M_init 1250 = .ok (.bastore, 1) := dc_bastore (gt_M_init_12 50)
theorem d_M_init_1251 : decode b_M_init 1251 = .ok (.dup, 1) := dc_dup (gt_M_init_12 51)
theorem d_M_init_1252 : decode b_M_init 1252 = .ok (.sipush 133, 3) := dc_sipush (gt_M_init_12 52) (gt_M_init_12 53) (gt_M_init_12 54) (by decide)
theorem d_M_init_1255 : decode b_M_init 1255 = .ok (.bipush 8, 2) := dc_bipush (gt_M_init_12 55) (gt_M_init_12 56) rfl
theorem d_M_init_1257 : decode b_M_init 1257 = .ok (.bastore, 1) := dc_bastore (gt_M_init_12 57)
theorem d_M_init_1258 : decode b_M_init 1258 = .ok (.dup, 1) := dc_dup (gt_M_init_12 58)
theorem d_M_init_1259 : decode b_M_init 1259 = .ok (.sipush 134, 3) := dc_sipush (gt_M_init_12 59) (gt_M_init_12 60) (gt_M_init_12 61) (by decide)
theorem d_M_init_1262 : decode b_M_init 1262 = .ok (.bipush 98, 2) := dc_bipush (gt_M_init_12 62) (gt_M_init_12 63) rfl
theorem d_M_init_1264 : decode b_M_init 1264 = .ok (.bastore, 1) := dc_bastore (gt_M_init_12 64)
theorem d_M_init_1265 : decode b_M_init 1265 = .ok (.dup, 1) := dc_dup (gt_M_init_12 65)
theorem d_M_init_1266 : decode b_M_init 1266 = .ok (.sipush 135, 3) := dc_sipush (gt_M_init_12 66) (gt_M_init_12 67) (gt_M_init_12 68) (by decide)
theorem d_M_init_1269 : decode b_M_init 1269 = .ok (.bipush 97, 2) := dc_bipush (gt_M_init_12 69) (gt_M_init_12 70) rfl
theorem d_M_init_1271 : decode b_M_init 1271 = .ok (.bastore, 1) := dc_bastore (gt_M_init_12 71)
theorem d_M_init_1272 : decode b_M_init 1272 = .ok (.dup, 1) := dc_dup (gt_M_init_12 72)
theorem d_M_init_1273 : decode b_M_init 1273 = .ok (.sipush 136, 3) := dc_sipush (gt_M_init_12 73) (gt_M_init_12 74) (gt_M_init_12 75) (by decide)
theorem d_M_init_1276 : decode b_M_init 1276 = .ok (.bipush 100, 2) := dc_bipush (gt_M_init_12 76) (gt_M_init_12 77) rfl
theorem d_M_init_1278 : decode b_M_init 1278 = .ok (.bastore, 1) := dc_bastore (gt_M_init_12 78)
theorem d_M_init_1279 : decode b_M_init 1279 = .ok (.dup, 1) := dc_dup (gt_M_init_12 79)
theorem d_M_init_1280 : decode b_M_init 1280 = .ok (.sipush 137, 3) := dc_sipush (gt_M_init_12 80) (gt_M_init_12 81) (gt_M_init_12 82) (by decide)
theorem d_M_init_1283 : decode b_M_init 1283 = .ok (.bipush 97, 2) := dc_bipush (gt_M_init_12 83) (gt_M_init_12 84) rfl
theorem d_M_init_1285 : decode b_M_init 1285 = .ok (.bastore, 1) := dc_bastore (gt_M_init_12 85)
theorem d_M_init_1286 : decode b_M_init 1286 = .ok (.dup, 1) := dc_dup (gt_M_init_12 86)
theorem d_M_init_1287 : decode b_M_init 1287 = .ok (.sipush 138, 3) := dc_sipush (gt_M_init_12 87) (gt_M_init_12 88) (gt_M_init_12 89) (by decide)
theorem d_M_init_1290 : decode b_M_init 1290 = .ok (.bipush 114, 2) := dc_bipush (gt_M_init_12 90) (gt_M_init_12 91) rfl
theorem d_M_init_1292 : decode b_M_init 1292 = .ok (.bastore, 1) := dc_bastore (gt_M_init_12 92)
theorem d_M_init_1293 : decode b_M_init 1293 = .ok (.dup, 1) := dc_dup (gt_M_init_12 93)
theorem d_M_init_1294 : decode b_M_init 1294 = .ok (.sipush 139, 3) := dc_sipush (gt_M_init_12 94) (gt_M_init_12 95) (gt_M_init_12 96) (by decide)
theorem d_M_init_1297 : decode b_M_init 1297 = .ok (.bipush 105, 2) := dc_bipush (gt_M_init_12 97) (gt_M_init_12 98) rfl
theorem d_M_init_1299 : decode b_M_init 1299 = .ok (.bastore, 1) := dc_bastore (gt_M_init_12 99)
theorem d_M_init_1300 : decode b_M_init 1300 = .ok (.dup, 1) := dc_dup (gt_M_init_13 0)
theorem d_M_init_1301 : decode b_M_init 1301 = .ok (.sipush 140, 3) := dc_sipush (gt_M_init_13 1) (gt_M_init_13 2) (gt_M_init_13 3) (by decide)
theorem d_M_init_1304 : decode b_M_init 1304 = .ok (.bipush 116, 2) := dc_bipush (gt_M_init_13 4) (gt_M_init_13 5) rfl
theorem d_M_init_1306 : decode b_M_init 1306 = .ok (.bastore, 1) := dc_bastore (gt_M_init_13 6)
theorem d_M_init_1307 : decode b_M_init 1307 = .ok (.dup, 1) := dc_dup (gt_M_init_13 7)
theorem d_M_init_1308 : decode b_M_init 1308 = .ok (.sipush 141, 3) := dc_sipush (gt_M_init_13 8) (gt_M_init_13 9) (gt_M_init_13 10) (by decide)
theorem d_M_init_1311 : decode b_M_init 1311 = .ok (.bipush 121, 2) := dc_bipush (gt_M_init_13 11) (gt_M_init_13 12) rfl
theorem d_M_init_1313 : decode b_M_init 1313 = .ok (.bastore, 1) := dc_bastore (gt_M_init_13 13)
theorem d_M_init_1314 : decode b_M_init 1314 = .ok (.dup, 1) := dc_dup (gt_M_init_13 14)
theorem d_M_init_1315 : decode b_M_init 1315 = .ok (.sipush 142, 3) := dc_sipush (gt_M_init_13 15) (gt_M_init_13 16) (gt_M_init_13 17) (by decide)
theorem d_M_init_1318 : decode b_M_init 1318 = .ok (.bipush 7, 2) := dc_bipush (gt_M_init_13 18) (gt_M_init_13 19) rfl
theorem d_M_init_1320 : decode b_M_init 1320 = .ok (.bastore, 1) := dc_bastore (gt_M_init_13 20)
theorem d_M_init_1321 : decode b_M_init 1321 = .ok (.dup, 1) := dc_dup (gt_M_init_13 21)
theorem d_M_init_1322 : decode b_M_init 1322 = .ok (.sipush 143, 3) := dc_sipush (gt_M_init_13 22) (gt_M_init_13 23) (gt_M_init_13 24) (by decide)
theorem d_M_init_1325 : decode b_M_init 1325 = .ok (.bipush 110, 2) := dc_bipush (gt_M_init_13 25) (gt_M_init_13 26) rfl
theorem d_M_init_1327 : decode b_M_init 1327 = .ok (.bastore, 1) := dc_bastore (gt_M_init_13 27)
theorem d_M_init_1328 : decode b_M_init 1328 = .ok (.dup, 1) := dc_dup (gt_M_init_13 28)
theorem d_M_init_1329 : decode b_M_init 1329 = .ok (.sipush 144, 3) := dc_sipush (gt_M_init_13 29) (gt_M_init_13 30) (gt_M_init_13 31) (by decide)
theorem d_M_init_1332 : decode b_M_init 1332 = .ok (.bipush 111, 2) := dc_bipush (gt_M_init_13 32) (gt_M_init_13 33) rfl
theorem d_M_init_1334 : decode b_M_init 1334 = .ok (.bastore, 1) := dc_bastore (gt_M_init_13 34)
theorem d_M_init_1335 : decode b_M_init 1335 = .ok (.dup, 1) := dc_dup (gt_M_init_13 35)
theorem d_M_init_1336 : decode b_M_init 1336 = .ok (.sipush 145, 3) := dc_sipush (gt_M_init_13 36) (gt_M_init_13 37) (gt_M_init_13 38) (by decide)
theorem d_M_init_1339 : decode b_M_init 1339 = .ok (.bipush 99, 2) := dc_bipush (gt_M_init_13 39) (gt_M_init_13 40) rfl
theorem d_M_init_1341 : decode b_M_init 1341 = .ok (.bastore, 1) := dc_bastore (gt_M_init_13 41)
theorem d_M_init_1342 : decode b_M_init 1342 = .ok (.dup, 1) := dc_dup (gt_M_init_13 42)
theorem d_M_init_1343 : decode b_M_init 1343 = .ok (.sipush 146, 3) := dc_sipush (gt_M_init_13 43) (gt_M_init_13 44) (gt_M_init_13 45) (by decide)
theorem d_M_init_1346 : decode b_M_init 1346 = .ok (.bipush 97, 2) := dc_bipush (gt_M_init_13 46) (gt_M_init_13 47) rfl
theorem d_M_init_1348 : decode b_M_init 1348 = .ok (.bastore, 1) := dc_bastore (gt_M_init_13 48)
theorem d_M_init_1349 : decode b_M_init 1349 = .ok (.dup, 1) := dc_dup (gt_M_init_13 49)
theorem d_M_init_1350 : decode b_M_init 1350 = .ok (.sipush 147, 3) := dc_sipush (gt_M_init_13 50) (gt_M_init_13 51) (gt_M_init_13 52) (by decide)
theorem d_M_init_1353 : decode b_M_init 1353 = .ok (.bipush 116, 2) := dc_bipush (gt_M_init_13 53) (gt_M_init_13 54) rfl
theorem d_M_init_1355 : decode b_M_init 1355 = .ok (.bastore, 1) := dc_bastore (gt_M_init_13 55)
theorem d_M_init_1356 : decode b_M_init 1356 = .ok (.dup, 1) := dc_dup (gt_M_init_13 56)
theorem d_M_init_1357 : decode b_M_init 1357 = .ok (.sipush 148, 3) := dc_sipush (gt_M_init_13 57) (gt_M_init_13 58) (gt_M_init_13 59) (by decide)
theorem d_M_init_1360 : decode b_M_init 1360 = .ok (.bipush 99, 2) := dc_bipush (gt_M_init_13 60) (gt_M_init_13 61) rfl
theorem d_M_init_1362 : decode b_M_init 1362 = .ok (.bastore, 1) := dc_bastore (gt_M_init_13 62)
theorem d_M_init_1363 : decode b_M_init 1363 = .ok (.dup, 1) := dc_dup (gt_M_init_13 63)
theorem d_M_init_1364 : decode b_M_init 1364 = .ok (.sipush 149, 3) := dc_sipush (gt_M_init_13 64) (gt_M_init_13 65) (gt_M_init_13 66) (by decide)
theorem d_M_init_1367 : decode b_M_init 1367 = .ok (.bipush 104, 2) := dc_bipush (gt_M_init_13 67) (gt_M_init_13 68) rfl
theorem d_M_init_1369 : decode b_M_init 1369 = .ok (.bastore, 1) := dc_bastore (gt_M_init_13 69)
theorem d_M_init_1370 : decode b_M_init 1370 = .ok (.dup, 1) := dc_dup (gt_M_init_13 70)
theorem d_M_init_1371 : decode b_M_init 1371 = .ok (.sipush 150, 3) := dc_sipush (gt_M_init_13 71) (gt_M_init_13 72) (gt_M_init_13 73) (by decide)
theorem d_M_init_1374 : decode b_M_init 1374 = .ok (.iconst 4, 1) := dc_iconst_4 (gt_M_init_13 74)
theorem d_M_init_1375 : decode b_M_init 1375 = .ok (.bastore, 1) := dc_bastore (gt_M_init_13 75)
theorem d_M_init_1376 : decode b_M_init 1376 = .ok (.dup, 1) := dc_dup (gt_M_init_13 76)
theorem d_M_init_1377 : decode b_M_init 1377 = .ok (.sipush 151, 3) := dc_sipush (gt_M_init_13 77) (gt_M_init_13 78) (gt_M_init_13 79) (by decide)
theorem d_M_init_1380 : decode b_M_init 1380 = .ok (.bipush 104, 2) := dc_bipush (gt_M_init_13 80) (gt_M_init_13 81) rfl
theorem d_M_init_1382 : decode b_M_init 1382 = .ok (.bastore, 1) := dc_bastore (gt_M_init_13 82)
theorem d_M_init_1383 : decode b_M_init 1383 = .ok (.dup, 1) := dc_dup (gt_M_init_13 83)
theorem d_M_init_1384 : decode b_M_init 1384 = .ok (.sipush 152, 3) := dc_sipush (gt_M_init_13 84) (gt_M_init_13 85) (gt_M_init_13 86) (by decide)
theorem d_M_init_1387 : decode b_M_init 1387 = .ok (.bipush 101, 2) := dc_bipush (gt_M_init_13 87) (gt_M_init_13 88) rfl
theorem d_M_init_1389 : decode b_M_init 1389 = .ok (.bastore, 1) := dc_bastore (gt_M_init_13 89)
theorem d_M_init_1390 : decode b_M_init 1390 = .ok (.dup, 1) := dc_dup (gt_M_init_13 90)
theorem d_M_init_1391 : decode b_M_init 1391 = .ok (.sipush 153, 3) := dc_sipush (gt_M_init_13 91) (gt_M_init_13 92) (gt_M_init_13 93) (by decide)
theorem d_M_init_1394 : decode b_M_init 1394 = .ok (.bipush 97, 2) := dc_bipush (gt_M_init_13 94) (gt_M_init_13 95) rfl
theorem d_M_init_1396 : decode b_M_init 1396 = .ok (.bastore, 1) := dc_bastore (gt_M_init_13 96)
theorem d_M_init_1397 : decode b_M_init 1397 = .ok (.dup, 1) := dc_dup (gt_M_init_13 97)
theorem d_M_init_1398 : decode b_M_init 1398 = .ok (.sipush 154, 3) := dc_sipush (gt_M_init_13 98) (gt_M_init_13 99) (gt_M_init_14 0) (by decide)
theorem d_M_init_1401 : decode b_M_init 1401 = .ok (.bipush 112, 2) := dc_bipush (gt_M_init_14 1) (gt_M_init_14 2) rfl
theorem d_M_init_1403 : decode b_M_init 1403 = .ok (.bastore, 1) := dc_bastore (gt_M_init_14 3)
theorem d_M_init_1404 : decode b_M_init 1404 = .ok (.dup, 1) := dc_dup (gt_M_init_14 4)
theorem d_M_init_1405 : decode b_M_init 1405 = .ok (.sipush 155, 3) := dc_sipush (gt_M_init_14 5) (gt_M_init_14 6) (gt_M_init_14 7) (by decide)
theorem d_M_init_1408 : decode b_M_init 1408 = .ok (.iconst 5, 1) := dc_iconst_5 (gt_M_init_14 8)
theorem d_M_init_1409 : decode b_M_init 1409 = .ok (.bastore, 1) := dc_bastore (gt_M_init_14 9)
theorem d_M_init_1410 : decode b_M_init 1410 = .ok (.dup, 1) := dc_dup (gt_M_init_14 10)
theorem d_M_init_1411 : decode b_M_init 1411 = .ok (.sipush 156, 3) := dc_sipush (gt_M_init_14 11) (gt_M_init_14 12) (gt_M_init_14 13) (by decide)
theorem d_M_init_1414 : decode b_M_init 1414 = .ok (.bipush 115, 2) := dc_bipush (gt_M_init_14 14) (gt_M_init_14 15) rfl
theorem d_M_init_1416 : decode b_M_init 1416 = .ok (.bastore, 1) := dc_bastore (gt_M_init_14 16)
theorem d_M_init_1417 : decode b_M_init 1417 = .ok (.dup, 1) := dc_dup (gt_M_init_14 17)
theorem d_M_init_1418 : decode b_M_init 1418 = .ok (.sipush 157, 3) := dc_sipush (gt_M_init_14 18) (gt_M_init_14 19) (gt_M_init_14 20) (by decide)
theorem d_M_init_1421 : decode b_M_init 1421 = .ok (.bipush 116, 2) := dc_bipush (gt_M_init_14 21) (gt_M_init_14 22) rfl
theorem d_M_init_1423 : decode b_M_init 1423 = .ok (.bastore, 1) := dc_bastore (gt_M_init_14 23)
theorem d_M_init_1424 : decode b_M_init 1424 = .ok (.dup, 1) := dc_dup (gt_M_init_14 24)
theorem d_M_init_1425 : decode b_M_init 1425 = .ok (.sipush 158, 3) := dc_sipush (gt_M_init_14 25) (gt_M_init_14 26) (gt_M_init_14 27) (by decide)
theorem d_M_init_1428 : decode b_M_init 1428 = .ok (.bipush 97, 2) := dc_bipush (gt_M_init_14 28) (gt_M_init_14 29) rfl
theorem d_M_init_1430 : decode b_M_init 1430 = .ok (.bastore, 1) := dc_bastore (gt_M_init_14 30)
theorem d_M_init_1431 : decode b_M_init 1431 = .ok (.dup, 1) := dc_dup (gt_M_init_14 31)
theorem d_M_init_1432 : decode b_M_init 1432 = .ok (.sipush 159, 3) := dc_sipush (gt_M_init_14 32) (gt_M_init_14 33) (gt_M_init_14 34) (by decide)
theorem d_M_init_1435 : decode b_M_init 1435 = .ok (.bipush 99, 2) := dc_bipush (gt_M_init_14 35) (gt_M_init_14 36) rfl
theorem d_M_init_1437 : decode b_M_init 1437 = .ok (.bastore, 1) := dc_bastore (gt_M_init_14 37)
theorem d_M_init_1438 : decode b_M_init 1438 = .ok (.dup, 1) := dc_dup (gt_M_init_14 38)
theorem d_M_init_1439 : decode b_M_init 1439 = .ok (.sipush 160, 3) := dc_sipush (gt_M_init_14 39) (gt_M_init_14 40) (gt_M_init_14 41) (by decide)
theorem d_M_init_1442 : decode b_M_init 1442 = .ok (.bipush 107, 2) := dc_bipush (gt_M_init_14 42) (gt_M_init_14 43) rfl
theorem d_M_init_1444 : decode b_M_init 1444 = .ok (.bastore, 1) := dc_bastore (gt_M_init_14 44)
theorem d_M_init_1445 : decode b_M_init 1445 = .ok (.putfield 13, 3) := dc_putfield (gt_M_init_14 45) (gt_M_init_14 46) (gt_M_init_14 47) rfl
theorem d_M_init_1448 : decode b_M_init 1448 = .ok (.aload_n 0, 1) := dc_aload0 (gt_M_init_14 48)
theorem d_M_init_1449 : decode b_M_init 1449 = .ok (.sipush 218, 3) := dc_sipush (gt_M_init_14 49) (gt_M_init_14 50) (gt_M_init_14 51) (by decide)
theorem d_M_init_1452 : decode b_M_init 1452 = .ok (.newarray .byte, 2) := dc_newarray (gt_M_init_14 52) (gt_M_init_14 53) (fun _ => rfl)
theorem d_M_init_1454 : decode b_M_init 1454 = .ok (.dup, 1) := dc_dup (gt_M_init_14 54)
theorem d_M_init_1455 : decode b_M_init 1455 = .ok (.iconst 0, 1) := dc_iconst_0 (gt_M_init_14 55)
theorem d_M_init_1456 : decode b_M_init 1456 = .ok (.iconst 0, 1) := dc_iconst_0 (gt_M_init_14 56)
theorem d_M_init_1457 : decode b_M_init 1457 = .ok (.bastore, 1) := dc_bastore (gt_M_init_14 57)
theorem d_M_init_1458 : decode b_M_init 1458 = .ok (.dup, 1) := dc_dup (gt_M_init_14 58)
theorem d_M_init_1459 : decode b_M_init 1459 = .ok (.iconst 1, 1) := dc_iconst_1 (gt_M_init_14 59)
theorem d_M_init_1460 : decode b_M_init 1460 = .ok (.iconst 4, 1) := dc_iconst_4 (gt_M_init_14 60)
theorem d_M_init_1461 : decode b_M_init 1461 = .ok (.bastore, 1) := dc_bastore (gt_M_init_14 61)
theorem d_M_init_1462 : decode b_M_init 1462 = .ok (.dup, 1) := dc_dup (gt_M_init_14 62)
theorem d_M_init_1463 : decode b_M_init 1463 = .ok (.iconst 2, 1) := dc_iconst_2 (gt_M_init_14 63)
theorem d_M_init_1464 : decode b_M_init 1464 = .ok (.bipush 115, 2) := dc_bipush (gt_M_init_14 64) (gt_M_init_14 65) rfl
theorem d_M_init_1466 : decode b_M_init 1466 = .ok (.bastore, 1) := dc_bastore (gt_M_init_14 66)
theorem d_M_init_1467 : decode b_M_init 1467 = .ok (.dup, 1) := dc_dup (gt_M_init_14 67)
theorem d_M_init_1468 : decode b_M_init 1468 = .ok (.iconst 3, 1) := dc_iconst_3 (gt_M_init_14 68)
theorem d_M_init_1469 : decode b_M_init 1469 = .ok (.bipush 101, 2) := dc_bipush (gt_M_init_14 69) (gt_M_init_14 70) rfl
theorem d_M_init_1471 : decode b_M_init 1471 = .ok (.bastore, 1) := dc_bastore (gt_M_init_14 71)
theorem d_M_init_1472 : decode b_M_init 1472 = .ok (.dup, 1) := dc_dup (gt_M_init_14 72)
theorem d_M_init_1473 : decode b_M_init 1473 = .ok (.iconst 4, 1) := dc_iconst_4 (gt_M_init_14 73)
theorem d_M_init_1474 : decode b_M_init 1474 = .ok (.bipush 108, 2) := dc_bipush (gt_M_init_14 74) (gt_M_init_14 75) rfl
theorem d_M_init_1476 : decode b_M_init 1476 = .ok (.bastore, 1) := dc_bastore (gt_M_init_14 76)
theorem d_M_init_1477 : decode b_M_init 1477 = .ok (.dup, 1) := dc_dup (gt_M_init_14 77)
theorem d_M_init_1478 : decode b_M_init 1478 = .ok (.iconst 5, 1) := dc_iconst_5 (gt_M_init_14 78)
theorem d_M_init_1479 : decode b_M_init 1479 = .ok (.bipush 102, 2) := dc_bipush (gt_M_init_14 79) (gt_M_init_14 80) rfl
theorem d_M_init_1481 : decode b_M_init 1481 = .ok (.bastore, 1) := dc_bastore (gt_M_init_14 81)
theorem d_M_init_1482 : decode b_M_init 1482 = .ok (.dup, 1) := dc_dup (gt_M_init_14 82)
theorem d_M_init_1483 : decode b_M_init 1483 = .ok (.bipush 6, 2) := dc_bipush (gt_M_init_14 83) (gt_M_init_14 84) rfl
theorem d_M_init_1485 : decode b_M_init 1485 = .ok (.iconst 1, 1) := dc_iconst_1 (gt_M_init_14 85)
theorem d_M_init_1486 : decode b_M_init 1486 = .ok (.bastore, 1) := dc_bastore (gt_M_init_14 86)
theorem d_M_init_1487 : decode b_M_init 1487 = .ok (.dup, 1) := dc_dup (gt_M_init_14 87)
theorem d_M_init_1488 : decode b_M_init 1488 = .ok (.bipush 7, 2) := dc_bipush (gt_M_init_14 88) (gt_M_init_14 89) rfl
theorem d_M_init_1490 : decode b_M_init 1490 = .ok (.iconst 5, 1) := dc_iconst_5 (gt_M_init_14 90)
theorem d_M_init_1491 : decode b_M_init 1491 = .ok (.bastore, 1) := dc_bastore (gt_M_init_14 91)
theorem d_M_init_1492 : decode b_M_init 1492 = .ok (.dup, 1) := dc_dup (gt_M_init_14 92)
theorem d_M_init_1493 : decode b_M_init 1493 = .ok (.bipush 8, 2) := dc_bipush (gt_M_init_14 93) (gt_M_init_14 94) rfl
theorem d_M_init_1495 : decode b_M_init 1495 = .ok (.bipush 115, 2) := dc_bipush (gt_M_init_14 95) (gt_M_init_14 96) rfl
theorem d_M_init_1497 : decode b_M_init 1497 = .ok (.bastore, 1) := dc_bastore (gt_M_init_14 97)
theorem d_M_init_1498 : decode b_M_init 1498 = .ok (.dup, 1) := dc_dup (gt_M_init_14 98)
theorem d_M_init_1499 : decode b_M_init 1499 = .ok (.bipush 9, 2) := dc_bipush (gt_M_init_14 99) (gt_M_init_15 0) rfl
theorem d_M_init_1501 : decode b_M_init 1501 = .ok (.bipush 112, 2) := dc_bipush (gt_M_init_15 1) (gt_M_init_15 2) rfl
theorem d_M_init_1503 : decode b_M_init 1503 = .ok (.bastore, 1) := dc_bastore (gt_M_init_15 3)
theorem d_M_init_1504 : decode b_M_init 1504 = .ok (.dup, 1) := dc_dup (gt_M_init_15 4)
theorem d_M_init_1505 : decode b_M_init 1505 = .ok (.bipush 10, 2) := dc_bipush (gt_M_init_15 5) (gt_M_init_15 6) rfl
theorem d_M_init_1507 : decode b_M_init 1507 = .ok (.bipush 97, 2) := dc_bipush (gt_M_init_15 7) (gt_M_init_15 8) rfl
theorem d_M_init_1509 : decode b_M_init 1509 = .ok (.bastore, 1) := dc_bastore (gt_M_init_15 9)
theorem d_M_init_1510 : decode b_M_init 1510 = .ok (.dup, 1) := dc_dup (gt_M_init_15 10)
theorem d_M_init_1511 : decode b_M_init 1511 = .ok (.bipush 11, 2) := dc_bipush (gt_M_init_15 11) (gt_M_init_15 12) rfl
theorem d_M_init_1513 : decode b_M_init 1513 = .ok (.bipush 119, 2) := dc_bipush (gt_M_init_15 13) (gt_M_init_15 14) rfl
theorem d_M_init_1515 : decode b_M_init 1515 = .ok (.bastore, 1) := dc_bastore (gt_M_init_15 15)
theorem d_M_init_1516 : decode b_M_init 1516 = .ok (.dup, 1) := dc_dup (gt_M_init_15 16)
theorem d_M_init_1517 : decode b_M_init 1517 = .ok (.bipush 12, 2) := dc_bipush (gt_M_init_15 17) (gt_M_init_15 18) rfl
theorem d_M_init_1519 : decode b_M_init 1519 = .ok (.bipush 110, 2) := dc_bipush (gt_M_init_15 19) (gt_M_init_15 20) rfl
theorem d_M_init_1521 : decode b_M_init 1521 = .ok (.bastore, 1) := dc_bastore (gt_M_init_15 21)
theorem d_M_init_1522 : decode b_M_init 1522 = .ok (.dup, 1) := dc_dup (gt_M_init_15 22)
theorem d_M_init_1523 : decode b_M_init 1523 = .ok (.bipush 13, 2) := dc_bipush (gt_M_init_15 23) (gt_M_init_15 24) rfl
theorem d_M_init_1525 : decode b_M_init 1525 = .ok (.iconst 1, 1) := dc_iconst_1 (gt_M_init_15 25)
theorem d_M_init_1526 : decode b_M_init 1526 = .ok (.bastore, 1) := dc_bastore (gt_M_init_15 26)
theorem d_M_init_1527 : decode b_M_init 1527 = .ok (.dup, 1) := dc_dup (gt_M_init_15 27)
theorem d_M_init_1528 : decode b_M_init 1528 = .ok (.bipush 14, 2) := dc_bipush (gt_M_init_15 28) (gt_M_init_15 29) rfl
theorem d_M_init_1530 : decode b_M_init 1530 = .ok (.iconst 4, 1) := dc_iconst_4 (gt_M_init_15 30)
theorem d_M_init_1531 : decode b_M_init 1531 = .ok (.bastore, 1) := dc_bastore (gt_M_init_15 31)
theorem d_M_init_1532 : decode b_M_init 1532 = .ok (.dup, 1) := dc_dup (gt_M_init_15 32)
theorem d_M_init_1533 : decode b_M_init 1533 = .ok (.bipush 15, 2) := dc_bipush (gt_M_init_15 33) (gt_M_init_15 34) rfl
theorem d_M_init_1535 : decode b_M_init 1535 = .ok (.bipush 108, 2) := dc_bipush (gt_M_init_15 35) (gt_M_init_15 36) rfl
theorem d_M_init_1537 : decode b_M_init 1537 = .ok (.bastore, 1) := dc_bastore (gt_M_init_15 37)
theorem d_M_init_1538 : decode b_M_init 1538 = .ok (.dup, 1) := dc_dup (gt_M_init_15 38)
theorem d_M_init_1539 : decode b_M_init 1539 = .ok (.bipush 16, 2) := dc_bipush (gt_M_init_15 39) (gt_M_init_15 40) rfl
theorem d_M_init_1541 : decode b_M_init 1541 = .ok (.bipush 105, 2) := dc_bipush (gt_M_init_15 41) (gt_M_init_15 42) rfl
theorem d_M_init_1543 : decode b_M_init 1543 = .ok (.bastore, 1) := dc_bastore (gt_M_init_15 43)
theorem d_M_init_1544 : decode b_M_init 1544 = .ok (.dup, 1) := dc_dup (gt_M_init_15 44)
theorem d_M_init_1545 : decode b_M_init 1545 = .ok (.bipush 17, 2) := dc_bipush (gt_M_init_15 45) (gt_M_init_15 46) rfl
theorem d_M_init_1547 : decode b_M_init 1547 = .ok (.bipush 110, 2) := dc_bipush (gt_M_init_15 47) (gt_M_init_15 48) rfl
theorem d_M_init_1549 : decode b_M_init 1549 = .ok (.bastore, 1) := dc_bastore (gt_M_init_15 49)
theorem d_M_init_1550 : decode b_M_init 1550 = .ok (.dup, 1) := dc_dup (gt_M_init_15 50)
theorem d_M_init_1551 : decode b_M_init 1551 = .ok (.bipush 18, 2) := dc_bipush (gt_M_init_15 51) (gt_M_init_15 52) rfl
theorem d_M_init_1553 : decode b_M_init 1553 = .ok (.bipush 107, 2) := dc_bipush (gt_M_init_15 53) (gt_M_init_15 54) rfl
theorem d_M_init_1555 : decode b_M_init 1555 = .ok (.bastore, 1) := dc_bastore (gt_M_init_15 55)
theorem d_M_init_1556 : decode b_M_init 1556 = .ok (.dup, 1) := dc_dup (gt_M_init_15 56)
theorem d_M_init_1557 : decode b_M_init 1557 = .ok (.bipush 19, 2) := dc_bipush (gt_M_init_15 57) (gt_M_init_15 58) rfl
theorem d_M_init_1559 : decode b_M_init 1559 = .ok (.iconst 1, 1) := dc_iconst_1 (gt_M_init_15 59)
theorem d_M_init_1560 : decode b_M_init 1560 = .ok (.bastore, 1) := dc_bastore (gt_M_init_15 60)
theorem d_M_init_1561 : decode b_M_init 1561 = .ok (.dup, 1) := dc_dup (gt_M_init_15 61)
theorem d_M_init_1562 : decode b_M_init 1562 = .ok (.bipush 20, 2) := dc_bipush (gt_M_init_15 62) (gt_M_init_15 63) rfl
theorem d_M_init_1564 : decode b_M_init 1564 = .ok (.bipush 6, 2) := dc_bipush (gt_M_init_15 64) (gt_M_init_15 65) rfl
theorem d_M_init_1566 : decode b_M_init 1566 = .ok (.bastore, 1) := dc_bastore (gt_M_init_15 66)
theorem d_M_init_1567 : decode b_M_init 1567 = .ok (.dup, 1) := dc_dup (gt_M_init_15 67)
theorem d_M_init_1568 : decode b_M_init 1568 = .ok (.bipush 21, 2) := dc_bipush (gt_M_init_15 68) (gt_M_init_15 69) rfl
theorem d_M_init_1570 : decode b_M_init 1570 = .ok (.bipush 117, 2) := dc_bipush (gt_M_init_15 70) (gt_M_init_15 71) rfl
theorem d_M_init_1572 : decode b_M_init 1572 = .ok (.bastore, 1) := dc_bastore (gt_M_init_15 72)
theorem d_M_init_1573 : decode b_M_init 1573 = .ok (.dup, 1) := dc_dup (gt_M_init_15 73)
theorem d_M_init_1574 : decode b_M_init 1574 = .ok (.bipush 22, 2) := dc_bipush (gt_M_init_15 74) (gt_M_init_15 75) rfl
theorem d_M_init_1576 : decode b_M_init 1576 = .ok (.bipush 110, 2) := dc_bipush (gt_M_init_15 76) (gt_M_init_15 77) rfl
theorem d_M_init_1578 : decode b_M_init 1578 = .ok (.bastore, 1) := dc_bastore (gt_M_init_15 78)
theorem d_M_init_1579 : decode b_M_init 1579 = .ok (.dup, 1) := dc_dup (gt_M_init_15 79)
theorem d_M_init_1580 : decode b_M_init 1580 = .ok (.bipush 23, 2) := dc_bipush (gt_M_init_15 80) (gt_M_init_15 81) rfl
theorem d_M_init_1582 : decode b_M_init 1582 = .ok (.bipush 108, 2) := dc_bipush (gt_M_init_15 82) (gt_M_init_15 83) rfl
theorem d_M_init_1584 : decode b_M_init 1584 = .ok (.bastore, 1) := dc_bastore (gt_M_init_15 84)
theorem d_M_init_1585 : decode b_M_init 1585 = .ok (.dup, 1) := dc_dup (gt_M_init_15 85)
theorem d_M_init_1586 : decode b_M_init 1586 = .ok (.bipush 24, 2) := dc_bipush (gt_M_init_15 86) (gt_M_init_15 87) rfl
theorem d_M_init_1588 : decode b_M_init 1588 = .ok (.bipush 105, 2) := dc_bipush (gt_M_init_15 88) (gt_M_init_15 89) rfl
theorem d_M_init_1590 : decode b_M_init 1590 = .ok (.bastore, 1) := dc_bastore (gt_M_init_15 90)
theorem d_M_init_1591 : decode b_M_init 1591 = .ok (.dup, 1) := dc_dup (gt_M_init_15 91)
theorem d_M_init_1592 : decode b_M_init 1592 = .ok (.bipush 25, 2) := dc_bipush (gt_M_init_15 92) (gt_M_init_15 93) rfl
theorem d_M_init_1594 : decode b_M_init 1594 = .ok (.bipush 110, 2) := dc_bipush (gt_M_init_15 94) (gt_M_init_15 95) rfl
theorem d_M_init_1596 : decode b_M_init 1596 = .ok (.bastore, 1) := dc_bastore (gt_M_init_15 96)
theorem d_M_init_1597 : decode b_M_init 1597 = .ok (.dup, 1) := dc_dup (gt_M_init_15 97)
theorem d_M_init_1598 : decode b_M_init 1598 = .ok (.bipush 26, 2) := dc_bipush (gt_M_init_15 98) (gt_M_init_15 99) rfl
theorem d_M_init_1600 : decode b_M_init 1600 = .ok (.bipush 107, 2) := dc_bipush (gt_M_init_16 0) (gt_M_init_16 1) rfl
theorem d_M_init_1602 : decode b_M_init 1602 = .ok (.bastore, 1) := dc_bastore (gt_M_init_16 2)
theorem d_M_init_1603 : decode b_M_init 1603 = .ok (.dup, 1) := dc_dup (gt_M_init_16 3)
theorem d_M_init_1604 : decode b_M_init 1604 = .ok (.bipush 27, 2) := dc_bipush (gt_M_init_16 4) (gt_M_init_16 5) rfl
theorem d_M_init_1606 : decode b_M_init 1606 = .ok (.iconst 1, 1) := dc_iconst_1 (gt_M_init_16 6)
theorem d_M_init_1607 : decode b_M_init 1607 = .ok (.bastore, 1) := dc_bastore (gt_M_init_16 7)
theorem d_M_init_1608 : decode b_M_init 1608 = .ok (.dup, 1) := dc_dup (gt_M_init_16 8)
theorem d_M_init_1609 : decode b_M_init 1609 = .ok (.bipush 28, 2) := dc_bipush (gt_M_init_16 9) (gt_M_init_16 10) rfl
theorem d_M_init_1611 : decode b_M_init 1611 = .ok (.iconst 5, 1) := dc_iconst_5 (gt_M_init_16 11)
theorem d_M_init_1612 : decode b_M_init 1612 = .ok (.bastore, 1) := dc_bastore (gt_M_init_16 12)
theorem d_M_init_1613 : decode b_M_init 1613 = .ok (.dup, 1) := dc_dup (gt_M_init_16 13)
theorem d_M_init_1614 : decode b_M_init 1614 = .ok (.bipush 29, 2) := dc_bipush (gt_M_init_16 14) (gt_M_init_16 15) rfl
theorem d_M_init_1616 : decode b_M_init 1616 = .ok (.bipush 119, 2) := dc_bipush (gt_M_init_16 16) (gt_M_init_16 17) rfl
theorem d_M_init_1618 : decode b_M_init 1618 = .ok (.bastore, 1) := dc_bastore (gt_M_init_16 18)
theorem d_M_init_1619 : decode b_M_init 1619 = .ok (.dup, 1) := dc_dup (gt_M_init_16 19)
theorem d_M_init_1620 : decode b_M_init 1620 = .ok (.bipush 30, 2) := dc_bipush (gt_M_init_16 20) (gt_M_init_16 21) rfl
theorem d_M_init_1622 : decode b_M_init 1622 = .ok (.bipush 97, 2) := dc_bipush (gt_M_init_16 22) (gt_M_init_16 23) rfl
theorem d_M_init_1624 : decode b_M_init 1624 = .ok (.bastore, 1) := dc_bastore (gt_M_init_16 24)
theorem d_M_init_1625 : decode b_M_init 1625 = .ok (.dup, 1) := dc_dup (gt_M_init_16 25)
theorem d_M_init_1626 : decode b_M_init 1626 = .ok (.bipush 31, 2) := dc_bipush (gt_M_init_16 26) (gt_M_init_16 27) rfl
theorem d_M_init_1628 : decode b_M_init 1628 = .ok (.bipush 116, 2) := dc_bipush (gt_M_init_16 28) (gt_M_init_16 29) rfl
theorem d_M_init_1630 : decode b_M_init 1630 = .ok (.bastore, 1) := dc_bastore (gt_M_init_16 30)
theorem d_M_init_1631 : decode b_M_init 1631 = .ok (.dup, 1) := dc_dup (gt_M_init_16 31)
theorem d_M_init_1632 : decode b_M_init 1632 = .ok (.bipush 32, 2) := dc_bipush (gt_M_init_16 32) (gt_M_init_16 33) rfl
theorem d_M_init_1634 : decode b_M_init 1634 = .ok (.bipush 99, 2) := dc_bipush (gt_M_init_16 34) (gt_M_init_16 35) rfl
theorem d_M_init_1636 : decode b_M_init 1636 = .ok (.bastore, 1) := dc_bastore (gt_M_init_16 36)
theorem d_M_init_1637 : decode b_M_init 1637 = .ok (.dup, 1) := dc_dup (gt_M_init_16 37)
theorem d_M_init_1638 : decode b_M_init 1638 = .ok (.bipush 33, 2) := dc_bipush (gt_M_init_16 38) (gt_M_init_16 39) rfl
theorem d_M_init_1640 : decode b_M_init 1640 = .ok (.bipush 104, 2) := dc_bipush (gt_M_init_16 40) (gt_M_init_16 41) rfl
theorem d_M_init_1642 : decode b_M_init 1642 = .ok (.bastore, 1) := dc_bastore (gt_M_init_16 42)
theorem d_M_init_1643 : decode b_M_init 1643 = .ok (.dup, 1) := dc_dup (gt_M_init_16 43)
theorem d_M_init_1644 : decode b_M_init 1644 = .ok (.bipush 34, 2) := dc_bipush (gt_M_init_16 44) (gt_M_init_16 45) rfl
theorem d_M_init_1646 : decode b_M_init 1646 = .ok (.iconst 1, 1) := dc_iconst_1 (gt_M_init_16 46)
theorem d_M_init_1647 : decode b_M_init 1647 = .ok (.bastore, 1) := dc_bastore (gt_M_init_16 47)
theorem d_M_init_1648 : decode b_M_init 1648 = .ok (.dup, 1) := dc_dup (gt_M_init_16 48)
theorem d_M_init_1649 : decode b_M_init 1649 = .ok (.bipush 35, 2) := dc_bipush (gt_M_init_16 49) (gt_M_init_16 50) rfl
theorem d_M_init_1651 : decode b_M_init 1651 = .ok (.bipush 7, 2) := dc_bipush (gt_M_init_16 51) (gt_M_init_16 52) rfl
theorem d_M_init_1653 : decode b_M_init 1653 = .ok (.bastore, 1) := dc_bastore (gt_M_init_16 53)
theorem d_M_init_1654 : decode b_M_init 1654 = .ok (.dup, 1) := dc_dup (gt_M_init_16 54)
theorem d_M_init_1655 : decode b_M_init 1655 = .ok (.bipush 36, 2) := dc_bipush (gt_M_init_16 55) (gt_M_init_16 56) rfl
theorem d_M_init_1657 : decode b_M_init 1657 = .ok (.bipush 117, 2) := dc_bipush (gt_M_init_16 57) (gt_M_init_16 58) rfl
theorem d_M_init_1659 : decode b_M_init 1659 = .ok (.bastore, 1) := dc_bastore (gt_M_init_16 59)
theorem d_M_init_1660 : decode b_M_init 1660 = .ok (.dup, 1) := dc_dup (gt_M_init_16 60)
theorem d_M_init_1661 : decode b_M_init 1661 = .ok (.bipush 37, 2) := dc_bipush (gt_M_init_16 61) (gt_M_init_16 62) rfl
theorem d_M_init_1663 : decode b_M_init 1663 = .ok (.bipush 110, 2) := dc_bipush (gt_M_init_16 63) (gt_M_init_16 64) rfl
theorem d_M_init_1665 : decode b_M_init 1665 = .ok (.bastore, 1) := dc_bastore (gt_M_init_16 65)
theorem d_M_init_1666 : decode b_M_init 1666 = .ok (.dup, 1) := dc_dup (gt_M_init_16 66)
theorem d_M_init_1667 : decode b_M_init 1667 = .ok (.bipush 38, 2) := dc_bipush (gt_M_init_16 67) (gt_M_init_16 68) rfl
theorem d_M_init_1669 : decode b_M_init 1669 = .ok (.bipush 119, 2) := dc_bipush (gt_M_init_16 69) (gt_M_init_16 70) rfl
theorem d_M_init_1671 : decode b_M_init 1671 = .ok (.bastore, 1) := dc_bastore (gt_M_init_16 71)
theorem d_M_init_1672 : decode b_M_init 1672 = .ok (.dup, 1) := dc_dup (gt_M_init_16 72)
theorem d_M_init_1673 : decode b_M_init 1673 = .ok (.bipush 39, 2) := dc_bipush (gt_M_init_16 73) (gt_M_init_16 74) rfl
theorem d_M_init_1675 : decode b_M_init 1675 = .ok (.bipush 97, 2) := dc_bipush (gt_M_init_16 75) (gt_M_init_16 76) rfl
theorem d_M_init_1677 : decode b_M_init 1677 = .ok (.bastore, 1) := dc_bastore (gt_M_init_16 77)
theorem d_M_init_1678 : decode b_M_init 1678 = .ok (.dup, 1) := dc_dup (gt_M_init_16 78)
theorem d_M_init_1679 : decode b_M_init 1679 = .ok (.bipush 40, 2) := dc_bipush (gt_M_init_16 79) (gt_M_init_16 80) rfl
theorem d_M_init_1681 : decode b_M_init 1681 = .ok (.bipush 116, 2) := dc_bipush (gt_M_init_16 81) (gt_M_init_16 82) rfl
theorem d_M_init_1683 : decode b_M_init 1683 = .ok (.bastore, 1) := dc_bastore (gt_M_init_16 83)
theorem d_M_init_1684 : decode b_M_init 1684 = .ok (.dup, 1) := dc_dup (gt_M_init_16 84)
theorem d_M_init_1685 : decode b_M_init 1685 = .ok (.bipush 41, 2) := dc_bipush (gt_M_init_16 85) (gt_M_init_16 86) rfl
theorem d_M_init_1687 : decode b_M_init 1687 = .ok (.bipush 99, 2) := dc_bipush (gt_M_init_16 87) (gt_M_init_16 88) rfl
theorem d_M_init_1689 : decode b_M_init 1689 = .ok (.bastore, 1) := dc_bastore (gt_M_init_16 89)
theorem d_M_init_1690 : decode b_M_init 1690 = .ok (.dup, 1) := dc_dup (gt_M_init_16 90)
theorem d_M_init_1691 : decode b_M_init 1691 = .ok (.bipush 42, 2) := dc_bipush (gt_M_init_16 91) (gt_M_init_16 92) rfl
theorem d_M_init_1693 : decode b_M_init 1693 = .ok (.bipush 104, 2) := dc_bipush (gt_M_init_16 93) (gt_M_init_16 94) rfl
theorem d_M_init_1695 : decode b_M_init 1695 = .ok (.bastore, 1) := dc_bastore (gt_M_init_16 95)
theorem d_M_init_1696 : decode b_M_init 1696 = .ok (.dup, 1) := dc_dup (gt_M_init_16 96)
theorem d_M_init_1697 : decode b_M_init 1697 = .ok (.bipush 43, 2) := dc_bipush (gt_M_init_16 97) (gt_M_init_16 98) rfl
theorem d_M_init_1699 : decode b_M_init 1699 = .ok (.iconst 1, 1) := dc_iconst_1 (gt_M_init_16 99)
theorem d_M_init_1700 : decode b_M_init 1700 = .ok (.bastore, 1) := dc_bastore (gt_M_init_17 0)
theorem d_M_init_1701 : decode b_M_init 1701 = .ok (.dup, 1) := dc_dup (gt_M_init_17 1)
theorem d_M_init_1702 : decode b_M_init 1702 = .ok (.bipush 44, 2) := dc_bipush (gt_M_init_17 2) (gt_M_init_17 3) rfl
theorem d_M_init_1704 : decode b_M_init 1704 = .ok (.iconst 4, 1) := dc_iconst_4 (gt_M_init_17 4)
theorem d_M_init_1705 : decode b_M_init 1705 = .ok (.bastore, 1) := dc_bastore (gt_M_init_17 5)
theorem d_M_init_1706 : decode b_M_init 1706 = .ok (.dup, 1) := dc_dup (gt_M_init_17 6)
theorem d_M_init_1707 : decode b_M_init 1707 = .ok (.bipush 45, 2) := dc_bipush (gt_M_init_17 7) (gt_M_init_17 8) rfl
theorem d_M_init_1709 : decode b_M_init 1709 = .ok (.bipush 116, 2) := dc_bipush (gt_M_init_17 9) (gt_M_init_17 10) rfl
theorem d_M_init_1711 : decode b_M_init 1711 = .ok (.bastore, 1) := dc_bastore (gt_M_init_17 11)
theorem d_M_init_1712 : decode b_M_init 1712 = .ok (.dup, 1) := dc_dup (gt_M_init_17 12)
theorem d_M_init_1713 : decode b_M_init 1713 = .ok (.bipush 46, 2) := dc_bipush (gt_M_init_17 13) (gt_M_init_17 14) rfl
theorem d_M_init_1715 : decode b_M_init 1715 = .ok (.bipush 114, 2) := dc_bipush (gt_M_init_17 15) (gt_M_init_17 16) rfl
theorem d_M_init_1717 : decode b_M_init 1717 = .ok (.bastore, 1) := dc_bastore (gt_M_init_17 17)
theorem d_M_init_1718 : decode b_M_init 1718 = .ok (.dup, 1) := dc_dup (gt_M_init_17 18)
theorem d_M_init_1719 : decode b_M_init 1719 = .ok (.bipush 47, 2) := dc_bipush (gt_M_init_17 19) (gt_M_init_17 20) rfl
theorem d_M_init_1721 : decode b_M_init 1721 = .ok (.bipush 97, 2) := dc_bipush (gt_M_init_17 21) (gt_M_init_17 22) rfl
theorem d_M_init_1723 : decode b_M_init 1723 = .ok (.bastore, 1) := dc_bastore (gt_M_init_17 23)
theorem d_M_init_1724 : decode b_M_init 1724 = .ok (.dup, 1) := dc_dup (gt_M_init_17 24)
theorem d_M_init_1725 : decode b_M_init 1725 = .ok (.bipush 48, 2) := dc_bipush (gt_M_init_17 25) (gt_M_init_17 26) rfl
theorem d_M_init_1727 : decode b_M_init 1727 = .ok (.bipush 112, 2) := dc_bipush (gt_M_init_17 27) (gt_M_init_17 28) rfl
theorem d_M_init_1729 : decode b_M_init 1729 = .ok (.bastore, 1) := dc_bastore (gt_M_init_17 29)
theorem d_M_init_1730 : decode b_M_init 1730 = .ok (.dup, 1) := dc_dup (gt_M_init_17 30)
theorem d_M_init_1731 : decode b_M_init 1731 = .ok (.bipush 49, 2) := dc_bipush (gt_M_init_17 31) (gt_M_init_17 32) rfl
theorem d_M_init_1733 : decode b_M_init 1733 = .ok (.iconst 1, 1) := dc_iconst_1 (gt_M_init_17 33)
theorem d_M_init_1734 : decode b_M_init 1734 = .ok (.bastore, 1) := dc_bastore (gt_M_init_17 34)
theorem d_M_init_1735 : decode b_M_init 1735 = .ok (.dup, 1) := dc_dup (gt_M_init_17 35)
theorem d_M_init_1736 : decode b_M_init 1736 = .ok (.bipush 50, 2) := dc_bipush (gt_M_init_17 36) (gt_M_init_17 37) rfl
theorem d_M_init_1738 : decode b_M_init 1738 = .ok (.iconst 4, 1) := dc_iconst_4 (gt_M_init_17 38)
theorem d_M_init_1739 : decode b_M_init 1739 = .ok (.bastore, 1) := dc_bastore (gt_M_init_17 39)
theorem d_M_init_1740 : decode b_M_init 1740 = .ok (.dup, 1) := dc_dup (gt_M_init_17 40)
theorem d_M_init_1741 : decode b_M_init 1741 = .ok (.bipush 51, 2) := dc_bipush (gt_M_init_17 41) (gt_M_init_17 42) rfl
theorem d_M_init_1743 : decode b_M_init 1743 = .ok (.bipush 101, 2) := dc_bipush (gt_M_init_17 43) (gt_M_init_17 44) rfl
theorem d_M_init_1745 : decode b_M_init 1745 = .ok (.bastore, 1) := dc_bastore (gt_M_init_17 45)
theorem d_M_init_1746 : decode b_M_init 1746 = .ok (.dup, 1) := dc_dup (gt_M_init_17 46)
theorem d_M_init_1747 : decode b_M_init 1747 = .ok (.bipush 52, 2) := dc_bipush (gt_M_init_17 47) (gt_M_init_17 48) rfl
theorem d_M_init_1749 : decode b_M_init 1749 = .ok (.bipush 120, 2) := dc_bipush (gt_M_init_17 49) (gt_M_init_17 50) rfl
theorem d_M_init_1751 : decode b_M_init 1751 = .ok (.bastore, 1) := dc_bastore (gt_M_init_17 51)
theorem d_M_init_1752 : decode b_M_init 1752 = .ok (.dup, 1) := dc_dup (gt_M_init_17 52)
theorem d_M_init_1753 : decode b_M_init 1753 = .ok (.bipush 53, 2) := dc_bipush (gt_M_init_17 53) (gt_M_init_17 54) rfl
theorem d_M_init_1755 : decode b_M_init 1755 = .ok (.bipush 105, 2) := dc_bipush (gt_M_init_17 55) (gt_M_init_17 56) rfl
theorem d_M_init_1757 : decode b_M_init 1757 = .ok (.bastore, 1) := dc_bastore (gt_M_init_17 57)
theorem d_M_init_1758 : decode b_M_init 1758 = .ok (.dup, 1) := dc_dup (gt_M_init_17 58)
theorem d_M_init_1759 : decode b_M_init 1759 = .ok (.bipush 54, 2) := dc_bipush (gt_M_init_17 59) (gt_M_init_17 60) rfl
theorem d_M_init_1761 : decode b_M_init 1761 = .ok (.bipush 116, 2) := dc_bipush (gt_M_init_17 61) (gt_M_init_17 62) rfl
theorem d_M_init_1763 : decode b_M_init 1763 = .ok (.bastore, 1) := dc_bastore (gt_M_init_17 63)
theorem d_M_init_1764 : decode b_M_init 1764 = .ok (.dup, 1) := dc_dup (gt_M_init_17 64)
theorem d_M_init_1765 : decode b_M_init 1765 = .ok (.bipush 55, 2) := dc_bipush (gt_M_init_17 65) (gt_M_init_17 66) rfl
theorem d_M_init_1767 : decode b_M_init 1767 = .ok (.iconst 2, 1) := dc_iconst_2 (gt_M_init_17 67)
theorem d_M_init_1768 : decode b_M_init 1768 = .ok (.bastore, 1) := dc_bastore (gt_M_init_17 68)
theorem d_M_init_1769 : decode b_M_init 1769 = .ok (.dup, 1) := dc_dup (gt_M_init_17 69)
theorem d_M_init_1770 : decode b_M_init 1770 = .ok (.bipush 56, 2) := dc_bipush (gt_M_init_17 70) (gt_M_init_17 71) rfl
theorem d_M_init_1772 : decode b_M_init 1772 = .ok (.iconst 4, 1) := dc_iconst_4 (gt_M_init_17 72)
theorem d_M_init_1773 : decode b_M_init 1773 = .ok (.bastore, 1) := dc_bastore (gt_M_init_17 73)
theorem d_M_init_1774 : decode b_M_init 1774 = .ok (.dup, 1) := dc_dup (gt_M_init_17 74)
theorem d_M_init_1775 : decode b_M_init 1775 = .ok (.bipush 57, 2) := dc_bipush (gt_M_init_17 75) (gt_M_init_17 76) rfl
theorem d_M_init_1777 : decode b_M_init 1777 = .ok (.bipush 101, 2) := dc_bipush (gt_M_init_17 77) (gt_M_init_17 78) rfl
theorem d_M_init_1779 : decode b_M_init 1779 = .ok (.bastore, 1) := dc_bastore (gt_M_init_17 79)
theorem d_M_init_1780 : decode b_M_init 1780 = .ok (.dup, 1) := dc_dup (gt_M_init_17 80)
theorem d_M_init_1781 : decode b_M_init 1781 = .ok (.bipush 58, 2) := dc_bipush (gt_M_init_17 81) (gt_M_init_17 82) rfl
theorem d_M_init_1783 : decode b_M_init 1783 = .ok (.bipush 120, 2) := dc_bipush (gt_M_init_17 83) (gt_M_init_17 84) rfl
theorem d_M_init_1785 : decode b_M_init 1785 = .ok (.bastore, 1) := dc_bastore (gt_M_init_17 85)
theorem d_M_init_1786 : decode b_M_init 1786 = .ok (.dup, 1) := dc_dup (gt_M_init_17 86)
theorem d_M_init_1787 : decode b_M_init 1787 = .ok (.bipush 59, 2) := dc_bipush (gt_M_init_17 87) (gt_M_init_17 88) rfl
theorem d_M_init_1789 : decode b_M_init 1789 = .ok (.bipush 105, 2) := dc_bipush (gt_M_init_17 89) (gt_M_init_17 90) rfl
theorem d_M_init_1791 : decode b_M_init 1791 = .ok (.bastore, 1) := dc_bastore (gt_M_init_17 91)
theorem d_M_init_1792 : decode b_M_init 1792 = .ok (.dup, 1) := dc_dup (gt_M_init_17 92)
theorem d_M_init_1793 : decode b_M_init 1793 = .ok (.bipush 60, 2) := dc_bipush (gt_M_init_17 93) (gt_M_init_17 94) rfl
theorem d_M_init_1795 : decode b_M_init 1795 = .ok (.bipush 116, 2) := dc_bipush (gt_M_init_17 95) (gt_M_init_17 96) rfl
theorem d_M_init_1797 : decode b_M_init 1797 = .ok (.bastore, 1) := dc_bastore (gt_M_init_17 97)
theorem d_M_init_1798 : decode b_M_init 1798 = .ok (.dup, 1) := dc_dup (gt_M_init_17 98)
theorem d_M_init_1799 : decode b_M_init 1799 = .ok (.bipush 61, 2) := dc_bipush (gt_M_init_17 99) (gt_M_init_18 0) rfl
theorem d_M_init_1801 : decode b_M_init 1801 = .ok (.iconst 1, 1) := dc_iconst_1 (gt_M_init_18 1)
theorem d_M_init_1802 : decode b_M_init 1802 = .ok (.bastore, 1) := dc_bastore (gt_M_init_18 2)
theorem d_M_init_1803 : decode b_M_init 1803 = .ok (.dup, 1) := dc_dup (gt_M_init_18 3)
theorem d_M_init_1804 : decode b_M_init 1804 = .ok (.bipush 62, 2) := dc_bipush (gt_M_init_18 4) (gt_M_init_18 5) rfl
theorem d_M_init_1806 : decode b_M_init 1806 = .ok (.iconst 5, 1) := dc_iconst_5 (gt_M_init_18 6)
theorem d_M_init_1807 : decode b_M_init 1807 = .ok (.bastore, 1) := dc_bastore (gt_M_init_18 7)
theorem d_M_init_1808 : decode b_M_init 1808 = .ok (.dup, 1) := dc_dup (gt_M_init_18 8)
theorem d_M_init_1809 : decode b_M_init 1809 = .ok (.bipush 63, 2) := dc_bipush (gt_M_init_18 9) (gt_M_init_18 10) rfl
theorem d_M_init_1811 : decode b_M_init 1811 = .ok (.bipush 116, 2) := dc_bipush (gt_M_init_18 11) (gt_M_init_18 12) rfl
theorem d_M_init_1813 : decode b_M_init 1813 = .ok (.bastore, 1) := dc_bastore (gt_M_init_18 13)
theorem d_M_init_1814 : decode b_M_init 1814 = .ok (.dup, 1) := dc_dup (gt_M_init_18 14)
theorem d_M_init_1815 : decode b_M_init 1815 = .ok (.bipush 64, 2) := dc_bipush (gt_M_init_18 15) (gt_M_init_18 16) rfl
theorem d_M_init_1817 : decode b_M_init 1817 = .ok (.bipush 104, 2) := dc_bipush (gt_M_init_18 17) (gt_M_init_18 18) rfl
theorem d_M_init_1819 : decode b_M_init 1819 = .ok (.bastore, 1) := dc_bastore (gt_M_init_18 19)
theorem d_M_init_1820 : decode b_M_init 1820 = .ok (.dup, 1) := dc_dup (gt_M_init_18 20)
theorem d_M_init_1821 : decode b_M_init 1821 = .ok (.bipush 65, 2) := dc_bipush (gt_M_init_18 21) (gt_M_init_18 22) rfl
theorem d_M_init_1823 : decode b_M_init 1823 = .ok (.bipush 114, 2) := dc_bipush (gt_M_init_18 23) (gt_M_init_18 24) rfl
theorem d_M_init_1825 : decode b_M_init 1825 = .ok (.bastore, 1) := dc_bastore (gt_M_init_18 25)
theorem d_M_init_1826 : decode b_M_init 1826 = .ok (.dup, 1) := dc_dup (gt_M_init_18 26)
theorem d_M_init_1827 : decode b_M_init 1827 = .ok (.bipush 66, 2) := dc_bipush (gt_M_init_18 27) (gt_M_init_18 28) rfl
theorem d_M_init_1829 : decode b_M_init 1829 = .ok (.bipush 111, 2) := dc_bipush (gt_M_init_18 29) (gt_M_init_18 30) rfl
theorem d_M_init_1831 : decode b_M_init 1831 = .ok (.bastore, 1) := dc_bastore (gt_M_init_18 31)
theorem d_M_init_1832 : decode b_M_init 1832 = .ok (.dup, 1) := dc_dup (gt_M_init_18 32)
theorem d_M_init_1833 : decode b_M_init 1833 = .ok (.bipush 67, 2) := dc_bipush (gt_M_init_18 33) (gt_M_init_18 34) rfl
theorem d_M_init_1835 : decode b_M_init 1835 = .ok (.bipush 119, 2) := dc_bipush (gt_M_init_18 35) (gt_M_init_18 36) rfl
theorem d_M_init_1837 : decode b_M_init 1837 = .ok (.bastore, 1) := dc_bastore (gt_M_init_18 37)
theorem d_M_init_1838 : decode b_M_init 1838 = .ok (.dup, 1) := dc_dup (gt_M_init_18 38)
theorem d_M_init_1839 : decode b_M_init 1839 = .ok (.bipush 68, 2) := dc_bipush (gt_M_init_18 39) (gt_M_init_18 40) rfl
theorem d_M_init_1841 : decode b_M_init 1841 = .ok (.iconst 1, 1) := dc_iconst_1 (gt_M_init_18 41)
theorem d_M_init_1842 : decode b_M_init 1842 = .ok (.bastore, 1) := dc_bastore (gt_M_init_18 42)
theorem d_M_init_1843 : decode b_M_init 1843 = .ok (.dup, 1) := dc_dup (gt_M_init_18 43)
theorem d_M_init_1844 : decode b_M_init 1844 = .ok (.bipush 69, 2) := dc_bipush (gt_M_init_18 44) (gt_M_init_18 45) rfl
theorem d_M_init_1846 : decode b_M_init 1846 = .ok (.iconst 5, 1) := dc_iconst_5 (gt_M_init_18 46)
theorem d_M_init_1847 : decode b_M_init 1847 = .ok (.bastore, 1) := dc_bastore (gt_M_init_18 47)
theorem d_M_init_1848 : decode b_M_init 1848 = .ok (.dup, 1) := dc_dup (gt_M_init_18 48)
theorem d_M_init_1849 : decode b_M_init 1849 = .ok (.bipush 70, 2) := dc_bipush (gt_M_init_18 49) (gt_M_init_18 50) rfl
theorem d_M_init_1851 : decode b_M_init 1851 = .ok (.bipush 101, 2) := dc_bipush (gt_M_init_18 51) (gt_M_init_18 52) rfl
theorem d_M_init_1853 : decode b_M_init 1853 = .ok (.bastore, 1) := dc_bastore (gt_M_init_18 53)
theorem d_M_init_1854 : decode b_M_init 1854 = .ok (.dup, 1) := dc_dup (gt_M_init_18 54)
theorem d_M_init_1855 : decode b_M_init 1855 = .ok (.bipush 71, 2) := dc_bipush (gt_M_init_18 55) (gt_M_init_18 56) rfl
theorem d_M_init_1857 : decode b_M_init 1857 = .ok (.bipush 114, 2) := dc_bipush (gt_M_init_18 57) (gt_M_init_18 58) rfl
theorem d_M_init_1859 : decode b_M_init 1859 = .ok (.bastore, 1) := dc_bastore (gt_M_init_18 59)
theorem d_M_init_1860 : decode b_M_init 1860 = .ok (.dup, 1) := dc_dup (gt_M_init_18 60)
theorem d_M_init_1861 : decode b_M_init 1861 = .ok (.bipush 72, 2) := dc_bipush (gt_M_init_18 61) (gt_M_init_18 62) rfl
theorem d_M_init_1863 : decode b_M_init 1863 = .ok (.bipush 114, 2) := dc_bipush (gt_M_init_18 63) (gt_M_init_18 64) rfl
theorem d_M_init_1865 : decode b_M_init 1865 = .ok (.bastore, 1) := dc_bastore (gt_M_init_18 65)
theorem d_M_init_1866 : decode b_M_init 1866 = .ok (.dup, 1) := dc_dup (gt_M_init_18 66)
theorem d_M_init_1867 : decode b_M_init 1867 = .ok (.bipush 73, 2) := dc_bipush (gt_M_init_18 67) (gt_M_init_18 68) rfl
theorem d_M_init_1869 : decode b_M_init 1869 = .ok (.bipush 111, 2) := dc_bipush (gt_M_init_18 69) (gt_M_init_18 70) rfl
theorem d_M_init_1871 : decode b_M_init 1871 = .ok (.bastore, 1) := dc_bastore (gt_M_init_18 71)
theorem d_M_init_1872 : decode b_M_init 1872 = .ok (.dup, 1) := dc_dup (gt_M_init_18 72)
theorem d_M_init_1873 : decode b_M_init 1873 = .ok (.bipush 74, 2) := dc_bipush (gt_M_init_18 73) (gt_M_init_18 74) rfl
theorem d_M_init_1875 : decode b_M_init 1875 = .ok (.bipush 114, 2) := dc_bipush (gt_M_init_18 75) (gt_M_init_18 76) rfl
theorem d_M_init_1877 : decode b_M_init 1877 = .ok (.bastore, 1) := dc_bastore (gt_M_init_18 77)
theorem d_M_init_1878 : decode b_M_init 1878 = .ok (.dup, 1) := dc_dup (gt_M_init_18 78)
theorem d_M_init_1879 : decode b_M_init 1879 = .ok (.bipush 75, 2) := dc_bipush (gt_M_init_18 79) (gt_M_init_18 80) rfl
theorem d_M_init_1881 : decode b_M_init 1881 = .ok (.iconst 1, 1) := dc_iconst_1 (gt_M_init_18 81)
theorem d_M_init_1882 : decode b_M_init 1882 = .ok (.bastore, 1) := dc_bastore (gt_M_init_18 82)
theorem d_M_init_1883 : decode b_M_init 1883 = .ok (.dup, 1) := dc_dup (gt_M_init_18 83)
theorem d_M_init_1884 : decode b_M_init 1884 = .ok (.bipush 76, 2) := dc_bipush (gt_M_init_18 84) (gt_M_init_18 85) rfl
theorem d_M_init_1886 : decode b_M_init 1886 = .ok (.iconst 5, 1) := dc_iconst_5 (gt_M_init_18 86)
theorem d_M_init_1887 : decode b_M_init 1887 = .ok (.bastore, 1) := dc_bastore (gt_M_init_18 87)
theorem d_M_init_1888 : decode b_M_init 1888 = .ok (.dup, 1) := dc_dup (gt_M_init_18 88)
theorem d_M_init_1889 : decode b_M_init 1889 = .ok (.bipush 77, 2) := dc_bipush (gt_M_init_18 89) (gt_M_init_18 90) rfl
theorem d_M_init_1891 : decode b_M_init 1891 = .ok (.bipush 112, 2) := dc_bipush (gt_M_init_18 91) (gt_M_init_18 92) rfl
theorem d_M_init_1893 : decode b_M_init 1893 = .ok (.bastore, 1) := dc_bastore (gt_M_init_18 93)
theorem d_M_init_1894 : decode b_M_init 1894 = .ok (.dup, 1) := dc_dup (gt_M_init_18 94)
theorem d_M_init_1895 : decode b_M_init 1895 = .ok (.bipush 78, 2) := dc_bipush (gt_M_init_18 95) (gt_M_init_18 96) rfl
theorem d_M_init_1897 : decode b_M_init 1897 = .ok (.bipush 114, 2) := dc_bipush (gt_M_init_18 97) (gt_M_init_18 98) rfl
theorem d_M_init_1899 : decode b_M_init 1899 = .ok (.bastore, 1) := dc_bastore (gt_M_init_18 99)
theorem d_M_init_1900 : decode b_M_init 1900 = .ok (.dup, 1) := dc_dup (gt_M_init_19 0)
theorem d_M_init_1901 : decode b_M_init 1901 = .ok (.bipush 79, 2) := dc_bipush (gt_M_init_19 1) (gt_M_init_19 2) rfl
theorem d_M_init_1903 : decode b_M_init 1903 = .ok (.bipush 105, 2) := dc_bipush (gt_M_init_19 3) (gt_M_init_19 4) rfl
theorem d_M_init_1905 : decode b_M_init 1905 = .ok (.bastore, 1) := dc_bastore (gt_M_init_19 5)
theorem d_M_init_1906 : decode b_M_init 1906 = .ok (.dup, 1) := dc_dup (gt_M_init_19 6)
theorem d_M_init_1907 : decode b_M_init 1907 = .ok (.bipush 80, 2) := dc_bipush (gt_M_init_19 7) (gt_M_init_19 8) rfl
theorem d_M_init_1909 : decode b_M_init 1909 = .ok (.bipush 110, 2) := dc_bipush (gt_M_init_19 9) (gt_M_init_19 10) rfl
theorem d_M_init_1911 : decode b_M_init 1911 = .ok (.bastore, 1) := dc_bastore (gt_M_init_19 11)
theorem d_M_init_1912 : decode b_M_init 1912 = .ok (.dup, 1) := dc_dup (gt_M_init_19 12)
theorem d_M_init_1913 : decode b_M_init 1913 = .ok (.bipush 81, 2) := dc_bipush (gt_M_init_19 13) (gt_M_init_19 14) rfl
theorem d_M_init_1915 : decode b_M_init 1915 = .ok (.bipush 116, 2) := dc_bipush (gt_M_init_19 15) (gt_M_init_19 16) rfl
theorem d_M_init_1917 : decode b_M_init 1917 = .ok (.bastore, 1) := dc_bastore (gt_M_init_19 17)
theorem d_M_init_1918 : decode b_M_init 1918 = .ok (.dup, 1) := dc_dup (gt_M_init_19 18)
theorem d_M_init_1919 : decode b_M_init 1919 = .ok (.bipush 82, 2) := dc_bipush (gt_M_init_19 19) (gt_M_init_19 20) rfl
theorem d_M_init_1921 : decode b_M_init 1921 = .ok (.iconst 0, 1) := dc_iconst_0 (gt_M_init_19 21)
theorem d_M_init_1922 : decode b_M_init 1922 = .ok (.bastore, 1) := dc_bastore (gt_M_init_19 22)
theorem d_M_init_1923 : decode b_M_init 1923 = .ok (.dup, 1) := dc_dup (gt_M_init_19 23)
theorem d_M_init_1924 : decode b_M_init 1924 = .ok (.bipush 83, 2) := dc_bipush (gt_M_init_19 24) (gt_M_init_19 25) rfl
theorem d_M_init_1926 : decode b_M_init 1926 = .ok (.iconst 3, 1) := dc_iconst_3 (gt_M_init_19 26)
theorem d_M_init_1927 : decode b_M_init 1927 = .ok (.bastore, 1) := dc_bastore (gt_M_init_19 27)
theorem d_M_init_1928 : decode b_M_init 1928 = .ok (.dup, 1) := dc_dup (gt_M_init_19 28)
theorem d_M_init_1929 : decode b_M_init 1929 = .ok (.bipush 84, 2) := dc_bipush (gt_M_init_19 29) (gt_M_init_19 30) rfl
theorem d_M_init_1931 : decode b_M_init 1931 = .ok (.bipush 114, 2) := dc_bipush (gt_M_init_19 31) (gt_M_init_19 32) rfl
theorem d_M_init_1933 : decode b_M_init 1933 = .ok (.bastore, 1) := dc_bastore (gt_M_init_19 33)
theorem d_M_init_1934 : decode b_M_init 1934 = .ok (.dup, 1) := dc_dup (gt_M_init_19 34)
theorem d_M_init_1935 : decode b_M_init 1935 = .ok (.bipush 85, 2) := dc_bipush (gt_M_init_19 35) (gt_M_init_19 36) rfl
theorem d_M_init_1937 : decode b_M_init 1937 = .ok (.bipush 101, 2) := dc_bipush (gt_M_init_19 37) (gt_M_init_19 38) rfl
theorem d_M_init_1939 : decode b_M_init 1939 = .ok (.bastore, 1) := dc_bastore (gt_M_init_19 39)
theorem d_M_init_1940 : decode b_M_init 1940 = .ok (.dup, 1) := dc_dup (gt_M_init_19 40)
theorem d_M_init_1941 : decode b_M_init 1941 = .ok (.bipush 86, 2) := dc_bipush (gt_M_init_19 41) (gt_M_init_19 42) rfl
theorem d_M_init_1943 : decode b_M_init 1943 = .ok (.bipush 102, 2) := dc_bipush (gt_M_init_19 43) (gt_M_init_19 44) rfl
theorem d_M_init_1945 : decode b_M_init 1945 = .ok (.bastore, 1) := dc_bastore (gt_M_init_19 45)
theorem d_M_init_1946 : decode b_M_init 1946 = .ok (.dup, 1) := dc_dup (gt_M_init_19 46)
theorem d_M_init_1947 : decode b_M_init 1947 = .ok (.bipush 87, 2) := dc_bipush (gt_M_init_19 47) (gt_M_init_19 48) rfl
theorem d_M_init_1949 : decode b_M_init 1949 = .ok (.iconst 2, 1) := dc_iconst_2 (gt_M_init_19 49)
theorem d_M_init_1950 : decode b_M_init 1950 = .ok (.bastore, 1) := dc_bastore (gt_M_init_19 50)
theorem d_M_init_1951 : decode b_M_init 1951 = .ok (.dup, 1) := dc_dup (gt_M_init_19 51)
theorem d_M_init_1952 : decode b_M_init 1952 = .ok (.bipush 88, 2) := dc_bipush (gt_M_init_19 52) (gt_M_init_19 53) rfl
theorem d_M_init_1954 : decode b_M_init 1954 = .ok (.iconst 4, 1) := dc_iconst_4 (gt_M_init_19 54)
theorem d_M_init_1955 : decode b_M_init 1955 = .ok (.bastore, 1) := dc_bastore (gt_M_init_19 55)
theorem d_M_init_1956 : decode b_M_init 1956 = .ok (.dup, 1) := dc_dup (gt_M_init_19 56)
theorem d_M_init_1957 : decode b_M_init 1957 = .ok (.bipush 89, 2) := dc_bipush (gt_M_init_19 57) (gt_M_init_19 58) rfl
theorem d_M_init_1959 : decode b_M_init 1959 = .ok (.bipush 110, 2) := dc_bipush (gt_M_init_19 59) (gt_M_init_19 60) rfl
theorem d_M_init_1961 : decode b_M_init 1961 = .ok (.bastore, 1) := dc_bastore (gt_M_init_19 61)
theorem d_M_init_1962 : decode b_M_init 1962 = .ok (.dup, 1) := dc_dup (gt_M_init_19 62)
theorem d_M_init_1963 : decode b_M_init 1963 = .ok (.bipush 90, 2) := dc_bipush (gt_M_init_19 63) (gt_M_init_19 64) rfl
theorem d_M_init_1965 : decode b_M_init 1965 = .ok (.bipush 97, 2) := dc_bipush (gt_M_init_19 65) (gt_M_init_19 66) rfl
theorem d_M_init_1967 : decode b_M_init 1967 = .ok (.bastore, 1) := dc_bastore (gt_M_init_19 67)
theorem d_M_init_1968 : decode b_M_init 1968 = .ok (.dup, 1) := dc_dup (gt_M_init_19 68)
theorem d_M_init_1969 : decode b_M_init 1969 = .ok (.bipush 91, 2) := dc_bipush (gt_M_init_19 69) (gt_M_init_19 70) rfl
theorem d_M_init_1971 : decode b_M_init 1971 = .ok (.bipush 109, 2) := dc_bipush (gt_M_init_19 71) (gt_M_init_19 72) rfl
theorem d_M_init_1973 : decode b_M_init 1973 = .ok (.bastore, 1) := dc_bastore (gt_M_init_19 73)
theorem d_M_init_1974 : decode b_M_init 1974 = .ok (.dup, 1) := dc_dup (gt_M_init_19 74)
theorem d_M_init_1975 : decode b_M_init 1975 = .ok (.bipush 92, 2) := dc_bipush (gt_M_init_19 75) (gt_M_init_19 76) rfl
theorem d_M_init_1977 : decode b_M_init 1977 = .ok (.bipush 101, 2) := dc_bipush (gt_M_init_19 77) (gt_M_init_19 78) rfl
theorem d_M_init_1979 : decode b_M_init 1979 = .ok (.bastore, 1) := dc_bastore (gt_M_init_19 79)
theorem d_M_init_1980 : decode b_M_init 1980 = .ok (.dup, 1) := dc_dup (gt_M_init_19 80)
theorem d_M_init_1981 : decode b_M_init 1981 = .ok (.bipush 93, 2) := dc_bipush (gt_M_init_19 81) (gt_M_init_19 82) rfl
theorem d_M_init_1983 : decode b_M_init 1983 = .ok (.iconst 1, 1) := dc_iconst_1 (gt_M_init_19 83)
theorem d_M_init_1984 : decode b_M_init 1984 = .ok (.bastore, 1) := dc_bastore (gt_M_init_19 84)
theorem d_M_init_1985 : decode b_M_init 1985 = .ok (.dup, 1) := dc_dup (gt_M_init_19 85)
theorem d_M_init_1986 : decode b_M_init 1986 = .ok (.bipush 94, 2) := dc_bipush (gt_M_init_19 86) (gt_M_init_19 87) rfl
theorem d_M_init_1988 : decode b_M_init 1988 = .ok (.bipush 6, 2) := dc_bipush (gt_M_init_19 88) (gt_M_init_19 89) rfl
theorem d_M_init_1990 : decode b_M_init 1990 = .ok (.bastore, 1) := dc_bastore (gt_M_init_19 90)
theorem d_M_init_1991 : decode b_M_init 1991 = .ok (.dup, 1) := dc_dup (gt_M_init_19 91)
theorem d_M_init_1992 : decode b_M_init 1992 = .ok (.bipush 95, 2) := dc_bipush (gt_M_init_19 92) (gt_M_init_19 93) rfl
theorem d_M_init_1994 : decode b_M_init 1994 = .ok (.bipush 117, 2) := dc_bipush (gt_M_init_19 94) (gt_M_init_19 95) rfl
theorem d_M_init_1996 : decode b_M_init 1996 = .ok (.bastore, 1) := dc_bastore (gt_M_init_19 96)
theorem d_M_init_1997 : decode b_M_init 1997 = .ok (.dup, 1) := dc_dup (gt_M_init_19 97)
theorem d_M_init_1998 : decode b_M_init 1998 = .ok (.bipush 96, 2) := dc_bipush (gt_M_init_19 98) (gt_M_init_19 99) rfl
theorem d_M_init_2000 : decode b_M_init 2000 = .ok (.bipush 110, 2) := dc_bipush (gt_M_init_20 0) (gt_M_init_20 1) rfl
theorem d_M_init_2002 : decode b_M_init 2002 = .ok (.bastore, 1) := dc_bastore (gt_M_init_20 2)
theorem d_M_init_2003 : decode b_M_init 2003 = .ok (.dup, 1) := dc_dup (gt_M_init_20 3)
theorem d_M_init_2004 : decode b_M_init 2004 = .ok (.bipush 97, 2) := dc_bipush (gt_M_init_20 4) (gt_M_init_20 5) rfl
theorem d_M_init_2006 : decode b_M_init 2006 = .ok (.bipush 110, 2) := dc_bipush (gt_M_init_20 6) (gt_M_init_20 7) rfl
theorem d_M_init_2008 : decode b_M_init 2008 = .ok (.bastore, 1) := dc_bastore (gt_M_init_20 8)
theorem d_M_init_2009 : decode b_M_init 2009 = .ok (.dup, 1) := dc_dup (gt_M_init_20 9)
theorem d_M_init_2010 : decode b_M_init 2010 = .ok (.bipush 98, 2) := dc_bipush (gt_M_init_20 10) (gt_M_init_20 11) rfl
theorem d_M_init_2012 : decode b_M_init 2012 = .ok (.bipush 97, 2) := dc_bipush (gt_M_init_20 12) (gt_M_init_20 13) rfl
theorem d_M_init_2014 : decode b_M_init 2014 = .ok (.bastore, 1) := dc_bastore (gt_M_init_20 14)
theorem d_M_init_2015 : decode b_M_init 2015 = .ok (.dup, 1) := dc_dup (gt_M_init_20 15)
theorem d_M_init_2016 : decode b_M_init 2016 = .ok (.bipush 99, 2) := dc_bipush (gt_M_init_20 16) (gt_M_init_20 17) rfl
theorem d_M_init_2018 : decode b_M_init 2018 = .ok (.bipush 109, 2) := dc_bipush (gt_M_init_20 18) (gt_M_init_20 19) rfl
theorem d_M_init_2020 : decode b_M_init 2020 = .ok (.bastore, 1) := dc_bastore (gt_M_init_20 20)
theorem d_M_init_2021 : decode b_M_init 2021 = .ok (.dup, 1) := dc_dup (gt_M_init_20 21)
theorem d_M_init_2022 : decode b_M_init 2022 = .ok (.bipush 100, 2) := dc_bipush (gt_M_init_20 22) (gt_M_init_20 23) rfl
theorem d_M_init_2024 : decode b_M_init 2024 = .ok (.bipush 101, 2) := dc_bipush (gt_M_init_20 24) (gt_M_init_20 25) rfl
theorem d_M_init_2026 : decode b_M_init 2026 = .ok (.bastore, 1) := dc_bastore (gt_M_init_20 26)
theorem d_M_init_2027 : decode b_M_init 2027 = .ok (.dup, 1) := dc_dup (gt_M_init_20 27)
theorem d_M_init_2028 : decode b_M_init 2028 = .ok (.bipush 101, 2) := dc_bipush (gt_M_init_20 28) (gt_M_init_20 29) rfl
theorem d_M_init_2030 : decode b_M_init 2030 = .ok (.iconst 1, 1) := dc_iconst_1 (gt_M_init_20 30)
theorem d_M_init_2031 : decode b_M_init 2031 = .ok (.bastore, 1) := dc_bastore (gt_M_init_20 31)
theorem d_M_init_2032 : decode b_M_init 2032 = .ok (.dup, 1) := dc_dup (gt_M_init_20 32)
theorem d_M_init_2033 : decode b_M_init 2033 = .ok (.bipush 102, 2) := dc_bipush (gt_M_init_20 33) (gt_M_init_20 34) rfl
theorem d_M_init_2035 : decode b_M_init 2035 = .ok (.iconst 5, 1) := dc_iconst_5 (gt_M_init_20 35)
theorem d_M_init_2036 : decode b_M_init 2036 = .ok (.bastore, 1) := dc_bastore (gt_M_init_20 36)
theorem d_M_init_2037 : decode b_M_init 2037 = .ok (.dup, 1) := dc_dup (gt_M_init_20 37)
theorem d_M_init_2038 : decode b_M_init 2038 = .ok (.bipush 103, 2) := dc_bipush (gt_M_init_20 38) (gt_M_init_20 39) rfl
theorem d_M_init_2040 : decode b_M_init 2040 = .ok (.bipush 110, 2) := dc_bipush (gt_M_init_20 40) (gt_M_init_20 41) rfl
theorem d_M_init_2042 : decode b_M_init 2042 = .ok (.bastore, 1) := dc_bastore (gt_M_init_20 42)
theorem d_M_init_2043 : decode b_M_init 2043 = .ok (.dup, 1) := dc_dup (gt_M_init_20 43)
theorem d_M_init_2044 : decode b_M_init 2044 = .ok (.bipush 104, 2) := dc_bipush (gt_M_init_20 44) (gt_M_init_20 45) rfl
theorem d_M_init_2046 : decode b_M_init 2046 = .ok (.bipush 97, 2) := dc_bipush (gt_M_init_20 46) (gt_M_init_20 47) rfl
theorem d_M_init_2048 : decode b_M_init 2048 = .ok (.bastore, 1) := dc_bastore (gt_M_init_20 48)
theorem d_M_init_2049 : decode b_M_init 2049 = .ok (.dup, 1) := dc_dup (gt_M_init_20 49)
theorem d_M_init_2050 : decode b_M_init 2050 = .ok (.bipush 105, 2) := dc_bipush (gt_M_init_20 50) (gt_M_init_20 51) rfl
theorem d_M_init_2052 : decode b_M_init 2052 = .ok (.bipush 109, 2) := dc_bipush (gt_M_init_20 52) (gt_M_init_20 53) rfl
theorem d_M_init_2054 : decode b_M_init 2054 = .ok (.bastore, 1) := dc_bastore (gt_M_init_20 54)
theorem d_M_init_2055 : decode b_M_init 2055 = .ok (.dup, 1) := dc_dup (gt_M_init_20 55)
theorem d_M_init_2056 : decode b_M_init 2056 = .ok (.bipush 106, 2) := dc_bipush (gt_M_init_20 56) (gt_M_init_20 57) rfl
theorem d_M_init_2058 : decode b_M_init 2058 = .ok (.bipush 101, 2) := dc_bipush (gt_M_init_20 58) (gt_M_init_20 59) rfl
theorem d_M_init_2060 : decode b_M_init 2060 = .ok (.bastore, 1) := dc_bastore (gt_M_init_20 60)
theorem d_M_init_2061 : decode b_M_init 2061 = .ok (.dup, 1) := dc_dup (gt_M_init_20 61)
theorem d_M_init_2062 : decode b_M_init 2062 = .ok (.bipush 107, 2) := dc_bipush (gt_M_init_20 62) (gt_M_init_20 63) rfl
theorem d_M_init_2064 : decode b_M_init 2064 = .ok (.bipush 100, 2) := dc_bipush (gt_M_init_20 64) (gt_M_init_20 65) rfl
theorem d_M_init_2066 : decode b_M_init 2066 = .ok (.bastore, 1) := dc_bastore (gt_M_init_20 66)
theorem d_M_init_2067 : decode b_M_init 2067 = .ok (.dup, 1) := dc_dup (gt_M_init_20 67)
theorem d_M_init_2068 : decode b_M_init 2068 = .ok (.bipush 108, 2) := dc_bipush (gt_M_init_20 68) (gt_M_init_20 69) rfl
theorem d_M_init_2070 : decode b_M_init 2070 = .ok (.iconst 1, 1) := dc_iconst_1 (gt_M_init_20 70)
theorem d_M_init_2071 : decode b_M_init 2071 = .ok (.bastore, 1) := dc_bastore (gt_M_init_20 71)
theorem d_M_init_2072 : decode b_M_init 2072 = .ok (.dup, 1) := dc_dup (gt_M_init_20 72)
theorem d_M_init_2073 : decode b_M_init 2073 = .ok (.bipush 109, 2) := dc_bipush (gt_M_init_20 73) (gt_M_init_20 74) rfl
theorem d_M_init_2075 : decode b_M_init 2075 = .ok (.iconst 5, 1) := dc_iconst_5 (gt_M_init_20 75)
theorem d_M_init_2076 : decode b_M_init 2076 = .ok (.bastore, 1) := dc_bastore (gt_M_init_20 76)
theorem d_M_init_2077 : decode b_M_init 2077 = .ok (.dup, 1) := dc_dup (gt_M_init_20 77)
theorem d_M_init_2078 : decode b_M_init 2078 = .ok (.bipush 110, 2) := dc_bipush (gt_M_init_20 78) (gt_M_init_20 79) rfl
theorem d_M_init_2080 : decode b_M_init 2080 = .ok (.bipush 97, 2) := dc_bipush (gt_M_init_20 80) (gt_M_init_20 81) rfl
theorem d_M_init_2082 : decode b_M_init 2082 = .ok (.bastore, 1) := dc_bastore (gt_M_init_20 82)
theorem d_M_init_2083 : decode b_M_init 2083 = .ok (.dup, 1) := dc_dup (gt_M_init_20 83)
theorem d_M_init_2084 : decode b_M_init 2084 = .ok (.bipush 111, 2) := dc_bipush (gt_M_init_20 84) (gt_M_init_20 85) rfl
theorem d_M_init_2086 : decode b_M_init 2086 = .ok (.bipush 108, 2) := dc_bipush (gt_M_init_20 86) (gt_M_init_20 87) rfl
theorem d_M_init_2088 : decode b_M_init 2088 = .ok (.bastore, 1) := dc_bastore (gt_M_init_20 88)
theorem d_M_init_2089 : decode b_M_init 2089 = .ok (.dup, 1) := dc_dup (gt_M_init_20 89)
theorem d_M_init_2090 : decode b_M_init 2090 = .ok (.bipush 112, 2) := dc_bipush (gt_M_init_20 90) (gt_M_init_20 91) rfl
theorem d_M_init_2092 : decode b_M_init 2092 = .ok (.bipush 105, 2) := dc_bipush (gt_M_init_20 92) (gt_M_init_20 93) rfl
theorem d_M_init_2094 : decode b_M_init 2094 = .ok (.bastore, 1) := dc_bastore (gt_M_init_20 94)
theorem d_M_init_2095 : decode b_M_init 2095 = .ok (.dup, 1) := dc_dup (gt_M_init_20 95)
theorem d_M_init_2096 : decode b_M_init 2096 = .ok (.bipush 113, 2) := dc_bipush (gt_M_init_20 96) (gt_M_init_20 97) rfl
theorem d_M_init_2098 : decode b_M_init 2098 = .ok (.bipush 118, 2) := dc_bipush (gt_M_init_20 98) (gt_M_init_20 99) rfl
theorem d_M_init_2100 : decode b_M_init 2100 = .ok (.bastore, 1) := dc_bastore (gt_M_init_21 0)
theorem d_M_init_2101 : decode b_M_init 2101 = .ok (.dup, 1) := dc_dup (gt_M_init_21 1)
theorem d_M_init_2102 : decode b_M_init 2102 = .ok (.bipush 114, 2) := dc_bipush (gt_M_init_21 2) (gt_M_init_21 3) rfl
theorem d_M_init_2104 : decode b_M_init 2104 = .ok (.bipush 101, 2) := dc_bipush (gt_M_init_21 4) (gt_M_init_21 5) rfl
theorem d_M_init_2106 : decode b_M_init 2106 = .ok (.bastore, 1) := dc_bastore (gt_M_init_21 6)
theorem d_M_init_2107 : decode b_M_init 2107 = .ok (.dup, 1) := dc_dup (gt_M_init_21 7)
theorem d_M_init_2108 : decode b_M_init 2108 = .ok (.bipush 115, 2) := dc_bipush (gt_M_init_21 8) (gt_M_init_21 9) rfl
theorem d_M_init_2110 : decode b_M_init 2110 = .ok (.iconst 0, 1) := dc_iconst_0 (gt_M_init_21 10)
theorem d_M_init_2111 : decode b_M_init 2111 = .ok (.bastore, 1) := dc_bastore (gt_M_init_21 11)
theorem d_M_init_2112 : decode b_M_init 2112 = .ok (.dup, 1) := dc_dup (gt_M_init_21 12)
theorem d_M_init_2113 : decode b_M_init 2113 = .ok (.bipush 116, 2) := dc_bipush (gt_M_init_21 13) (gt_M_init_21 14) rfl
theorem d_M_init_2115 : decode b_M_init 2115 = .ok (.iconst 3, 1) := dc_iconst_3 (gt_M_init_21 15)
theorem d_M_init_2116 : decode b_M_init 2116 = .ok (.bastore, 1) := dc_bastore (gt_M_init_21 16)
theorem d_M_init_2117 : decode b_M_init 2117 = .ok (.dup, 1) := dc_dup (gt_M_init_21 17)
theorem d_M_init_2118 : decode b_M_init 2118 = .ok (.bipush 117, 2) := dc_bipush (gt_M_init_21 18) (gt_M_init_21 19) rfl
theorem d_M_init_2120 : decode b_M_init 2120 = .ok (.bipush 110, 2) := dc_bipush (gt_M_init_21 20) (gt_M_init_21 21) rfl
theorem d_M_init_2122 : decode b_M_init 2122 = .ok (.bastore, 1) := dc_bastore (gt_M_init_21 22)
theorem d_M_init_2123 : decode b_M_init 2123 = .ok (.dup, 1) := dc_dup (gt_M_init_21 23)
theorem d_M_init_2124 : decode b_M_init 2124 = .ok (.bipush 118, 2) := dc_bipush (gt_M_init_21 24) (gt_M_init_21 25) rfl
theorem d_M_init_2126 : decode b_M_init 2126 = .ok (.bipush 111, 2) := dc_bipush (gt_M_init_21 26) (gt_M_init_21 27) rfl
theorem d_M_init_2128 : decode b_M_init 2128 = .ok (.bastore, 1) := dc_bastore (gt_M_init_21 28)
theorem d_M_init_2129 : decode b_M_init 2129 = .ok (.dup, 1) := dc_dup (gt_M_init_21 29)
theorem d_M_init_2130 : decode b_M_init 2130 = .ok (.bipush 119, 2) := dc_bipush (gt_M_init_21 30) (gt_M_init_21 31) rfl
theorem d_M_init_2132 : decode b_M_init 2132 = .ok (.bipush 119, 2) := dc_bipush (gt_M_init_21 32) (gt_M_init_21 33) rfl
theorem d_M_init_2134 : decode b_M_init 2134 = .ok (.bastore, 1) := dc_bastore (gt_M_init_21 34)
theorem d_M_init_2135 : decode b_M_init 2135 = .ok (.dup, 1) := dc_dup (gt_M_init_21 35)
theorem d_M_init_2136 : decode b_M_init 2136 = .ok (.bipush 120, 2) := dc_bipush (gt_M_init_21 36) (gt_M_init_21 37) rfl
theorem d_M_init_2138 : decode b_M_init 2138 = .ok (.iconst 1, 1) := dc_iconst_1 (gt_M_init_21 38)
theorem d_M_init_2139 : decode b_M_init 2139 = .ok (.bastore, 1) := dc_bastore (gt_M_init_21 39)
theorem d_M_init_2140 : decode b_M_init 2140 = .ok (.dup, 1) := dc_dup (gt_M_init_21 40)
theorem d_M_init_2141 : decode b_M_init 2141 = .ok (.bipush 121, 2) := dc_bipush (gt_M_init_21 41) (gt_M_init_21 42) rfl
theorem d_M_init_2143 : decode b_M_init 2143 = .ok (.bipush 9, 2) := dc_bipush (gt_M_init_21 43) (gt_M_init_21 44) rfl
theorem d_M_init_2145 : decode b_M_init 2145 = .ok (.bastore, 1) := dc_bastore (gt_M_init_21 45)
theorem d_M_init_2146 : decode b_M_init 2146 = .ok (.dup, 1) := dc_dup (gt_M_init_21 46)
theorem d_M_init_2147 : decode b_M_init 2147 = .ok (.bipush 122, 2) := dc_bipush (gt_M_init_21 47) (gt_M_init_21 48) rfl
theorem d_M_init_2149 : decode b_M_init 2149 = .ok (.bipush 105, 2) := dc_bipush (gt_M_init_21 49) (gt_M_init_21 50) rfl
theorem d_M_init_2151 : decode b_M_init 2151 = .ok (.bastore, 1) := dc_bastore (gt_M_init_21 51)
theorem d_M_init_2152 : decode b_M_init 2152 = .ok (.dup, 1) := dc_dup (gt_M_init_21 52)
theorem d_M_init_2153 : decode b_M_init 2153 = .ok (.bipush 123, 2) := dc_bipush (gt_M_init_21 53) (gt_M_init_21 54) rfl
theorem d_M_init_2155 : decode b_M_init 2155 = .ok (.bipush 115, 2) := dc_bipush (gt_M_init_21 55) (gt_M_init_21 56) rfl
theorem d_M_init_2157 : decode b_M_init 2157 = .ok (.bastore, 1) := dc_bastore (gt_M_init_21 57)
theorem d_M_init_2158 : decode b_M_init 2158 = .ok (.dup, 1) := dc_dup (gt_M_init_21 58)
theorem d_M_init_2159 : decode b_M_init 2159 = .ok (.bipush 124, 2) := dc_bipush (gt_M_init_21 59) (gt_M_init_21 60) rfl
theorem d_M_init_2161 : decode b_M_init 2161 = .ok (.bipush 95, 2) := dc_bipush (gt_M_init_21 61) (gt_M_init_21 62) rfl
theorem d_M_init_2163 : decode b_M_init 2163 = .ok (.bastore, 1) := dc_bastore (gt_M_init_21 63)
theorem d_M_init_2164 : decode b_M_init 2164 = .ok (.dup, 1) := dc_dup (gt_M_init_21 64)
theorem d_M_init_2165 : decode b_M_init 2165 = .ok (.bipush 125, 2) := dc_bipush (gt_M_init_21 65) (gt_M_init_21 66) rfl
theorem d_M_init_2167 : decode b_M_init 2167 = .ok (.bipush 110, 2) := dc_bipush (gt_M_init_21 67) (gt_M_init_21 68) rfl
theorem d_M_init_2169 : decode b_M_init 2169 = .ok (.bastore, 1) := dc_bastore (gt_M_init_21 69)
theorem d_M_init_2170 : decode b_M_init 2170 = .ok (.dup, 1) := dc_dup (gt_M_init_21 70)
theorem d_M_init_2171 : decode b_M_init 2171 = .ok (.bipush 126, 2) := dc_bipush (gt_M_init_21 71) (gt_M_init_21 72) rfl
theorem d_M_init_2173 : decode b_M_init 2173 = .ok (.bipush 117, 2) := dc_bipush (gt_M_init_21 73) (gt_M_init_21 74) rfl
theorem d_M_init_2175 : decode b_M_init 2175 = .ok (.bastore, 1) := dc_bastore (gt_M_init_21 75)
theorem d_M_init_2176 : decode b_M_init 2176 = .ok (.dup, 1) := dc_dup (gt_M_init_21 76)
theorem d_M_init_2177 : decode b_M_init 2177 = .ok (.bipush 127, 2) := dc_bipush (gt_M_init_21 77) (gt_M_init_21 78) rfl
theorem d_M_init_2179 : decode b_M_init 2179 = .ok (.bipush 109, 2) := dc_bipush (gt_M_init_21 79) (gt_M_init_21 80) rfl
theorem d_M_init_2181 : decode b_M_init 2181 = .ok (.bastore, 1) := dc_bastore (gt_M_init_21 81)
theorem d_M_init_2182 : decode b_M_init 2182 = .ok (.dup, 1) := dc_dup (gt_M_init_21 82)
theorem d_M_init_2183 : decode b_M_init 2183 = .ok (.sipush 128, 3) := dc_sipush (gt_M_init_21 83) (gt_M_init_21 84) (gt_M_init_21 85) (by decide)
theorem d_M_init_2186 : decode b_M_init 2186 = .ok (.bipush 98, 2) := dc_bipush (gt_M_init_21 86) (gt_M_init_21 87) rfl
theorem d_M_init_2188 : decode b_M_init 2188 = .ok (.bastore, 1) := dc_bastore (gt_M_init_21 88)
theorem d_M_init_2189 : decode b_M_init 2189 = .ok (.dup, 1) := dc_dup (gt_M_init_21 89)
theorem d_M_init_2190 : decode b_M_init 2190 = .ok (.sipush 129, 3) := dc_sipush (gt_M_init_21 90) (gt_M_init_21 91) (gt_M_init_21 92) (by decide)
theorem d_M_init_2193 : decode b_M_init 2193 = .ok (.bipush 101, 2) := dc_bipush (gt_M_init_21 93) (gt_M_init_21 94) rfl
theorem d_M_init_2195 : decode b_M_init 2195 = .ok (.bastore, 1) := dc_bastore (gt_M_init_21 95)
theorem d_M_init_2196 : decode b_M_init 2196 = .ok (.dup, 1) := dc_dup (gt_M_init_21 96)
theorem d_M_init_2197 : decode b_M_init 2197 = .ok (.sipush 130, 3) := dc_sipush (gt_M_init_21 97) (gt_M_init_21 98) (gt_M_init_21 99) (by decide)
theorem d_M_init_2200 : decode b_M_init 2200 = .ok (.bipush 114, 2) := dc_bipush (gt_M_init_22 0) (gt_M_init_22 1) rfl
theorem d_M_init_2202 : decode b_M_init 2202 = .ok (.bastore, 1) := dc_bastore (gt_M_init_22 2)
theorem d_M_init_2203 : decode b_M_init 2203 = .ok (.dup, 1) := dc_dup (gt_M_init_22 3)
theorem d_M_init_2204 : decode b_M_init 2204 = .ok (.sipush 131, 3) := dc_sipush (gt_M_init_22 4) (gt_M_init_22 5) (gt_M_init_22 6) (by decide)
theorem d_M_init_2207 : decode b_M_init 2207 = .ok (.iconst 1, 1) := dc_iconst_1 (gt_M_init_22 7)
theorem d_M_init_2208 : decode b_M_init 2208 = .ok (.bastore, 1) := dc_bastore (gt_M_init_22 8)
theorem d_M_init_2209 : decode b_M_init 2209 = .ok (.dup, 1) := dc_dup (gt_M_init_22 9)
theorem d_M_init_2210 : decode b_M_init 2210 = .ok (.sipush 132, 3) := dc_sipush (gt_M_init_22 10) (gt_M_init_22 11) (gt_M_init_22 12) (by decide)
theorem d_M_init_2213 : decode b_M_init 2213 = .ok (.bipush 7, 2) := dc_bipush (gt_M_init_22 13) (gt_M_init_22 14) rfl
theorem d_M_init_2215 : decode b_M_init 2215 = .ok (.bastore, 1) := dc_bastore (gt_M_init_22 15)
theorem d_M_init_2216 : decode b_M_init 2216 = .ok (.dup, 1) := dc_dup (gt_M_init_22 16)
theorem d_M_init_2217 : decode b_M_init 2217 = .ok (.sipush 133, 3) := dc_sipush (gt_M_init_22 17) (gt_M_init_22 18) (gt_M_init_22 19) (by decide)
theorem d_M_init_2220 : decode b_M_init 2220 = .ok (.bipush 105, 2) := dc_bipush (gt_M_init_22 20) (gt_M_init_22 21) rfl
theorem d_M_init_2222 : decode b_M_init 2222 = .ok (.bastore, 1) := dc_bastore (gt_M_init_22 22)
theorem d_M_init_2223 : decode b_M_init 2223 = .ok (.dup, 1) := dc_dup (gt_M_init_22 23)
theorem d_M_init_2224 : decode b_M_init 2224 = .ok (.sipush 134, 3) := dc_sipush (gt_M_init_22 24) (gt_M_init_22 25) (gt_M_init_22 26) (by decide)
theorem d_M_init_2227 : decode b_M_init 2227 = .ok (.bipush 115, 2) := dc_bipush (gt_M_init_22 27) (gt_M_init_22 28) rfl
theorem d_M_init_2229 : decode b_M_init 2229 = .ok (.bastore, 1) := dc_bastore (gt_M_init_22 29)
theorem d_M_init_2230 : decode b_M_init 2230 = .ok (.dup, 1) := dc_dup (gt_M_init_22 30)
theorem d_M_init_2231 : decode b_M_init 2231 = .ok (.sipush 135, 3) := dc_sipush (gt_M_init_22 31) (gt_M_init_22 32) (gt_M_init_22 33) (by decide)
theorem d_M_init_2234 : decode b_M_init 2234 = .ok (.bipush 95, 2) := dc_bipush (gt_M_init_22 34) (gt_M_init_22 35) rfl
theorem d_M_init_2236 : decode b_M_init 2236 = .ok (.bastore, 1) := dc_bastore (gt_M_init_22 36)
theorem d_M_init_2237 : decode b_M_init 2237 = .ok (.dup, 1) := dc_dup (gt_M_init_22 37)
theorem d_M_init_2238 : decode b_M_init 2238 = .ok (.sipush 136, 3) := dc_sipush (gt_M_init_22 38) (gt_M_init_22 39) (gt_M_init_22 40) (by decide)
theorem d_M_init_2241 : decode b_M_init 2241 = .ok (.bipush 97, 2) := dc_bipush (gt_M_init_22 41) (gt_M_init_22 42) rfl
theorem d_M_init_2243 : decode b_M_init 2243 = .ok (.bastore, 1) := dc_bastore (gt_M_init_22 43)
theorem d_M_init_2244 : decode b_M_init 2244 = .ok (.dup, 1) := dc_dup (gt_M_init_22 44)
theorem d_M_init_2245 : decode b_M_init 2245 = .ok (.sipush 137, 3) := dc_sipush (gt_M_init_22 45) (gt_M_init_22 46) (gt_M_init_22 47) (by decide)
theorem d_M_init_2248 : decode b_M_init 2248 = .ok (.bipush 116, 2) := dc_bipush (gt_M_init_22 48) (gt_M_init_22 49) rfl
theorem d_M_init_2250 : decode b_M_init 2250 = .ok (.bastore, 1) := dc_bastore (gt_M_init_22 50)
theorem d_M_init_2251 : decode b_M_init 2251 = .ok (.dup, 1) := dc_dup (gt_M_init_22 51)
theorem d_M_init_2252 : decode b_M_init 2252 = .ok (.sipush 138, 3) := dc_sipush (gt_M_init_22 52) (gt_M_init_22 53) (gt_M_init_22 54) (by decide)
theorem d_M_init_2255 : decode b_M_init 2255 = .ok (.bipush 111, 2) := dc_bipush (gt_M_init_22 55) (gt_M_init_22 56) rfl
theorem d_M_init_2257 : decode b_M_init 2257 = .ok (.bastore, 1) := dc_bastore (gt_M_init_22 57)
theorem d_M_init_2258 : decode b_M_init 2258 = .ok (.dup, 1) := dc_dup (gt_M_init_22 58)
theorem d_M_init_2259 : decode b_M_init 2259 = .ok (.sipush 139, 3) := dc_sipush (gt_M_init_22 59) (gt_M_init_22 60) (gt_M_init_22 61) (by decide)
theorem d_M_init_2262 : decode b_M_init 2262 = .ok (.bipush 109, 2) := dc_bipush (gt_M_init_22 62) (gt_M_init_22 63) rfl
theorem d_M_init_2264 : decode b_M_init 2264 = .ok (.bastore, 1) := dc_bastore (gt_M_init_22 64)
theorem d_M_init_2265 : decode b_M_init 2265 = .ok (.dup, 1) := dc_dup (gt_M_init_22 65)
theorem d_M_init_2266 : decode b_M_init 2266 = .ok (.sipush 140, 3) := dc_sipush (gt_M_init_22 66) (gt_M_init_22 67) (gt_M_init_22 68) (by decide)
theorem d_M_init_2269 : decode b_M_init 2269 = .ok (.iconst 1, 1) := dc_iconst_1 (gt_M_init_22 69)
theorem d_M_init_2270 : decode b_M_init 2270 = .ok (.bastore, 1) := dc_bastore (gt_M_init_22 70)
theorem d_M_init_2271 : decode b_M_init 2271 = .ok (.dup, 1) := dc_dup (gt_M_init_22 71)
theorem d_M_init_2272 : decode b_M_init 2272 = .ok (.sipush 141, 3) := dc_sipush (gt_M_init_22 72) (gt_M_init_22 73) (gt_M_init_22 74) (by decide)
theorem d_M_init_2275 : decode b_M_init 2275 = .ok (.bipush 7, 2) := dc_bipush (gt_M_init_22 75) (gt_M_init_22 76) rfl
theorem d_M_init_2277 : decode b_M_init 2277 = .ok (.bastore, 1) := dc_bastore (gt_M_init_22 77)
theorem d_M_init_2278 : decode b_M_init 2278 = .ok (.dup, 1) := dc_dup (gt_M_init_22 78)
theorem d_M_init_2279 : decode b_M_init 2279 = .ok (.sipush 142, 3) := dc_sipush (gt_M_init_22 79) (gt_M_init_22 80) (gt_M_init_22 81) (by decide)
theorem d_M_init_2282 : decode b_M_init 2282 = .ok (.bipush 105, 2) := dc_bipush (gt_M_init_22 82) (gt_M_init_22 83) rfl
theorem d_M_init_2284 : decode b_M_init 2284 = .ok (.bastore, 1) := dc_bastore (gt_M_init_22 84)
theorem d_M_init_2285 : decode b_M_init 2285 = .ok (.dup, 1) := dc_dup (gt_M_init_22 85)
theorem d_M_init_2286 : decode b_M_init 2286 = .ok (.sipush 143, 3) := dc_sipush (gt_M_init_22 86) (gt_M_init_22 87) (gt_M_init_22 88) (by decide)
theorem d_M_init_2289 : decode b_M_init 2289 = .ok (.bipush 115, 2) := dc_bipush (gt_M_init_22 89) (gt_M_init_22 90) rfl
theorem d_M_init_2291 : decode b_M_init 2291 = .ok (.bastore, 1) := dc_bastore (gt_M_init_22 91)
theorem d_M_init_2292 : decode b_M_init 2292 = .ok (.dup, 1) := dc_dup (gt_M_init_22 92)
theorem d_M_init_2293 : decode b_M_init 2293 = .ok (.sipush 144, 3) := dc_sipush (gt_M_init_22 93) (gt_M_init_22 94) (gt_M_init_22 95) (by decide)
theorem d_M_init_2296 : decode b_M_init 2296 = .ok (.bipush 95, 2) := dc_bipush (gt_M_init_22 96) (gt_M_init_22 97) rfl
theorem d_M_init_2298 : decode b_M_init 2298 = .ok (.bastore, 1) := dc_bastore (gt_M_init_22 98)
theorem d_M_init_2299 : decode b_M_init 2299 = .ok (.dup, 1) := dc_dup (gt_M_init_22 99)
theorem d_M_init_2300 : decode b_M_init 2300 = .ok (.sipush 145, 3) := dc_sipush (gt_M_init_23 0) (gt_M_init_23 1) (gt_M_init_23 2) (by decide)
theorem d_M_init_2303 : decode b_M_init 2303 = .ok (.bipush 108, 2) := dc_bipush (gt_M_init_23 3) (gt_M_init_23 4) rfl
theorem d_M_init_2305 : decode b_M_init 2305 = .ok (.bastore, 1) := dc_bastore (gt_M_init_23 5)
theorem d_M_init_2306 : decode b_M_init 2306 = .ok (.dup, 1) := dc_dup (gt_M_init_23 6)
theorem d_M_init_2307 : decode b_M_init 2307 = .ok (.sipush 146, 3) := dc_sipush (gt_M_init_23 7) (gt_M_init_23 8) (gt_M_init_23 9) (by decide)
theorem d_M_init_2310 : decode b_M_init 2310 = .ok (.bipush 105, 2) := dc_bipush (gt_M_init_23 10) (gt_M_init_23 11) rfl
theorem d_M_init_2312 : decode b_M_init 2312 = .ok (.bastore, 1) := dc_bastore (gt_M_init_23 12)
theorem d_M_init_2313 : decode b_M_init 2313 = .ok (.dup, 1) := dc_dup (gt_M_init_23 13)
theorem d_M_init_2314 : decode b_M_init 2314 = .ok (.sipush 147, 3) := dc_sipush (gt_M_init_23 14) (gt_M_init_23 15) (gt_M_init_23 16) (by decide)
theorem d_M_init_2317 : decode b_M_init 2317 = .ok (.bipush 115, 2) := dc_bipush (gt_M_init_23 17) (gt_M_init_23 18) rfl
theorem d_M_init_2319 : decode b_M_init 2319 = .ok (.bastore, 1) := dc_bastore (gt_M_init_23 19)
theorem d_M_init_2320 : decode b_M_init 2320 = .ok (.dup, 1) := dc_dup (gt_M_init_23 20)
theorem d_M_init_2321 : decode b_M_init 2321 = .ok (.sipush 148, 3) := dc_sipush (gt_M_init_23 21) (gt_M_init_23 22) (gt_M_init_23 23) (by decide)
theorem d_M_init_2324 : decode b_M_init 2324 = .ok (.bipush 116, 2) := dc_bipush (gt_M_init_23 24) (gt_M_init_23 25) rfl
theorem d_M_init_2326 : decode b_M_init 2326 = .ok (.bastore, 1) := dc_bastore (gt_M_init_23 26)
theorem d_M_init_2327 : decode b_M_init 2327 = .ok (.dup, 1) := dc_dup (gt_M_init_23 27)
theorem d_M_init_2328 : decode b_M_init 2328 = .ok (.sipush 149, 3) := dc_sipush (gt_M_init_23 28) (gt_M_init_23 29) (gt_M_init_23 30) (by decide)
theorem d_M_init_2331 : decode b_M_init 2331 = .ok (.iconst 1, 1) := dc_iconst_1 (gt_M_init_23 31)
theorem d_M_init_2332 : decode b_M_init 2332 = .ok (.bastore, 1) := dc_bastore (gt_M_init_23 32)
theorem d_M_init_2333 : decode b_M_init 2333 = .ok (.dup, 1) := dc_dup (gt_M_init_23 33)
theorem d_M_init_2334 : decode b_M_init 2334 = .ok (.sipush 150, 3) := dc_sipush (gt_M_init_23 34) (gt_M_init_23 35) (gt_M_init_23 36) (by decide)
theorem d_M_init_2337 : decode b_M_init 2337 = .ok (.bipush 8, 2) := dc_bipush (gt_M_init_23 37) (gt_M_init_23 38) rfl
theorem d_M_init_2339 : decode b_M_init 2339 = .ok (.bastore, 1) := dc_bastore (gt_M_init_23 39)
theorem d_M_init_2340 : decode b_M_init 2340 = .ok (.dup, 1) := dc_dup (gt_M_init_23 40)
theorem d_M_init_2341 : decode b_M_init 2341 = .ok (.sipush 151, 3) := dc_sipush (gt_M_init_23 41) (gt_M_init_23 42) (gt_M_init_23 43) (by decide)
theorem d_M_init_2344 : decode b_M_init 2344 = .ok (.bipush 105, 2) := dc_bipush (gt_M_init_23 44) (gt_M_init_23 45) rfl
theorem d_M_init_2346 : decode b_M_init 2346 = .ok (.bastore, 1) := dc_bastore (gt_M_init_23 46)
theorem d_M_init_2347 : decode b_M_init 2347 = .ok (.dup, 1) := dc_dup (gt_M_init_23 47)
theorem d_M_init_2348 : decode b_M_init 2348 = .ok (.sipush 152, 3) := dc_sipush (gt_M_init_23 48) (gt_M_init_23 49) (gt_M_init_23 50) (by decide)
theorem d_M_init_2351 : decode b_M_init 2351 = .ok (.bipush 115, 2) := dc_bipush (gt_M_init_23 51) (gt_M_init_23 52) rfl
theorem d_M_init_2353 : decode b_M_init 2353 = .ok (.bastore, 1) := dc_bastore (gt_M_init_23 53)
theorem d_M_init_2354 : decode b_M_init 2354 = .ok (.dup, 1) := dc_dup (gt_M_init_23 54)
theorem d_M_init_2355 : decode b_M_init 2355 = .ok (.sipush 153, 3) := dc_sipush (gt_M_init_23 55) (gt_M_init_23 56) (gt_M_init_23 57) (by decide)
theorem d_M_init_2358 : decode b_M_init 2358 = .ok (.bipush 95, 2) := dc_bipush (gt_M_init_23 58) (gt_M_init_23 59) rfl
theorem d_M_init_2360 : decode b_M_init 2360 = .ok (.bastore, 1) := dc_bastore (gt_M_init_23 60)
theorem d_M_init_2361 : decode b_M_init 2361 = .ok (.dup, 1) := dc_dup (gt_M_init_23 61)
theorem d_M_init_2362 : decode b_M_init 2362 = .ok (.sipush 154, 3) := dc_sipush (gt_M_init_23 62) (gt_M_init_23 63) (gt_M_init_23 64) (by decide)
theorem d_M_init_2365 : decode b_M_init 2365 = .ok (.bipush 116, 2) := dc_bipush (gt_M_init_23 65) (gt_M_init_23 66) rfl
theorem d_M_init_2367 : decode b_M_init 2367 = .ok (.bastore, 1) := dc_bastore (gt_M_init_23 67)
theorem d_M_init_2368 : decode b_M_init 2368 = .ok (.dup, 1) := dc_dup (gt_M_init_23 68)
theorem d_M_init_2369 : decode b_M_init 2369 = .ok (.sipush 155, 3) := dc_sipush (gt_M_init_23 69) (gt_M_init_23 70) (gt_M_init_23 71) (by decide)
theorem d_M_init_2372 : decode b_M_init 2372 = .ok (.bipush 117, 2) := dc_bipush (gt_M_init_23 72) (gt_M_init_23 73) rfl
theorem d_M_init_2374 : decode b_M_init 2374 = .ok (.bastore, 1) := dc_bastore (gt_M_init_23 74)
theorem d_M_init_2375 : decode b_M_init 2375 = .ok (.dup, 1) := dc_dup (gt_M_init_23 75)
theorem d_M_init_2376 : decode b_M_init 2376 = .ok (.sipush 156, 3) := dc_sipush (gt_M_init_23 76) (gt_M_init_23 77) (gt_M_init_23 78) (by decide)
theorem d_M_init_2379 : decode b_M_init 2379 = .ok (.bipush 112, 2) := dc_bipush (gt_M_init_23 79) (gt_M_init_23 80) rfl
theorem d_M_init_2381 : decode b_M_init 2381 = .ok (.bastore, 1) := dc_bastore (gt_M_init_23 81)
theorem d_M_init_2382 : decode b_M_init 2382 = .ok (.dup, 1) := dc_dup (gt_M_init_23 82)
theorem d_M_init_2383 : decode b_M_init 2383 = .ok (.sipush 157, 3) := dc_sipush (gt_M_init_23 83) (gt_M_init_23 84) (gt_M_init_23 85) (by decide)
theorem d_M_init_2386 : decode b_M_init 2386 = .ok (.bipush 108, 2) := dc_bipush (gt_M_init_23 86) (gt_M_init_23 87) rfl
theorem d_M_init_2388 : decode b_M_init 2388 = .ok (.bastore, 1) := dc_bastore (gt_M_init_23 88)
theorem d_M_init_2389 : decode b_M_init 2389 = .ok (.dup, 1) := dc_dup (gt_M_init_23 89)
theorem d_M_init_2390 : decode b_M_init 2390 = .ok (.sipush 158, 3) := dc_sipush (gt_M_init_23 90) (gt_M_init_23 91) (gt_M_init_23 92) (by decide)
theorem d_M_init_2393 : decode b_M_init 2393 = .ok (.bipush 101, 2) := dc_bipush (gt_M_init_23 93) (gt_M_init_23 94) rfl
theorem d_M_init_2395 : decode b_M_init 2395 = .ok (.bastore, 1) := dc_bastore (gt_M_init_23 95)
theorem d_M_init_2396 : decode b_M_init 2396 = .ok (.dup, 1) := dc_dup (gt_M_init_23 96)
theorem d_M_init_2397 : decode b_M_init 2397 = .ok (.sipush 159, 3) := dc_sipush (gt_M_init_23 97) (gt_M_init_23 98) (gt_M_init_23 99) (by decide)
theorem d_M_init_2400 : decode b_M_init 2400 = .ok (.iconst 1, 1) := dc_iconst_1 (gt_M_init_24 0)
theorem d_M_init_2401 : decode b_M_init 2401 = .ok (.bastore, 1) := dc_bastore (gt_M_init_24 1)
theorem d_M_init_2402 : decode b_M_init 2402 = .ok (.dup, 1) := dc_dup (gt_M_init_24 2)
theorem d_M_init_2403 : decode b_M_init 2403 = .ok (.sipush 160, 3) := dc_sipush (gt_M_init_24 3) (gt_M_init_24 4) (gt_M_init_24 5) (by decide)
theorem d_M_init_2406 : decode b_M_init 2406 = .ok (.bipush 6, 2) := dc_bipush (gt_M_init_24 6) (gt_M_init_24 7) rfl
theorem d_M_init_2408 : decode b_M_init 2408 = .ok (.bastore, 1) := dc_bastore (gt_M_init_24 8)
theorem d_M_init_2409 : decode b_M_init 2409 = .ok (.dup, 1) := dc_dup (gt_M_init_24 9)
theorem d_M_init_2410 : decode b_M_init 2410 = .ok (.sipush 161, 3) := dc_sipush (gt_M_init_24 10) (gt_M_init_24 11) (gt_M_init_24 12) (by decide)
theorem d_M_init_2413 : decode b_M_init 2413 = .ok (.bipush 105, 2) := dc_bipush (gt_M_init_24 13) (gt_M_init_24 14) rfl
theorem d_M_init_2415 : decode b_M_init 2415 = .ok (.bastore, 1) := dc_bastore (gt_M_init_24 15)
theorem d_M_init_2416 : decode b_M_init 2416 = .ok (.dup, 1) := dc_dup (gt_M_init_24 16)
theorem d_M_init_2417 : decode b_M_init 2417 = .ok (.sipush 162, 3) := dc_sipush (gt_M_init_24 17) (gt_M_init_24 18) (gt_M_init_24 19) (by decide)
theorem d_M_init_2420 : decode b_M_init 2420 = .ok (.bipush 115, 2) := dc_bipush (gt_M_init_24 20) (gt_M_init_24 21) rfl
theorem d_M_init_2422 : decode b_M_init 2422 = .ok (.bastore, 1) := dc_bastore (gt_M_init_24 22)
theorem d_M_init_2423 : decode b_M_init 2423 = .ok (.dup, 1) := dc_dup (gt_M_init_24 23)
theorem d_M_init_2424 : decode b_M_init 2424 = .ok (.sipush 163, 3) := dc_sipush (gt_M_init_24 24) (gt_M_init_24 25) (gt_M_init_24 26) (by decide)
theorem d_M_init_2427 : decode b_M_init 2427 = .ok (.bipush 95, 2) := dc_bipush (gt_M_init_24 27) (gt_M_init_24 28) rfl
theorem d_M_init_2429 : decode b_M_init 2429 = .ok (.bastore, 1) := dc_bastore (gt_M_init_24 29)
theorem d_M_init_2430 : decode b_M_init 2430 = .ok (.dup, 1) := dc_dup (gt_M_init_24 30)
theorem d_M_init_2431 : decode b_M_init 2431 = .ok (.sipush 164, 3) := dc_sipush (gt_M_init_24 31) (gt_M_init_24 32) (gt_M_init_24 33) (by decide)
theorem d_M_init_2434 : decode b_M_init 2434 = .ok (.bipush 102, 2) := dc_bipush (gt_M_init_24 34) (gt_M_init_24 35) rfl
theorem d_M_init_2436 : decode b_M_init 2436 = .ok (.bastore, 1) := dc_bastore (gt_M_init_24 36)
theorem d_M_init_2437 : decode b_M_init 2437 = .ok (.dup, 1) := dc_dup (gt_M_init_24 37)
theorem d_M_init_2438 : decode b_M_init 2438 = .ok (.sipush 165, 3) := dc_sipush (gt_M_init_24 38) (gt_M_init_24 39) (gt_M_init_24 40) (by decide)
theorem d_M_init_2441 : decode b_M_init 2441 = .ok (.bipush 117, 2) := dc_bipush (gt_M_init_24 41) (gt_M_init_24 42) rfl
theorem d_M_init_2443 : decode b_M_init 2443 = .ok (.bastore, 1) := dc_bastore (gt_M_init_24 43)
theorem d_M_init_2444 : decode b_M_init 2444 = .ok (.dup, 1) := dc_dup (gt_M_init_24 44)
theorem d_M_init_2445 : decode b_M_init 2445 = .ok (.sipush 166, 3) := dc_sipush (gt_M_init_24 45) (gt_M_init_24 46) (gt_M_init_24 47) (by decide)
theorem d_M_init_2448 : decode b_M_init 2448 = .ok (.bipush 110, 2) := dc_bipush (gt_M_init_24 48) (gt_M_init_24 49) rfl
theorem d_M_init_2450 : decode b_M_init 2450 = .ok (.bastore, 1) := dc_bastore (gt_M_init_24 50)
theorem d_M_init_2451 : decode b_M_init 2451 = .ok (.dup, 1) := dc_dup (gt_M_init_24 51)
theorem d_M_init_2452 : decode b_M_init 2452 = .ok (.sipush 167, 3) := dc_sipush (gt_M_init_24 52) (gt_M_init_24 53) (gt_M_init_24 54) (by decide)
theorem d_M_init_2455 : decode b_M_init 2455 = .ok (.iconst 1, 1) := dc_iconst_1 (gt_M_init_24 55)
theorem d_M_init_2456 : decode b_M_init 2456 = .ok (.bastore, 1) := dc_bastore (gt_M_init_24 56)
theorem d_M_init_2457 : decode b_M_init 2457 = .ok (.dup, 1) := dc_dup (gt_M_init_24 57)
theorem d_M_init_2458 : decode b_M_init 2458 = .ok (.sipush 168, 3) := dc_sipush (gt_M_init_24 58) (gt_M_init_24 59) (gt_M_init_24 60) (by decide)
theorem d_M_init_2461 : decode b_M_init 2461 = .ok (.bipush 10, 2) := dc_bipush (gt_M_init_24 61) (gt_M_init_24 62) rfl
theorem d_M_init_2463 : decode b_M_init 2463 = .ok (.bastore, 1) := dc_bastore (gt_M_init_24 63)
theorem d_M_init_2464 : decode b_M_init 2464 = .ok (.dup, 1) := dc_dup (gt_M_init_24 64)
theorem d_M_init_2465 : decode b_M_init 2465 = .ok (.sipush 169, 3) := dc_sipush (gt_M_init_24 65) (gt_M_init_24 66) (gt_M_init_24 67) (by decide)
theorem d_M_init_2468 : decode b_M_init 2468 = .ok (.bipush 105, 2) := dc_bipush (gt_M_init_24 68) (gt_M_init_24 69) rfl
theorem d_M_init_2470 : decode b_M_init 2470 = .ok (.bastore, 1) := dc_bastore (gt_M_init_24 70)
theorem d_M_init_2471 : decode b_M_init 2471 = .ok (.dup, 1) := dc_dup (gt_M_init_24 71)
theorem d_M_init_2472 : decode b_M_init 2472 = .ok (.sipush 170, 3) := dc_sipush (gt_M_init_24 72) (gt_M_init_24 73) (gt_M_init_24 74) (by decide)
theorem d_M_init_2475 : decode b_M_init 2475 = .ok (.bipush 115, 2) := dc_bipush (gt_M_init_24 75) (gt_M_init_24 76) rfl
theorem d_M_init_2477 : decode b_M_init 2477 = .ok (.bastore, 1) := dc_bastore (gt_M_init_24 77)
theorem d_M_init_2478 : decode b_M_init 2478 = .ok (.dup, 1) := dc_dup (gt_M_init_24 78)
theorem d_M_init_2479 : decode b_M_init 2479 = .ok (.sipush 171, 3) := dc_sipush (gt_M_init_24 79) (gt_M_init_24 80) (gt_M_init_24 81) (by decide)
theorem d_M_init_2482 : decode b_M_init 2482 = .ok (.bipush 95, 2) := dc_bipush (gt_M_init_24 82) (gt_M_init_24 83) rfl
theorem d_M_init_2484 : decode b_M_init 2484 = .ok (.bastore, 1) := dc_bastore (gt_M_init_24 84)
theorem d_M_init_2485 : decode b_M_init 2485 = .ok (.dup, 1) := dc_dup (gt_M_init_24 85)
theorem d_M_init_2486 : decode b_M_init 2486 = .ok (.sipush 172, 3) := dc_sipush (gt_M_init_24 86) (gt_M_init_24 87) (gt_M_init_24 88) (by decide)
theorem d_M_init_2489 : decode b_M_init 2489 = .ok (.bipush 112, 2) := dc_bipush (gt_M_init_24 89) (gt_M_init_24 90) rfl
theorem d_M_init_2491 : decode b_M_init 2491 = .ok (.bastore, 1) := dc_bastore (gt_M_init_24 91)
theorem d_M_init_2492 : decode b_M_init 2492 = .ok (.dup, 1) := dc_dup (gt_M_init_24 92)
theorem d_M_init_2493 : decode b_M_init 2493 = .ok (.sipush 173, 3) := dc_sipush (gt_M_init_24 93) (gt_M_init_24 94) (gt_M_init_24 95) (by decide)
theorem d_M_init_2496 : decode b_M_init 2496 = .ok (.bipush 114, 2) := dc_bipush (gt_M_init_24 96) (gt_M_init_24 97) rfl
theorem d_M_init_2498 : decode b_M_init 2498 = .ok (.bastore, 1) := dc_bastore (gt_M_init_24 98)
theorem d_M_init_2499 : decode b_M_init 2499 = .ok (.dup, 1) := dc_dup (gt_M_init_24 99)
theorem d_M_init_2500 : decode b_M_init 2500 = .ok (.sipush 174, 3) := dc_sipush (gt_M_init_25 0) (gt_M_init_25 1) (gt_M_init_25 2) (by decide)
theorem d_M_init_2503 : decode b_M_init 2503 = .ok (.bipush 111, 2) := dc_bipush (gt_M_init_25 3) (gt_M_init_25 4) rfl
theorem d_M_init_2505 : decode b_M_init 2505 = .ok (.bastore, 1) := dc_bastore (gt_M_init_25 5)
theorem d_M_init_2506 : decode b_M_init 2506 = .ok (.dup, 1) := dc_dup (gt_M_init_25 6)
theorem d_M_init_2507 : decode b_M_init 2507 = .ok (.sipush 175, 3) := dc_sipush (gt_M_init_25 7) (gt_M_init_25 8) (gt_M_init_25 9) (by decide)
theorem d_M_init_2510 : decode b_M_init 2510 = .ok (.bipush 99, 2) := dc_bipush (gt_M_init_25 10) (gt_M_init_25 11) rfl
theorem d_M_init_2512 : decode b_M_init 2512 = .ok (.bastore, 1) := dc_bastore (gt_M_init_25 12)
theorem d_M_init_2513 : decode b_M_init 2513 = .ok (.dup, 1) := dc_dup (gt_M_init_25 13)
theorem d_M_init_2514 : decode b_M_init 2514 = .ok (.sipush 176, 3) := dc_sipush (gt_M_init_25 14) (gt_M_init_25 15) (gt_M_init_25 16) (by decide)
theorem d_M_init_2517 : decode b_M_init 2517 = .ok (.bipush 101, 2) := dc_bipush (gt_M_init_25 17) (gt_M_init_25 18) rfl
theorem d_M_init_2519 : decode b_M_init 2519 = .ok (.bastore, 1) := dc_bastore (gt_M_init_25 19)
theorem d_M_init_2520 : decode b_M_init 2520 = .ok (.dup, 1) := dc_dup (gt_M_init_25 20)
theorem d_M_init_2521 : decode b_M_init 2521 = .ok (.sipush 177, 3) := dc_sipush (gt_M_init_25 21) (gt_M_init_25 22) (gt_M_init_25 23) (by decide)
theorem d_M_init_2524 : decode b_M_init 2524 = .ok (.bipush 115, 2) := dc_bipush (gt_M_init_25 24) (gt_M_init_25 25) rfl
theorem d_M_init_2526 : decode b_M_init 2526 = .ok (.bastore, 1) := dc_bastore (gt_M_init_25 26)
theorem d_M_init_2527 : decode b_M_init 2527 = .ok (.dup, 1) := dc_dup (gt_M_init_25 27)
theorem d_M_init_2528 : decode b_M_init 2528 = .ok (.sipush 178, 3) := dc_sipush (gt_M_init_25 28) (gt_M_init_25 29) (gt_M_init_25 30) (by decide)
theorem d_M_init_2531 : decode b_M_init 2531 = .ok (.bipush 115, 2) := dc_bipush (gt_M_init_25 31) (gt_M_init_25 32) rfl
theorem d_M_init_2533 : decode b_M_init 2533 = .ok (.bastore, 1) := dc_bastore (gt_M_init_25 33)
theorem d_M_init_2534 : decode b_M_init 2534 = .ok (.dup, 1) := dc_dup (gt_M_init_25 34)
theorem d_M_init_2535 : decode b_M_init 2535 = .ok (.sipush 179, 3) := dc_sipush (gt_M_init_25 35) (gt_M_init_25 36) (gt_M_init_25 37) (by decide)
theorem d_M_init_2538 : decode b_M_init 2538 = .ok (.iconst 1, 1) := dc_iconst_1 (gt_M_init_25 38)
theorem d_M_init_2539 : decode b_M_init 2539 = .ok (.bastore, 1) := dc_bastore (gt_M_init_25 39)
theorem d_M_init_2540 : decode b_M_init 2540 = .ok (.dup, 1) := dc_dup (gt_M_init_25 40)
theorem d_M_init_2541 : decode b_M_init 2541 = .ok (.sipush 180, 3) := dc_sipush (gt_M_init_25 41) (gt_M_init_25 42) (gt_M_init_25 43) (by decide)
theorem d_M_init_2544 : decode b_M_init 2544 = .ok (.bipush 6, 2) := dc_bipush (gt_M_init_25 44) (gt_M_init_25 45) rfl
theorem d_M_init_2546 : decode b_M_init 2546 = .ok (.bastore, 1) := dc_bastore (gt_M_init_25 46)
theorem d_M_init_2547 : decode b_M_init 2547 = .ok (.dup, 1) := dc_dup (gt_M_init_25 47)
theorem d_M_init_2548 : decode b_M_init 2548 = .ok (.sipush 181, 3) := dc_sipush (gt_M_init_25 48) (gt_M_init_25 49) (gt_M_init_25 50) (by decide)
theorem d_M_init_2551 : decode b_M_init 2551 = .ok (.bipush 105, 2) := dc_bipush (gt_M_init_25 51) (gt_M_init_25 52) rfl
theorem d_M_init_2553 : decode b_M_init 2553 = .ok (.bastore, 1) := dc_bastore (gt_M_init_25 53)
theorem d_M_init_2554 : decode b_M_init 2554 = .ok (.dup, 1) := dc_dup (gt_M_init_25 54)
theorem d_M_init_2555 : decode b_M_init 2555 = .ok (.sipush 182, 3) := dc_sipush (gt_M_init_25 55) (gt_M_init_25 56) (gt_M_init_25 57) (by decide)
theorem d_M_init_2558 : decode b_M_init 2558 = .ok (.bipush 115, 2) := dc_bipush (gt_M_init_25 58) (gt_M_init_25 59) rfl
theorem d_M_init_2560 : decode b_M_init 2560 = .ok (.bastore, 1) := dc_bastore (gt_M_init_25 60)
theorem d_M_init_2561 : decode b_M_init 2561 = .ok (.dup, 1) := dc_dup (gt_M_init_25 61)
theorem d_M_init_2562 : decode b_M_init 2562 = .ok (.sipush 183, 3) := dc_sipush (gt_M_init_25 62) (gt_M_init_25 63) (gt_M_init_25 64) (by decide)
theorem d_M_init_2565 : decode b_M_init 2565 = .ok (.bipush 95, 2) := dc_bipush (gt_M_init_25 65) (gt_M_init_25 66) rfl
theorem d_M_init_2567 : decode b_M_init 2567 = .ok (.bastore, 1) := dc_bastore (gt_M_init_25 67)
theorem d_M_init_2568 : decode b_M_init 2568 = .ok (.dup, 1) := dc_dup (gt_M_init_25 68)
theorem d_M_init_2569 : decode b_M_init 2569 = .ok (.sipush 184, 3) := dc_sipush (gt_M_init_25 69) (gt_M_init_25 70) (gt_M_init_25 71) (by decide)
theorem d_M_init_2572 : decode b_M_init 2572 = .ok (.bipush 114, 2) := dc_bipush (gt_M_init_25 72) (gt_M_init_25 73) rfl
theorem d_M_init_2574 : decode b_M_init 2574 = .ok (.bastore, 1) := dc_bastore (gt_M_init_25 74)
theorem d_M_init_2575 : decode b_M_init 2575 = .ok (.dup, 1) := dc_dup (gt_M_init_25 75)
theorem d_M_init_2576 : decode b_M_init 2576 = .ok (.sipush 185, 3) := dc_sipush (gt_M_init_25 76) (gt_M_init_25 77) (gt_M_init_25 78) (by decide)
theorem d_M_init_2579 : decode b_M_init 2579 = .ok (.bipush 101, 2) := dc_bipush (gt_M_init_25 79) (gt_M_init_25 80) rfl
theorem d_M_init_2581 : decode b_M_init 2581 = .ok (.bastore, 1) := dc_bastore (gt_M_init_25 81)
theorem d_M_init_2582 : decode b_M_init 2582 = .ok (.dup, 1) := dc_dup (gt_M_init_25 82)
theorem d_M_init_2583 : decode b_M_init 2583 = .ok (.sipush 186, 3) := dc_sipush (gt_M_init_25 83) (gt_M_init_25 84) (gt_M_init_25 85) (by decide)
theorem d_M_init_2586 : decode b_M_init 2586 = .ok (.bipush 102, 2) := dc_bipush (gt_M_init_25 86) (gt_M_init_25 87) rfl
theorem d_M_init_2588 : decode b_M_init 2588 = .ok (.bastore, 1) := dc_bastore (gt_M_init_25 88)
theorem d_M_init_2589 : decode b_M_init 2589 = .ok (.dup, 1) := dc_dup (gt_M_init_25 89)
theorem d_M_init_2590 : decode b_M_init 2590 = .ok (.sipush 187, 3) := dc_sipush (gt_M_init_25 90) (gt_M_init_25 91) (gt_M_init_25 92) (by decide)
theorem d_M_init_2593 : decode b_M_init 2593 = .ok (.iconst 1, 1) := dc_iconst_1 (gt_M_init_25 93)
theorem d_M_init_2594 : decode b_M_init 2594 = .ok (.bastore, 1) := dc_bastore (gt_M_init_25 94)
theorem d_M_init_2595 : decode b_M_init 2595 = .ok (.dup, 1) := dc_dup (gt_M_init_25 95)
theorem d_M_init_2596 : decode b_M_init 2596 = .ok (.sipush 188, 3) := dc_sipush (gt_M_init_25 96) (gt_M_init_25 97) (gt_M_init_25 98) (by decide)
theorem d_M_init_2599 : decode b_M_init 2599 = .ok (.iconst 2, 1) := dc_iconst_2 (gt_M_init_25 99)
theorem d_M_init_2600 : decode b_M_init 2600 = .ok (.bastore, 1) := dc_bastore (gt_M_init_26 0)
theorem d_M_init_2601 : decode b_M_init 2601 = .ok (.dup, 1) := dc_dup (gt_M_init_26 1)
theorem d_M_init_2602 : decode b_M_init 2602 = .ok (.sipush 189, 3) := dc_sipush (gt_M_init_26 2) (gt_M_init_26 3) (gt_M_init_26 4) (by decide)
theorem d_M_init_2605 : decode b_M_init 2605 = .ok (.bipush 104, 2) := dc_bipush (gt_M_init_26 5) (gt_M_init_26 6) rfl
theorem d_M_init_2607 : decode b_M_init 2607 = .ok (.bastore, 1) := dc_bastore (gt_M_init_26 7)
theorem d_M_init_2608 : decode b_M_init 2608 = .ok (.dup, 1) := dc_dup (gt_M_init_26 8)
theorem d_M_init_2609 : decode b_M_init 2609 = .ok (.sipush 190, 3) := dc_sipush (gt_M_init_26 9) (gt_M_init_26 10) (gt_M_init_26 11) (by decide)
theorem d_M_init_2612 : decode b_M_init 2612 = .ok (.bipush 100, 2) := dc_bipush (gt_M_init_26 12) (gt_M_init_26 13) rfl
theorem d_M_init_2614 : decode b_M_init 2614 = .ok (.bastore, 1) := dc_bastore (gt_M_init_26 14)
theorem d_M_init_2615 : decode b_M_init 2615 = .ok (.dup, 1) := dc_dup (gt_M_init_26 15)
theorem d_M_init_2616 : decode b_M_init 2616 = .ok (.sipush 191, 3) := dc_sipush (gt_M_init_26 16) (gt_M_init_26 17) (gt_M_init_26 18) (by decide)
theorem d_M_init_2619 : decode b_M_init 2619 = .ok (.iconst 1, 1) := dc_iconst_1 (gt_M_init_26 19)
theorem d_M_init_2620 : decode b_M_init 2620 = .ok (.bastore, 1) := dc_bastore (gt_M_init_26 20)
theorem d_M_init_2621 : decode b_M_init 2621 = .ok (.dup, 1) := dc_dup (gt_M_init_26 21)
theorem d_M_init_2622 : decode b_M_init 2622 = .ok (.sipush 192, 3) := dc_sipush (gt_M_init_26 22) (gt_M_init_26 23) (gt_M_init_26 24) (by decide)
theorem d_M_init_2625 : decode b_M_init 2625 = .ok (.iconst 2, 1) := dc_iconst_2 (gt_M_init_26 25)
theorem d_M_init_2626 : decode b_M_init 2626 = .ok (.bastore, 1) := dc_bastore (gt_M_init_26 26)
theorem d_M_init_2627 : decode b_M_init 2627 = .ok (.dup, 1) := dc_dup (gt_M_init_26 27)
theorem d_M_init_2628 : decode b_M_init 2628 = .ok (.sipush 193, 3) := dc_sipush (gt_M_init_26 28) (gt_M_init_26 29) (gt_M_init_26 30) (by decide)
theorem d_M_init_2631 : decode b_M_init 2631 = .ok (.bipush 116, 2) := dc_bipush (gt_M_init_26 31) (gt_M_init_26 32) rfl
theorem d_M_init_2633 : decode b_M_init 2633 = .ok (.bastore, 1) := dc_bastore (gt_M_init_26 33)
theorem d_M_init_2634 : decode b_M_init 2634 = .ok (.dup, 1) := dc_dup (gt_M_init_26 34)
theorem d_M_init_2635 : decode b_M_init 2635 = .ok (.sipush 194, 3) := dc_sipush (gt_M_init_26 35) (gt_M_init_26 36) (gt_M_init_26 37) (by decide)
theorem d_M_init_2638 : decode b_M_init 2638 = .ok (.bipush 108, 2) := dc_bipush (gt_M_init_26 38) (gt_M_init_26 39) rfl
theorem d_M_init_2640 : decode b_M_init 2640 = .ok (.bastore, 1) := dc_bastore (gt_M_init_26 40)
theorem d_M_init_2641 : decode b_M_init 2641 = .ok (.dup, 1) := dc_dup (gt_M_init_26 41)
theorem d_M_init_2642 : decode b_M_init 2642 = .ok (.sipush 195, 3) := dc_sipush (gt_M_init_26 42) (gt_M_init_26 43) (gt_M_init_26 44) (by decide)
theorem d_M_init_2645 : decode b_M_init 2645 = .ok (.iconst 1, 1) := dc_iconst_1 (gt_M_init_26 45)
theorem d_M_init_2646 : decode b_M_init 2646 = .ok (.bastore, 1) := dc_bastore (gt_M_init_26 46)
theorem d_M_init_2647 : decode b_M_init 2647 = .ok (.dup, 1) := dc_dup (gt_M_init_26 47)
theorem d_M_init_2648 : decode b_M_init 2648 = .ok (.sipush 196, 3) := dc_sipush (gt_M_init_26 48) (gt_M_init_26 49) (gt_M_init_26 50) (by decide)
theorem d_M_init_2651 : decode b_M_init 2651 = .ok (.bipush 6, 2) := dc_bipush (gt_M_init_26 51) (gt_M_init_26 52) rfl
theorem d_M_init_2653 : decode b_M_init 2653 = .ok (.bastore, 1) := dc_bastore (gt_M_init_26 53)
theorem d_M_init_2654 : decode b_M_init 2654 = .ok (.dup, 1) := dc_dup (gt_M_init_26 54)
theorem d_M_init_2655 : decode b_M_init 2655 = .ok (.sipush 197, 3) := dc_sipush (gt_M_init_26 55) (gt_M_init_26 56) (gt_M_init_26 57) (by decide)
theorem d_M_init_2658 : decode b_M_init 2658 = .ok (.bipush 108, 2) := dc_bipush (gt_M_init_26 58) (gt_M_init_26 59) rfl
theorem d_M_init_2660 : decode b_M_init 2660 = .ok (.bastore, 1) := dc_bastore (gt_M_init_26 60)
theorem d_M_init_2661 : decode b_M_init 2661 = .ok (.dup, 1) := dc_dup (gt_M_init_26 61)
theorem d_M_init_2662 : decode b_M_init 2662 = .ok (.sipush 198, 3) := dc_sipush (gt_M_init_26 62) (gt_M_init_26 63) (gt_M_init_26 64) (by decide)
theorem d_M_init_2665 : decode b_M_init 2665 = .ok (.bipush 101, 2) := dc_bipush (gt_M_init_26 65) (gt_M_init_26 66) rfl
theorem d_M_init_2667 : decode b_M_init 2667 = .ok (.bastore, 1) := dc_bastore (gt_M_init_26 67)
theorem d_M_init_2668 : decode b_M_init 2668 = .ok (.dup, 1) := dc_dup (gt_M_init_26 68)
theorem d_M_init_2669 : decode b_M_init 2669 = .ok (.sipush 199, 3) := dc_sipush (gt_M_init_26 69) (gt_M_init_26 70) (gt_M_init_26 71) (by decide)
theorem d_M_init_2672 : decode b_M_init 2672 = .ok (.bipush 110, 2) := dc_bipush (gt_M_init_26 72) (gt_M_init_26 73) rfl
theorem d_M_init_2674 : decode b_M_init 2674 = .ok (.bastore, 1) := dc_bastore (gt_M_init_26 74)
theorem d_M_init_2675 : decode b_M_init 2675 = .ok (.dup, 1) := dc_dup (gt_M_init_26 75)
theorem d_M_init_2676 : decode b_M_init 2676 = .ok (.sipush 200, 3) := dc_sipush (gt_M_init_26 76) (gt_M_init_26 77) (gt_M_init_26 78) (by decide)
theorem d_M_init_2679 : decode b_M_init 2679 = .ok (.bipush 103, 2) := dc_bipush (gt_M_init_26 79) (gt_M_init_26 80) rfl
theorem d_M_init_2681 : decode b_M_init 2681 = .ok (.bastore, 1) := dc_bastore (gt_M_init_26 81)
theorem d_M_init_2682 : decode b_M_init 2682 = .ok (.dup, 1) := dc_dup (gt_M_init_26 82)
theorem d_M_init_2683 : decode b_M_init 2683 = .ok (.sipush 201, 3) := dc_sipush (gt_M_init_26 83) (gt_M_init_26 84) (gt_M_init_26 85) (by decide)
theorem d_M_init_2686 : decode b_M_init 2686 = .ok (.bipush 116, 2) := dc_bipush (gt_M_init_26 86) (gt_M_init_26 87) rfl
theorem d_M_init_2688 : decode b_M_init 2688 = .ok (.bastore, 1) := dc_bastore (gt_M_init_26 88)
theorem d_M_init_2689 : decode b_M_init 2689 = .ok (.dup, 1) := dc_dup (gt_M_init_26 89)
theorem d_M_init_2690 : decode b_M_init 2690 = .ok (.sipush 202, 3) := dc_sipush (gt_M_init_26 90) (gt_M_init_26 91) (gt_M_init_26 92) (by decide)
theorem d_M_init_2693 : decode b_M_init 2693 = .ok (.bipush 104, 2) := dc_bipush (gt_M_init_26 93) (gt_M_init_26 94) rfl
theorem d_M_init_2695 : decode b_M_init 2695 = .ok (.bastore, 1) := dc_bastore (gt_M_init_26 95)
theorem d_M_init_2696 : decode b_M_init 2696 = .ok (.dup, 1) := dc_dup (gt_M_init_26 96)
theorem d_M_init_2697 : decode b_M_init 2697 = .ok (.sipush 203, 3) := dc_sipush (gt_M_init_26 97) (gt_M_init_26 98) (gt_M_init_26 99) (by decide)
theorem d_M_init_2700 : decode b_M_init 2700 = .ok (.iconst 2, 1) := dc_iconst_2 (gt_M_init_27 0)
theorem d_M_init_2701 : decode b_M_init 2701 = .ok (.bastore, 1) := dc_bastore (gt_M_init_27 1)
theorem d_M_init_2702 : decode b_M_init 2702 = .ok (.dup, 1) := dc_dup (gt_M_init_27 2)
theorem d_M_init_2703 : decode b_M_init 2703 = .ok (.sipush 204, 3) := dc_sipush (gt_M_init_27 3) (gt_M_init_27 4) (gt_M_init_27 5) (by decide)
theorem d_M_init_2706 : decode b_M_init 2706 = .ok (.bipush 7, 2) := dc_bipush (gt_M_init_27 6) (gt_M_init_27 7) rfl
theorem d_M_init_2708 : decode b_M_init 2708 = .ok (.bastore, 1) := dc_bastore (gt_M_init_27 8)
theorem d_M_init_2709 : decode b_M_init 2709 = .ok (.dup, 1) := dc_dup (gt_M_init_27 9)
theorem d_M_init_2710 : decode b_M_init 2710 = .ok (.sipush 205, 3) := dc_sipush (gt_M_init_27 10) (gt_M_init_27 11) (gt_M_init_27 12) (by decide)
theorem d_M_init_2713 : decode b_M_init 2713 = .ok (.bipush 101, 2) := dc_bipush (gt_M_init_27 13) (gt_M_init_27 14) rfl
theorem d_M_init_2715 : decode b_M_init 2715 = .ok (.bastore, 1) := dc_bastore (gt_M_init_27 15)
theorem d_M_init_2716 : decode b_M_init 2716 = .ok (.dup, 1) := dc_dup (gt_M_init_27 16)
theorem d_M_init_2717 : decode b_M_init 2717 = .ok (.sipush 206, 3) := dc_sipush (gt_M_init_27 17) (gt_M_init_27 18) (gt_M_init_27 19) (by decide)
theorem d_M_init_2720 : decode b_M_init 2720 = .ok (.bipush 108, 2) := dc_bipush (gt_M_init_27 20) (gt_M_init_27 21) rfl
theorem d_M_init_2722 : decode b_M_init 2722 = .ok (.bastore, 1) := dc_bastore (gt_M_init_27 22)
theorem d_M_init_2723 : decode b_M_init 2723 = .ok (.dup, 1) := dc_dup (gt_M_init_27 23)
theorem d_M_init_2724 : decode b_M_init 2724 = .ok (.sipush 207, 3) := dc_sipush (gt_M_init_27 24) (gt_M_init_27 25) (gt_M_init_27 26) (by decide)
theorem d_M_init_2727 : decode b_M_init 2727 = .ok (.bipush 101, 2) := dc_bipush (gt_M_init_27 27) (gt_M_init_27 28) rfl
theorem d_M_init_2729 : decode b_M_init 2729 = .ok (.bastore, 1) := dc_bastore (gt_M_init_27 29)
theorem d_M_init_2730 : decode b_M_init 2730 = .ok (.dup, 1) := dc_dup (gt_M_init_27 30)
theorem d_M_init_2731 : decode b_M_init 2731 = .ok (.sipush 208, 3) := dc_sipush (gt_M_init_27 31) (gt_M_init_27 32) (gt_M_init_27 33) (by decide)
theorem d_M_init_2734 : decode b_M_init 2734 = .ok (.bipush 109, 2) := dc_bipush (gt_M_init_27 34) (gt_M_init_27 35) rfl
theorem d_M_init_2736 : decode b_M_init 2736 = .ok (.bastore, 1) := dc_bastore (gt_M_init_27 36)
theorem d_M_init_2737 : decode b_M_init 2737 = .ok (.dup, 1) := dc_dup (gt_M_init_27 37)
theorem d_M_init_2738 : decode b_M_init 2738 = .ok (.sipush 209, 3) := dc_sipush (gt_M_init_27 38) (gt_M_init_27 39) (gt_M_init_27 40) (by decide)
theorem d_M_init_2741 : decode b_M_init 2741 = .ok (.bipush 101, 2) := dc_bipush (gt_M_init_27 41) (gt_M_init_27 42) rfl
theorem d_M_init_2743 : decode b_M_init 2743 = .ok (.bastore, 1) := dc_bastore (gt_M_init_27 43)
theorem d_M_init_2744 : decode b_M_init 2744 = .ok (.dup, 1) := dc_dup (gt_M_init_27 44)
theorem d_M_init_2745 : decode b_M_init 2745 = .ok (.sipush 210, 3) := dc_sipush (gt_M_init_27 45) (gt_M_init_27 46) (gt_M_init_27 47) (by decide)
theorem d_M_init_2748 : decode b_M_init 2748 = .ok (.bipush 110, 2) := dc_bipush (gt_M_init_27 48) (gt_M_init_27 49) rfl
theorem d_M_init_2750 : decode b_M_init 2750 = .ok (.bastore, 1) := dc_bastore (gt_M_init_27 50)
theorem d_M_init_2751 : decode b_M_init 2751 = .ok (.dup, 1) := dc_dup (gt_M_init_27 51)
theorem d_M_init_2752 : decode b_M_init 2752 = .ok (.sipush 211, 3) := dc_sipush (gt_M_init_27 52) (gt_M_init_27 53) (gt_M_init_27 54) (by decide)
theorem d_M_init_2755 : decode b_M_init 2755 = .ok (.bipush 116, 2) := dc_bipush (gt_M_init_27 55) (gt_M_init_27 56) rfl
theorem d_M_init_2757 : decode b_M_init 2757 = .ok (.bastore, 1) := dc_bastore (gt_M_init_27 57)
theorem d_M_init_2758 : decode b_M_init 2758 = .ok (.dup, 1) := dc_dup (gt_M_init_27 58)
theorem d_M_init_2759 : decode b_M_init 2759 = .ok (.sipush 212, 3) := dc_sipush (gt_M_init_27 59) (gt_M_init_27 60) (gt_M_init_27 61) (by decide)
theorem d_M_init_2762 : decode b_M_init 2762 = .ok (.iconst 1, 1) := dc_iconst_1 (gt_M_init_27 62)
theorem d_M_init_2763 : decode b_M_init 2763 = .ok (.bastore, 1) := dc_bastore (gt_M_init_27 63)
theorem d_M_init_2764 : decode b_M_init 2764 = .ok (.dup, 1) := dc_dup (gt_M_init_27 64)
theorem d_M_init_2765 : decode b_M_init 2765 = .ok (.sipush 213, 3) := dc_sipush (gt_M_init_27 65) (gt_M_init_27 66) (gt_M_init_27 67) (by decide)
theorem d_M_init_2768 : decode b_M_init 2768 = .ok (.iconst 4, 1) := dc_iconst_4 (gt_M_init_27 68)
theorem d_M_init_2769 : decode b_M_init 2769 = .ok (.bastore, 1) := dc_bastore (gt_M_init_27 69)
theorem d_M_init_2770 : decode b_M_init 2770 = .ok (.dup, 1) := dc_dup (gt_M_init_27 70)
theorem d_M_init_2771 : decode b_M_init 2771 = .ok (.sipush 214, 3) := dc_sipush (gt_M_init_27 71) (gt_M_init_27 72) (gt_M_init_27 73) (by decide)
theorem d_M_init_2774 : decode b_M_init 2774 = .ok (.bipush 115, 2) := dc_bipush (gt_M_init_27 74) (gt_M_init_27 75) rfl
theorem d_M_init_2776 : decode b_M_init 2776 = .ok (.bastore, 1) := dc_bastore (gt_M_init_27 76)
theorem d_M_init_2777 : decode b_M_init 2777 = .ok (.dup, 1) := dc_dup (gt_M_init_27 77)
theorem d_M_init_2778 : decode b_M_init 2778 = .ok (.sipush 215, 3) := dc_sipush (gt_M_init_27 78) (gt_M_init_27 79) (gt_M_init_27 80) (by decide)
theorem d_M_init_2781 : decode b_M_init 2781 = .ok (.bipush 105, 2) := dc_bipush (gt_M_init_27 81) (gt_M_init_27 82) rfl
theorem d_M_init_2783 : decode b_M_init 2783 = .ok (.bastore, 1) := dc_bastore (gt_M_init_27 83)
theorem d_M_init_2784 : decode b_M_init 2784 = .ok (.dup, 1) := dc_dup (gt_M_init_27 84)
theorem d_M_init_2785 : decode b_M_init 2785 = .ok (.sipush 216, 3) := dc_sipush (gt_M_init_27 85) (gt_M_init_27 86) (gt_M_init_27 87) (by decide)
theorem d_M_init_2788 : decode b_M_init 2788 = .ok (.bipush 122, 2) := dc_bipush (gt_M_init_27 88) (gt_M_init_27 89) rfl
theorem d_M_init_2790 : decode b_M_init 2790 = .ok (.bastore, 1) := dc_bastore (gt_M_init_27 90)
theorem d_M_init_2791 : decode b_M_init 2791 = .ok (.dup, 1) := dc_dup (gt_M_init_27 91)
theorem d_M_init_2792 : decode b_M_init 2792 = .ok (.sipush 217, 3) := dc_sipush (gt_M_init_27 92) (gt_M_init_27 93) (gt_M_init_27 94) (by decide)
theorem d_M_init_2795 : decode b_M_init 2795 = .ok (.bipush 101, 2) := dc_bipush (gt_M_init_27 95) (gt_M_init_27 96) rfl
theorem d_M_init_2797 : decode b_M_init 2797 = .ok (.bastore, 1) := dc_bastore (gt_M_init_27 97)
theorem d_M_init_2798 : decode b_M_init 2798 = .ok (.putfield 16, 3) := dc_putfield (gt_M_init_27 98) (gt_M_init_27 99) (gt_M_init_28 0) rfl
theorem d_M_init_2801 : decode b_M_init 2801 = .ok (.aload_n 0, 1) := dc_aload0 (gt_M_init_28 1)
theorem d_M_init_2802 : decode b_M_init 2802 = .ok (.sipush 4000, 3) := dc_sipush (gt_M_init_28 2) (gt_M_init_28 3) (gt_M_init_28 4) (by decide)
theorem d_M_init_2805 : decode b_M_init 2805 = .ok (.newarray .byte, 2) := dc_newarray (gt_M_init_28 5) (gt_M_init_28 6) (fun _ => rfl)
theorem d_M_init_2807 : decode b_M_init 2807 = .ok (.putfield 19, 3) := dc_putfield (gt_M_init_28 7) (gt_M_init_28 8) (gt_M_init_28 9) rfl
theorem d_M_init_2810 : decode b_M_init 2810 = .ok (.aload_n 0, 1) := dc_aload0 (gt_M_init_28 10)
theorem d_M_init_2811 : decode b_M_init 2811 = .ok (.sipush 4002, 3) := dc_sipush (gt_M_init_28 11) (gt_M_init_28 12) (gt_M_init_28 13) (by decide)
theorem d_M_init_2814 : decode b_M_init 2814 = .ok (.newarray .byte, 2) := dc_newarray (gt_M_init_28 14) (gt_M_init_28 15) (fun _ => rfl)
theorem d_M_init_2816 : decode b_M_init 2816 = .ok (.putfield 22, 3) := dc_putfield (gt_M_init_28 16) (gt_M_init_28 17) (gt_M_init_28 18) rfl
theorem d_M_init_2819 : decode b_M_init 2819 = .ok (.aload_n 0, 1) := dc_aload0 (gt_M_init_28 19)
theorem d_M_init_2820 : decode b_M_init 2820 = .ok (.sipush 4002, 3) := dc_sipush (gt_M_init_28 20) (gt_M_init_28 21) (gt_M_init_28 22) (by decide)
theorem d_M_init_2823 : decode b_M_init 2823 = .ok (.newarray .int, 2) := dc_newarray (gt_M_init_28 23) (gt_M_init_28 24) (fun _ => rfl)
theorem d_M_init_2825 : decode b_M_init 2825 = .ok (.putfield 25, 3) := dc_putfield (gt_M_init_28 25) (gt_M_init_28 26) (gt_M_init_28 27) rfl
theorem d_M_init_2828 : decode b_M_init 2828 = .ok (.aload_n 0, 1) := dc_aload0 (gt_M_init_28 28)
theorem d_M_init_2829 : decode b_M_init 2829 = .ok (.sipush 4002, 3) := dc_sipush (gt_M_init_28 29) (gt_M_init_28 30) (gt_M_init_28 31) (by decide)
theorem d_M_init_2832 : decode b_M_init 2832 = .ok (.newarray .int, 2) := dc_newarray (gt_M_init_28 32) (gt_M_init_28 33) (fun _ => rfl)
theorem d_M_init_2834 : decode b_M_init 2834 = .ok (.putfield 29, 3) := dc_putfield (gt_M_init_28 34) (gt_M_init_28 35) (gt_M_init_28 36) rfl
theorem d_M_init_2837 : decode b_M_init 2837 = .ok (.aload_n 0, 1) := dc_aload0 (gt_M_init_28 37)
theorem d_M_init_2838 : decode b_M_init 2838 = .ok (.sipush 5000, 3) := dc_sipush (gt_M_init_28 38) (gt_M_init_28 39) (gt_M_init_28 40) (by decide)
theorem d_M_init_2841 : decode b_M_init 2841 = .ok (.newarray .byte, 2) := dc_newarray (gt_M_init_28 41) (gt_M_init_28 42) (fun _ => rfl)
theorem d_M_init_2843 : decode b_M_init 2843 = .ok (.putfield 32, 3) := dc_putfield (gt_M_init_28 43) (gt_M_init_28 44) (gt_M_init_28 45) rfl
theorem d_M_init_2846 : decode b_M_init 2846 = .ok (.aload_n 0, 1) := dc_aload0 (gt_M_init_28 46)
theorem d_M_init_2847 : decode b_M_init 2847 = .ok (.sipush 2200, 3) := dc_sipush (gt_M_init_28 47) (gt_M_init_28 48) (gt_M_init_28 49) (by decide)
theorem d_M_init_2850 : decode b_M_init 2850 = .ok (.newarray .int, 2) := dc_newarray (gt_M_init_28 50) (gt_M_init_28 51) (fun _ => rfl)
theorem d_M_init_2852 : decode b_M_init 2852 = .ok (.putfield 35, 3) := dc_putfield (gt_M_init_28 52) (gt_M_init_28 53) (gt_M_init_28 54) rfl
theorem d_M_init_2855 : decode b_M_init 2855 = .ok (.aload_n 0, 1) := dc_aload0 (gt_M_init_28 55)
theorem d_M_init_2856 : decode b_M_init 2856 = .ok (.sipush 5000, 3) := dc_sipush (gt_M_init_28 56) (gt_M_init_28 57) (gt_M_init_28 58) (by decide)
theorem d_M_init_2859 : decode b_M_init 2859 = .ok (.newarray .byte, 2) := dc_newarray (gt_M_init_28 59) (gt_M_init_28 60) (fun _ => rfl)
theorem d_M_init_2861 : decode b_M_init 2861 = .ok (.putfield 38, 3) := dc_putfield (gt_M_init_28 61) (gt_M_init_28 62) (gt_M_init_28 63) rfl
theorem d_M_init_2864 : decode b_M_init 2864 = .ok (.aload_n 0, 1) := dc_aload0 (gt_M_init_28 64)
theorem d_M_init_2865 : decode b_M_init 2865 = .ok (.sipush 2200, 3) := dc_sipush (gt_M_init_28 65) (gt_M_init_28 66) (gt_M_init_28 67) (by decide)
theorem d_M_init_2868 : decode b_M_init 2868 = .ok (.newarray .int, 2) := dc_newarray (gt_M_init_28 68) (gt_M_init_28 69) (fun _ => rfl)
theorem d_M_init_2870 : decode b_M_init 2870 = .ok (.putfield 41, 3) := dc_putfield (gt_M_init_28 70) (gt_M_init_28 71) (gt_M_init_28 72) rfl
theorem d_M_init_2873 : decode b_M_init 2873 = .ok (.aload_n 0, 1) := dc_aload0 (gt_M_init_28 73)
theorem d_M_init_2874 : decode b_M_init 2874 = .ok (.sipush 4002, 3) := dc_sipush (gt_M_init_28 74) (gt_M_init_28 75) (gt_M_init_28 76) (by decide)
theorem d_M_init_2877 : decode b_M_init 2877 = .ok (.newarray .byte, 2) := dc_newarray (gt_M_init_28 77) (gt_M_init_28 78) (fun _ => rfl)
theorem d_M_init_2879 : decode b_M_init 2879 = .ok (.putfield 44, 3) := dc_putfield (gt_M_init_28 79) (gt_M_init_28 80) (gt_M_init_28 81) rfl
theorem d_M_init_2882 : decode b_M_init 2882 = .ok (.aload_n 0, 1) := dc_aload0 (gt_M_init_28 82)
theorem d_M_init_2883 : decode b_M_init 2883 = .ok (.sipush 2002, 3) := dc_sipush (gt_M_init_28 83) (gt_M_init_28 84) (gt_M_init_28 85) (by decide)
theorem d_M_init_2886 : decode b_M_init 2886 = .ok (.newarray .int, 2) := dc_newarray (gt_M_init_28 86) (gt_M_init_28 87) (fun _ => rfl)
theorem d_M_init_2888 : decode b_M_init 2888 = .ok (.putfield 47, 3) := dc_putfield (gt_M_init_28 88) (gt_M_init_28 89) (gt_M_init_28 90) rfl
theorem d_M_init_2891 : decode b_M_init 2891 = .ok (.aload_n 0, 1) := dc_aload0 (gt_M_init_28 91)
theorem d_M_init_2892 : decode b_M_init 2892 = .ok (.bipush 21, 2) := dc_bipush (gt_M_init_28 92) (gt_M_init_28 93) rfl
theorem d_M_init_2894 : decode b_M_init 2894 = .ok (.newarray .byte, 2) := dc_newarray (gt_M_init_28 94) (gt_M_init_28 95) (fun _ => rfl)
theorem d_M_init_2896 : decode b_M_init 2896 = .ok (.dup, 1) := dc_dup (gt_M_init_28 96)
theorem d_M_init_2897 : decode b_M_init 2897 = .ok (.iconst 0, 1) := dc_iconst_0 (gt_M_init_28 97)
theorem d_M_init_2898 : decode b_M_init 2898 = .ok (.bipush 45, 2) := dc_bipush (gt_M_init_28 98) (gt_M_init_28 99) rfl
theorem d_M_init_2900 : decode b_M_init 2900 = .ok (.bastore, 1) := dc_bastore (gt_M_init_29 0)
theorem d_M_init_2901 : decode b_M_init 2901 = .ok (.dup, 1) := dc_dup (gt_M_init_29 1)
theorem d_M_init_2902 : decode b_M_init 2902 = .ok (.iconst 1, 1) := dc_iconst_1 (gt_M_init_29 2)
theorem d_M_init_2903 : decode b_M_init 2903 = .ok (.bipush 62, 2) := dc_bipush (gt_M_init_29 3) (gt_M_init_29 4) rfl
theorem d_M_init_2905 : decode b_M_init 2905 = .ok (.bastore, 1) := dc_bastore (gt_M_init_29 5)
theorem d_M_init_2906 : decode b_M_init 2906 = .ok (.dup, 1) := dc_dup (gt_M_init_29 6)
theorem d_M_init_2907 : decode b_M_init 2907 = .ok (.iconst 2, 1) := dc_iconst_2 (gt_M_init_29 7)
theorem d_M_init_2908 : decode b_M_init 2908 = .ok (.bipush 10, 2) := dc_bipush (gt_M_init_29 8) (gt_M_init_29 9) rfl
theorem d_M_init_2910 : decode b_M_init 2910 = .ok (.bastore, 1) := dc_bastore (gt_M_init_29 10)
theorem d_M_init_2911 : decode b_M_init 2911 = .ok (.dup, 1) := dc_dup (gt_M_init_29 11)
theorem d_M_init_2912 : decode b_M_init 2912 = .ok (.iconst 3, 1) := dc_iconst_3 (gt_M_init_29 12)
theorem d_M_init_2913 : decode b_M_init 2913 = .ok (.bipush 61, 2) := dc_bipush (gt_M_init_29 13) (gt_M_init_29 14) rfl
theorem d_M_init_2915 : decode b_M_init 2915 = .ok (.bastore, 1) := dc_bastore (gt_M_init_29 15)
theorem d_M_init_2916 : decode b_M_init 2916 = .ok (.dup, 1) := dc_dup (gt_M_init_29 16)
theorem d_M_init_2917 : decode b_M_init 2917 = .ok (.iconst 4, 1) := dc_iconst_4 (gt_M_init_29 17)
theorem d_M_init_2918 : decode b_M_init 2918 = .ok (.bipush 61, 2) := dc_bipush (gt_M_init_29 18) (gt_M_init_29 19) rfl
theorem d_M_init_2920 : decode b_M_init 2920 = .ok (.bastore, 1) := dc_bastore (gt_M_init_29 20)
theorem d_M_init_2921 : decode b_M_init 2921 = .ok (.dup, 1) := dc_dup (gt_M_init_29 21)
theorem d_M_init_2922 : decode b_M_init 2922 = .ok (.iconst 5, 1) := dc_iconst_5 (gt_M_init_29 22)
theorem d_M_init_2923 : decode b_M_init 2923 = .ok (.bipush 12, 2) := dc_bipush (gt_M_init_29 23) (gt_M_init_29 24) rfl
theorem d_M_init_2925 : decode b_M_init 2925 = .ok (.bastore, 1) := dc_bastore (gt_M_init_29 25)
theorem d_M_init_2926 : decode b_M_init 2926 = .ok (.dup, 1) := dc_dup (gt_M_init_29 26)
theorem d_M_init_2927 : decode b_M_init 2927 = .ok (.bipush 6, 2) := dc_bipush (gt_M_init_29 27) (gt_M_init_29 28) rfl
theorem d_M_init_2929 : decode b_M_init 2929 = .ok (.bipush 47, 2) := dc_bipush (gt_M_init_29 29) (gt_M_init_29 30) rfl
theorem d_M_init_2931 : decode b_M_init 2931 = .ok (.bastore, 1) := dc_bastore (gt_M_init_29 31)
theorem d_M_init_2932 : decode b_M_init 2932 = .ok (.dup, 1) := dc_dup (gt_M_init_29 32)
theorem d_M_init_2933 : decode b_M_init 2933 = .ok (.bipush 7, 2) := dc_bipush (gt_M_init_29 33) (gt_M_init_29 34) rfl
theorem d_M_init_2935 : decode b_M_init 2935 = .ok (.bipush 61, 2) := dc_bipush (gt_M_init_29 35) (gt_M_init_29 36) rfl
theorem d_M_init_2937 : decode b_M_init 2937 = .ok (.bastore, 1) := dc_bastore (gt_M_init_29 37)
theorem d_M_init_2938 : decode b_M_init 2938 = .ok (.dup, 1) := dc_dup (gt_M_init_29 38)
theorem d_M_init_2939 : decode b_M_init 2939 = .ok (.bipush 8, 2) := dc_bipush (gt_M_init_29 39) (gt_M_init_29 40) rfl
theorem d_M_init_2941 : decode b_M_init 2941 = .ok (.bipush 13, 2) := dc_bipush (gt_M_init_29 41) (gt_M_init_29 42) rfl
theorem d_M_init_2943 : decode b_M_init 2943 = .ok (.bastore, 1) := dc_bastore (gt_M_init_29 43)
theorem d_M_init_2944 : decode b_M_init 2944 = .ok (.dup, 1) := dc_dup (gt_M_init_29 44)
theorem d_M_init_2945 : decode b_M_init 2945 = .ok (.bipush 9, 2) := dc_bipush (gt_M_init_29 45) (gt_M_init_29 46) rfl
theorem d_M_init_2947 : decode b_M_init 2947 = .ok (.bipush 61, 2) := dc_bipush (gt_M_init_29 47) (gt_M_init_29 48) rfl
theorem d_M_init_2949 : decode b_M_init 2949 = .ok (.bastore, 1) := dc_bastore (gt_M_init_29 49)
theorem d_M_init_2950 : decode b_M_init 2950 = .ok (.dup, 1) := dc_dup (gt_M_init_29 50)
theorem d_M_init_2951 : decode b_M_init 2951 = .ok (.bipush 10, 2) := dc_bipush (gt_M_init_29 51) (gt_M_init_29 52) rfl
theorem d_M_init_2953 : decode b_M_init 2953 = .ok (.bipush 60, 2) := dc_bipush (gt_M_init_29 53) (gt_M_init_29 54) rfl
theorem d_M_init_2955 : decode b_M_init 2955 = .ok (.bastore, 1) := dc_bastore (gt_M_init_29 55)
theorem d_M_init_2956 : decode b_M_init 2956 = .ok (.dup, 1) := dc_dup (gt_M_init_29 56)
theorem d_M_init_2957 : decode b_M_init 2957 = .ok (.bipush 11, 2) := dc_bipush (gt_M_init_29 57) (gt_M_init_29 58) rfl
theorem d_M_init_2959 : decode b_M_init 2959 = .ok (.bipush 15, 2) := dc_bipush (gt_M_init_29 59) (gt_M_init_29 60) rfl
theorem d_M_init_2961 : decode b_M_init 2961 = .ok (.bastore, 1) := dc_bastore (gt_M_init_29 61)
theorem d_M_init_2962 : decode b_M_init 2962 = .ok (.dup, 1) := dc_dup (gt_M_init_29 62)
theorem d_M_init_2963 : decode b_M_init 2963 = .ok (.bipush 12, 2) := dc_bipush (gt_M_init_29 63) (gt_M_init_29 64) rfl
theorem d_M_init_2965 : decode b_M_init 2965 = .ok (.bipush 62, 2) := dc_bipush (gt_M_init_29 65) (gt_M_init_29 66) rfl
theorem d_M_init_2967 : decode b_M_init 2967 = .ok (.bastore, 1) := dc_bastore (gt_M_init_29 67)
theorem d_M_init_2968 : decode b_M_init 2968 = .ok (.dup, 1) := dc_dup (gt_M_init_29 68)
theorem d_M_init_2969 : decode b_M_init 2969 = .ok (.bipush 13, 2) := dc_bipush (gt_M_init_29 69) (gt_M_init_29 70) rfl
theorem d_M_init_2971 : decode b_M_init 2971 = .ok (.bipush 61, 2) := dc_bipush (gt_M_init_29 71) (gt_M_init_29 72) rfl
theorem d_M_init_2973 : decode b_M_init 2973 = .ok (.bastore, 1) := dc_bastore (gt_M_init_29 73)
theorem d_M_init_2974 : decode b_M_init 2974 = .ok (.dup, 1) := dc_dup (gt_M_init_29 74)
theorem d_M_init_2975 : decode b_M_init 2975 = .ok (.bipush 14, 2) := dc_bipush (gt_M_init_29 75) (gt_M_init_29 76) rfl
theorem d_M_init_2977 : decode b_M_init 2977 = .ok (.bipush 17, 2) := dc_bipush (gt_M_init_29 77) (gt_M_init_29 78) rfl
theorem d_M_init_2979 : decode b_M_init 2979 = .ok (.bastore, 1) := dc_bastore (gt_M_init_29 79)
theorem d_M_init_2980 : decode b_M_init 2980 = .ok (.dup, 1) := dc_dup (gt_M_init_29 80)
theorem d_M_init_2981 : decode b_M_init 2981 = .ok (.bipush 15, 2) := dc_bipush (gt_M_init_29 81) (gt_M_init_29 82) rfl
theorem d_M_init_2983 : decode b_M_init 2983 = .ok (.bipush 43, 2) := dc_bipush (gt_M_init_29 83) (gt_M_init_29 84) rfl
theorem d_M_init_2985 : decode b_M_init 2985 = .ok (.bastore, 1) := dc_bastore (gt_M_init_29 85)
theorem d_M_init_2986 : decode b_M_init 2986 = .ok (.dup, 1) := dc_dup (gt_M_init_29 86)
theorem d_M_init_2987 : decode b_M_init 2987 = .ok (.bipush 16, 2) := dc_bipush (gt_M_init_29 87) (gt_M_init_29 88) rfl
theorem d_M_init_2989 : decode b_M_init 2989 = .ok (.bipush 43, 2) := dc_bipush (gt_M_init_29 89) (gt_M_init_29 90) rfl
theorem d_M_init_2991 : decode b_M_init 2991 = .ok (.bastore, 1) := dc_bastore (gt_M_init_29 91)
theorem d_M_init_2992 : decode b_M_init 2992 = .ok (.dup, 1) := dc_dup (gt_M_init_29 92)
theorem d_M_init_2993 : decode b_M_init 2993 = .ok (.bipush 17, 2) := dc_bipush (gt_M_init_29 93) (gt_M_init_29 94) rfl
theorem d_M_init_2995 : decode b_M_init 2995 = .ok (.bipush 22, 2) := dc_bipush (gt_M_init_29 95) (gt_M_init_29 96) rfl
theorem d_M_init_2997 : decode b_M_init 2997 = .ok (.bastore, 1) := dc_bastore (gt_M_init_29 97)
theorem d_M_init_2998 : decode b_M_init 2998 = .ok (.dup, 1) := dc_dup (gt_M_init_29 98)
theorem d_M_init_2999 : decode b_M_init 2999 = .ok (.bipush 18, 2) := dc_bipush (gt_M_init_29 99) (gt_M_init_30 0) rfl
theorem d_M_init_3001 : decode b_M_init 3001 = .ok (.bipush 45, 2) := dc_bipush (gt_M_init_30 1) (gt_M_init_30 2) rfl
theorem d_M_init_3003 : decode b_M_init 3003 = .ok (.bastore, 1) := dc_bastore (gt_M_init_30 3)
theorem d_M_init_3004 : decode b_M_init 3004 = .ok (.dup, 1) := dc_dup (gt_M_init_30 4)
theorem d_M_init_3005 : decode b_M_init 3005 = .ok (.bipush 19, 2) := dc_bipush (gt_M_init_30 5) (gt_M_init_30 6) rfl
theorem d_M_init_3007 : decode b_M_init 3007 = .ok (.bipush 45, 2) := dc_bipush (gt_M_init_30 7) (gt_M_init_30 8) rfl
theorem d_M_init_3009 : decode b_M_init 3009 = .ok (.bastore, 1) := dc_bastore (gt_M_init_30 9)
theorem d_M_init_3010 : decode b_M_init 3010 = .ok (.dup, 1) := dc_dup (gt_M_init_30 10)
theorem d_M_init_3011 : decode b_M_init 3011 = .ok (.bipush 20, 2) := dc_bipush (gt_M_init_30 11) (gt_M_init_30 12) rfl
theorem d_M_init_3013 : decode b_M_init 3013 = .ok (.bipush 23, 2) := dc_bipush (gt_M_init_30 13) (gt_M_init_30 14) rfl
theorem d_M_init_3015 : decode b_M_init 3015 = .ok (.bastore, 1) := dc_bastore (gt_M_init_30 15)
theorem d_M_init_3016 : decode b_M_init 3016 = .ok (.putfield 50, 3) := dc_putfield (gt_M_init_30 16) (gt_M_init_30 17) (gt_M_init_30 18) rfl
theorem d_M_init_3019 : decode b_M_init 3019 = .ok (.aload_n 0, 1) := dc_aload0 (gt_M_init_30 19)
theorem d_M_init_3020 : decode b_M_init 3020 = .ok (.bipush 36, 2) := dc_bipush (gt_M_init_30 20) (gt_M_init_30 21) rfl
theorem d_M_init_3022 : decode b_M_init 3022 = .ok (.newarray .byte, 2) := dc_newarray (gt_M_init_30 22) (gt_M_init_30 23) (fun _ => rfl)
theorem d_M_init_3024 : decode b_M_init 3024 = .ok (.dup, 1) := dc_dup (gt_M_init_30 24)
theorem d_M_init_3025 : decode b_M_init 3025 = .ok (.iconst 0, 1) := dc_iconst_0 (gt_M_init_30 25)
theorem d_M_init_3026 : decode b_M_init 3026 = .ok (.bipush 40, 2) := dc_bipush (gt_M_init_30 26) (gt_M_init_30 27) rfl
theorem d_M_init_3028 : decode b_M_init 3028 = .ok (.bastore, 1) := dc_bastore (gt_M_init_30 28)
theorem d_M_init_3029 : decode b_M_init 3029 = .ok (.dup, 1) := dc_dup (gt_M_init_30 29)
theorem d_M_init_3030 : decode b_M_init 3030 = .ok (.iconst 1, 1) := dc_iconst_1 (gt_M_init_30 30)
theorem d_M_init_3031 : decode b_M_init 3031 = .ok (.iconst 0, 1) := dc_iconst_0 (gt_M_init_30 31)
theorem d_M_init_3032 : decode b_M_init 3032 = .ok (.bastore, 1) := dc_bastore (gt_M_init_30 32)
theorem d_M_init_3033 : decode b_M_init 3033 = .ok (.dup, 1) := dc_dup (gt_M_init_30 33)
theorem d_M_init_3034 : decode b_M_init 3034 = .ok (.iconst 2, 1) := dc_iconst_2 (gt_M_init_30 34)
theorem d_M_init_3035 : decode b_M_init 3035 = .ok (.bipush 41, 2) := dc_bipush (gt_M_init_30 35) (gt_M_init_30 36) rfl
theorem d_M_init_3037 : decode b_M_init 3037 = .ok (.bastore, 1) := dc_bastore (gt_M_init_30 37)
theorem d_M_init_3038 : decode b_M_init 3038 = .ok (.dup, 1) := dc_dup (gt_M_init_30 38)
theorem d_M_init_3039 : decode b_M_init 3039 = .ok (.iconst 3, 1) := dc_iconst_3 (gt_M_init_30 39)
theorem d_M_init_3040 : decode b_M_init 3040 = .ok (.iconst 1, 1) := dc_iconst_1 (gt_M_init_30 40)
theorem d_M_init_3041 : decode b_M_init 3041 = .ok (.bastore, 1) := dc_bastore (gt_M_init_30 41)
theorem d_M_init_3042 : decode b_M_init 3042 = .ok (.dup, 1) := dc_dup (gt_M_init_30 42)
theorem d_M_init_3043 : decode b_M_init 3043 = .ok (.iconst 4, 1) := dc_iconst_4 (gt_M_init_30 43)
theorem d_M_init_3044 : decode b_M_init 3044 = .ok (.bipush 123, 2) := dc_bipush (gt_M_init_30 44) (gt_M_init_30 45) rfl
theorem d_M_init_3046 : decode b_M_init 3046 = .ok (.bastore, 1) := dc_bastore (gt_M_init_30 46)
theorem d_M_init_3047 : decode b_M_init 3047 = .ok (.dup, 1) := dc_dup (gt_M_init_30 47)
theorem d_M_init_3048 : decode b_M_init 3048 = .ok (.iconst 5, 1) := dc_iconst_5 (gt_M_init_30 48)
theorem d_M_init_3049 : decode b_M_init 3049 = .ok (.iconst 2, 1) := dc_iconst_2 (gt_M_init_30 49)
theorem d_M_init_3050 : decode b_M_init 3050 = .ok (.bastore, 1) := dc_bastore (gt_M_init_30 50)
theorem d_M_init_3051 : decode b_M_init 3051 = .ok (.dup, 1) := dc_dup (gt_M_init_30 51)
theorem d_M_init_3052 : decode b_M_init 3052 = .ok (.bipush 6, 2) := dc_bipush (gt_M_init_30 52) (gt_M_init_30 53) rfl
theorem d_M_init_3054 : decode b_M_init 3054 = .ok (.bipush 125, 2) := dc_bipush (gt_M_init_30 54) (gt_M_init_30 55) rfl
theorem d_M_init_3056 : decode b_M_init 3056 = .ok (.bastore, 1) := dc_bastore (gt_M_init_30 56)
theorem d_M_init_3057 : decode b_M_init 3057 = .ok (.dup, 1) := dc_dup (gt_M_init_30 57)
theorem d_M_init_3058 : decode b_M_init 3058 = .ok (.bipush 7, 2) := dc_bipush (gt_M_init_30 58) (gt_M_init_30 59) rfl
theorem d_M_init_3060 : decode b_M_init 3060 = .ok (.iconst 3, 1) := dc_iconst_3 (gt_M_init_30 60)
theorem d_M_init_3061 : decode b_M_init 3061 = .ok (.bastore, 1) := dc_bastore (gt_M_init_30 61)
theorem d_M_init_3062 : decode b_M_init 3062 = .ok (.dup, 1) := dc_dup (gt_M_init_30 62)
theorem d_M_init_3063 : decode b_M_init 3063 = .ok (.bipush 8, 2) := dc_bipush (gt_M_init_30 63) (gt_M_init_30 64) rfl
theorem d_M_init_3065 : decode b_M_init 3065 = .ok (.bipush 91, 2) := dc_bipush (gt_M_init_30 65) (gt_M_init_30 66) rfl
theorem d_M_init_3067 : decode b_M_init 3067 = .ok (.bastore, 1) := dc_bastore (gt_M_init_30 67)
theorem d_M_init_3068 : decode b_M_init 3068 = .ok (.dup, 1) := dc_dup (gt_M_init_30 68)
theorem d_M_init_3069 : decode b_M_init 3069 = .ok (.bipush 9, 2) := dc_bipush (gt_M_init_30 69) (gt_M_init_30 70) rfl
theorem d_M_init_3071 : decode b_M_init 3071 = .ok (.iconst 4, 1) := dc_iconst_4 (gt_M_init_30 71)
theorem d_M_init_3072 : decode b_M_init 3072 = .ok (.bastore, 1) := dc_bastore (gt_M_init_30 72)
theorem d_M_init_3073 : decode b_M_init 3073 = .ok (.dup, 1) := dc_dup (gt_M_init_30 73)
theorem d_M_init_3074 : decode b_M_init 3074 = .ok (.bipush 10, 2) := dc_bipush (gt_M_init_30 74) (gt_M_init_30 75) rfl
theorem d_M_init_3076 : decode b_M_init 3076 = .ok (.bipush 93, 2) := dc_bipush (gt_M_init_30 76) (gt_M_init_30 77) rfl
theorem d_M_init_3078 : decode b_M_init 3078 = .ok (.bastore, 1) := dc_bastore (gt_M_init_30 78)
theorem d_M_init_3079 : decode b_M_init 3079 = .ok (.dup, 1) := dc_dup (gt_M_init_30 79)
theorem d_M_init_3080 : decode b_M_init 3080 = .ok (.bipush 11, 2) := dc_bipush (gt_M_init_30 80) (gt_M_init_30 81) rfl
theorem d_M_init_3082 : decode b_M_init 3082 = .ok (.iconst 5, 1) := dc_iconst_5 (gt_M_init_30 82)
theorem d_M_init_3083 : decode b_M_init 3083 = .ok (.bastore, 1) := dc_bastore (gt_M_init_30 83)
theorem d_M_init_3084 : decode b_M_init 3084 = .ok (.dup, 1) := dc_dup (gt_M_init_30 84)
theorem d_M_init_3085 : decode b_M_init 3085 = .ok (.bipush 12, 2) := dc_bipush (gt_M_init_30 85) (gt_M_init_30 86) rfl
theorem d_M_init_3087 : decode b_M_init 3087 = .ok (.bipush 44, 2) := dc_bipush (gt_M_init_30 87) (gt_M_init_30 88) rfl
theorem d_M_init_3089 : decode b_M_init 3089 = .ok (.bastore, 1) := dc_bastore (gt_M_init_30 89)
theorem d_M_init_3090 : decode b_M_init 3090 = .ok (.dup, 1) := dc_dup (gt_M_init_30 90)
theorem d_M_init_3091 : decode b_M_init 3091 = .ok (.bipush 13, 2) := dc_bipush (gt_M_init_30 91) (gt_M_init_30 92) rfl
theorem d_M_init_3093 : decode b_M_init 3093 = .ok (.bipush 6, 2) := dc_bipush (gt_M_init_30 93) (gt_M_init_30 94) rfl
theorem d_M_init_3095 : decode b_M_init 3095 = .ok (.bastore, 1) := dc_bastore (gt_M_init_30 95)
theorem d_M_init_3096 : decode b_M_init 3096 = .ok (.dup, 1) := dc_dup (gt_M_init_30 96)
theorem d_M_init_3097 : decode b_M_init 3097 = .ok (.bipush 14, 2) := dc_bipush (gt_M_init_30 97) (gt_M_init_30 98) rfl
theorem d_M_init_3099 : decode b_M_init 3099 = .ok (.bipush 59, 2) := dc_bipush (gt_M_init_30 99) (gt_M_init_31 0) rfl
theorem d_M_init_3101 : decode b_M_init 3101 = .ok (.bastore, 1) := dc_bastore (gt_M_init_31 1)
theorem d_M_init_3102 : decode b_M_init 3102 = .ok (.dup, 1) := dc_dup (gt_M_init_31 2)
theorem d_M_init_3103 : decode b_M_init 3103 = .ok (.bipush 15, 2) := dc_bipush (gt_M_init_31 3) (gt_M_init_31 4) rfl
theorem d_M_init_3105 : decode b_M_init 3105 = .ok (.bipush 7, 2) := dc_bipush (gt_M_init_31 5) (gt_M_init_31 6) rfl
theorem d_M_init_3107 : decode b_M_init 3107 = .ok (.bastore, 1) := dc_bastore (gt_M_init_31 7)
theorem d_M_init_3108 : decode b_M_init 3108 = .ok (.dup, 1) := dc_dup (gt_M_init_31 8)
theorem d_M_init_3109 : decode b_M_init 3109 = .ok (.bipush 16, 2) := dc_bipush (gt_M_init_31 9) (gt_M_init_31 10) rfl
theorem d_M_init_3111 : decode b_M_init 3111 = .ok (.bipush 46, 2) := dc_bipush (gt_M_init_31 11) (gt_M_init_31 12) rfl
theorem d_M_init_3113 : decode b_M_init 3113 = .ok (.bastore, 1) := dc_bastore (gt_M_init_31 13)
theorem d_M_init_3114 : decode b_M_init 3114 = .ok (.dup, 1) := dc_dup (gt_M_init_31 14)
theorem d_M_init_3115 : decode b_M_init 3115 = .ok (.bipush 17, 2) := dc_bipush (gt_M_init_31 15) (gt_M_init_31 16) rfl
theorem d_M_init_3117 : decode b_M_init 3117 = .ok (.bipush 8, 2) := dc_bipush (gt_M_init_31 17) (gt_M_init_31 18) rfl
theorem d_M_init_3119 : decode b_M_init 3119 = .ok (.bastore, 1) := dc_bastore (gt_M_init_31 19)
theorem d_M_init_3120 : decode b_M_init 3120 = .ok (.dup, 1) := dc_dup (gt_M_init_31 20)
theorem d_M_init_3121 : decode b_M_init 3121 = .ok (.bipush 18, 2) := dc_bipush (gt_M_init_31 21) (gt_M_init_31 22) rfl
theorem d_M_init_3123 : decode b_M_init 3123 = .ok (.bipush 124, 2) := dc_bipush (gt_M_init_31 23) (gt_M_init_31 24) rfl
theorem d_M_init_3125 : decode b_M_init 3125 = .ok (.bastore, 1) := dc_bastore (gt_M_init_31 25)
theorem d_M_init_3126 : decode b_M_init 3126 = .ok (.dup, 1) := dc_dup (gt_M_init_31 26)
theorem d_M_init_3127 : decode b_M_init 3127 = .ok (.bipush 19, 2) := dc_bipush (gt_M_init_31 27) (gt_M_init_31 28) rfl
theorem d_M_init_3129 : decode b_M_init 3129 = .ok (.bipush 9, 2) := dc_bipush (gt_M_init_31 29) (gt_M_init_31 30) rfl
theorem d_M_init_3131 : decode b_M_init 3131 = .ok (.bastore, 1) := dc_bastore (gt_M_init_31 31)
theorem d_M_init_3132 : decode b_M_init 3132 = .ok (.dup, 1) := dc_dup (gt_M_init_31 32)
theorem d_M_init_3133 : decode b_M_init 3133 = .ok (.bipush 20, 2) := dc_bipush (gt_M_init_31 33) (gt_M_init_31 34) rfl
theorem d_M_init_3135 : decode b_M_init 3135 = .ok (.bipush 61, 2) := dc_bipush (gt_M_init_31 35) (gt_M_init_31 36) rfl
theorem d_M_init_3137 : decode b_M_init 3137 = .ok (.bastore, 1) := dc_bastore (gt_M_init_31 37)
theorem d_M_init_3138 : decode b_M_init 3138 = .ok (.dup, 1) := dc_dup (gt_M_init_31 38)
theorem d_M_init_3139 : decode b_M_init 3139 = .ok (.bipush 21, 2) := dc_bipush (gt_M_init_31 39) (gt_M_init_31 40) rfl
theorem d_M_init_3141 : decode b_M_init 3141 = .ok (.bipush 11, 2) := dc_bipush (gt_M_init_31 41) (gt_M_init_31 42) rfl
theorem d_M_init_3143 : decode b_M_init 3143 = .ok (.bastore, 1) := dc_bastore (gt_M_init_31 43)
theorem d_M_init_3144 : decode b_M_init 3144 = .ok (.dup, 1) := dc_dup (gt_M_init_31 44)
theorem d_M_init_3145 : decode b_M_init 3145 = .ok (.bipush 22, 2) := dc_bipush (gt_M_init_31 45) (gt_M_init_31 46) rfl
theorem d_M_init_3147 : decode b_M_init 3147 = .ok (.bipush 60, 2) := dc_bipush (gt_M_init_31 47) (gt_M_init_31 48) rfl
theorem d_M_init_3149 : decode b_M_init 3149 = .ok (.bastore, 1) := dc_bastore (gt_M_init_31 49)
theorem d_M_init_3150 : decode b_M_init 3150 = .ok (.dup, 1) := dc_dup (gt_M_init_31 50)
theorem d_M_init_3151 : decode b_M_init 3151 = .ok (.bipush 23, 2) := dc_bipush (gt_M_init_31 51) (gt_M_init_31 52) rfl
theorem d_M_init_3153 : decode b_M_init 3153 = .ok (.bipush 14, 2) := dc_bipush (gt_M_init_31 53) (gt_M_init_31 54) rfl
theorem d_M_init_3155 : decode b_M_init 3155 = .ok (.bastore, 1) := dc_bastore (gt_M_init_31 55)
theorem d_M_init_3156 : decode b_M_init 3156 = .ok (.dup, 1) := dc_dup (gt_M_init_31 56)
theorem d_M_init_3157 : decode b_M_init 3157 = .ok (.bipush 24, 2) := dc_bipush (gt_M_init_31 57) (gt_M_init_31 58) rfl
theorem d_M_init_3159 : decode b_M_init 3159 = .ok (.bipush 62, 2) := dc_bipush (gt_M_init_31 59) (gt_M_init_31 60) rfl
theorem d_M_init_3161 : decode b_M_init 3161 = .ok (.bastore, 1) := dc_bastore (gt_M_init_31 61)
theorem d_M_init_3162 : decode b_M_init 3162 = .ok (.dup, 1) := dc_dup (gt_M_init_31 62)
theorem d_M_init_3163 : decode b_M_init 3163 = .ok (.bipush 25, 2) := dc_bipush (gt_M_init_31 63) (gt_M_init_31 64) rfl
theorem d_M_init_3165 : decode b_M_init 3165 = .ok (.bipush 16, 2) := dc_bipush (gt_M_init_31 65) (gt_M_init_31 66) rfl
theorem d_M_init_3167 : decode b_M_init 3167 = .ok (.bastore, 1) := dc_bastore (gt_M_init_31 67)
theorem d_M_init_3168 : decode b_M_init 3168 = .ok (.dup, 1) := dc_dup (gt_M_init_31 68)
theorem d_M_init_3169 : decode b_M_init 3169 = .ok (.bipush 26, 2) := dc_bipush (gt_M_init_31 69) (gt_M_init_31 70) rfl
theorem d_M_init_3171 : decode b_M_init 3171 = .ok (.bipush 43, 2) := dc_bipush (gt_M_init_31 71) (gt_M_init_31 72) rfl
theorem d_M_init_3173 : decode b_M_init 3173 = .ok (.bastore, 1) := dc_bastore (gt_M_init_31 73)
theorem d_M_init_3174 : decode b_M_init 3174 = .ok (.dup, 1) := dc_dup (gt_M_init_31 74)
theorem d_M_init_3175 : decode b_M_init 3175 = .ok (.bipush 27, 2) := dc_bipush (gt_M_init_31 75) (gt_M_init_31 76) rfl
theorem d_M_init_3177 : decode b_M_init 3177 = .ok (.bipush 18, 2) := dc_bipush (gt_M_init_31 77) (gt_M_init_31 78) rfl
theorem d_M_init_3179 : decode b_M_init 3179 = .ok (.bastore, 1) := dc_bastore (gt_M_init_31 79)
theorem d_M_init_3180 : decode b_M_init 3180 = .ok (.dup, 1) := dc_dup (gt_M_init_31 80)
theorem d_M_init_3181 : decode b_M_init 3181 = .ok (.bipush 28, 2) := dc_bipush (gt_M_init_31 81) (gt_M_init_31 82) rfl
theorem d_M_init_3183 : decode b_M_init 3183 = .ok (.bipush 45, 2) := dc_bipush (gt_M_init_31 83) (gt_M_init_31 84) rfl
theorem d_M_init_3185 : decode b_M_init 3185 = .ok (.bastore, 1) := dc_bastore (gt_M_init_31 85)
theorem d_M_init_3186 : decode b_M_init 3186 = .ok (.dup, 1) := dc_dup (gt_M_init_31 86)
theorem d_M_init_3187 : decode b_M_init 3187 = .ok (.bipush 29, 2) := dc_bipush (gt_M_init_31 87) (gt_M_init_31 88) rfl
theorem d_M_init_3189 : decode b_M_init 3189 = .ok (.bipush 19, 2) := dc_bipush (gt_M_init_31 89) (gt_M_init_31 90) rfl
theorem d_M_init_3191 : decode b_M_init 3191 = .ok (.bastore, 1) := dc_bastore (gt_M_init_31 91)
theorem d_M_init_3192 : decode b_M_init 3192 = .ok (.dup, 1) := dc_dup (gt_M_init_31 92)
theorem d_M_init_3193 : decode b_M_init 3193 = .ok (.bipush 30, 2) := dc_bipush (gt_M_init_31 93) (gt_M_init_31 94) rfl
theorem d_M_init_3195 : decode b_M_init 3195 = .ok (.bipush 42, 2) := dc_bipush (gt_M_init_31 95) (gt_M_init_31 96) rfl
theorem d_M_init_3197 : decode b_M_init 3197 = .ok (.bastore, 1) := dc_bastore (gt_M_init_31 97)
theorem d_M_init_3198 : decode b_M_init 3198 = .ok (.dup, 1) := dc_dup (gt_M_init_31 98)
theorem d_M_init_3199 : decode b_M_init 3199 = .ok (.bipush 31, 2) := dc_bipush (gt_M_init_31 99) (gt_M_init_32 0) rfl
theorem d_M_init_3201 : decode b_M_init 3201 = .ok (.bipush 20, 2) := dc_bipush (gt_M_init_32 1) (gt_M_init_32 2) rfl
theorem d_M_init_3203 : decode b_M_init 3203 = .ok (.bastore, 1) := dc_bastore (gt_M_init_32 3)
theorem d_M_init_3204 : decode b_M_init 3204 = .ok (.dup, 1) := dc_dup (gt_M_init_32 4)
theorem d_M_init_3205 : decode b_M_init 3205 = .ok (.bipush 32, 2) := dc_bipush (gt_M_init_32 5) (gt_M_init_32 6) rfl
theorem d_M_init_3207 : decode b_M_init 3207 = .ok (.bipush 33, 2) := dc_bipush (gt_M_init_32 7) (gt_M_init_32 8) rfl
theorem d_M_init_3209 : decode b_M_init 3209 = .ok (.bastore, 1) := dc_bastore (gt_M_init_32 9)
theorem d_M_init_3210 : decode b_M_init 3210 = .ok (.dup, 1) := dc_dup (gt_M_init_32 10)
theorem d_M_init_3211 : decode b_M_init 3211 = .ok (.bipush 33, 2) := dc_bipush (gt_M_init_32 11) (gt_M_init_32 12) rfl
theorem d_M_init_3213 : decode b_M_init 3213 = .ok (.bipush 21, 2) := dc_bipush (gt_M_init_32 13) (gt_M_init_32 14) rfl
theorem d_M_init_3215 : decode b_M_init 3215 = .ok (.bastore, 1) := dc_bastore (gt_M_init_32 15)
theorem d_M_init_3216 : decode b_M_init 3216 = .ok (.dup, 1) := dc_dup (gt_M_init_32 16)
theorem d_M_init_3217 : decode b_M_init 3217 = .ok (.bipush 34, 2) := dc_bipush (gt_M_init_32 17) (gt_M_init_32 18) rfl
theorem d_M_init_3219 : decode b_M_init 3219 = .ok (.bipush 47, 2) := dc_bipush (gt_M_init_32 19) (gt_M_init_32 20) rfl
theorem d_M_init_3221 : decode b_M_init 3221 = .ok (.bastore, 1) := dc_bastore (gt_M_init_32 21)
theorem d_M_init_3222 : decode b_M_init 3222 = .ok (.dup, 1) := dc_dup (gt_M_init_32 22)
theorem d_M_init_3223 : decode b_M_init 3223 = .ok (.bipush 35, 2) := dc_bipush (gt_M_init_32 23) (gt_M_init_32 24) rfl
theorem d_M_init_3225 : decode b_M_init 3225 = .ok (.bipush 24, 2) := dc_bipush (gt_M_init_32 25) (gt_M_init_32 26) rfl
theorem d_M_init_3227 : decode b_M_init 3227 = .ok (.bastore, 1) := dc_bastore (gt_M_init_32 27)
theorem d_M_init_3228 : decode b_M_init 3228 = .ok (.putfield 53, 3) := dc_putfield (gt_M_init_32 28) (gt_M_init_32 29) (gt_M_init_32 30) rfl
theorem d_M_init_3231 : decode b_M_init 3231 = .ok (.aload_n 0, 1) := dc_aload0 (gt_M_init_32 31)
theorem d_M_init_3232 : decode b_M_init 3232 = .ok (.sipush 16000, 3) := dc_sipush (gt_M_init_32 32) (gt_M_init_32 33) (gt_M_init_32 34) (by decide)
theorem d_M_init_3235 : decode b_M_init 3235 = .ok (.newarray .byte, 2) := dc_newarray (gt_M_init_32 35) (gt_M_init_32 36) (fun _ => rfl)
theorem d_M_init_3237 : decode b_M_init 3237 = .ok (.putfield 56, 3) := dc_putfield (gt_M_init_32 37) (gt_M_init_32 38) (gt_M_init_32 39) rfl
theorem d_M_init_3240 : decode b_M_init 3240 = .ok (.aload_n 0, 1) := dc_aload0 (gt_M_init_32 40)
theorem d_M_init_3241 : decode b_M_init 3241 = .ok (.sipush 16000, 3) := dc_sipush (gt_M_init_32 41) (gt_M_init_32 42) (gt_M_init_32 43) (by decide)
theorem d_M_init_3244 : decode b_M_init 3244 = .ok (.newarray .short, 2) := dc_newarray (gt_M_init_32 44) (gt_M_init_32 45) (fun _ => rfl)
theorem d_M_init_3246 : decode b_M_init 3246 = .ok (.putfield 59, 3) := dc_putfield (gt_M_init_32 46) (gt_M_init_32 47) (gt_M_init_32 48) rfl
theorem d_M_init_3249 : decode b_M_init 3249 = .ok (.aload_n 0, 1) := dc_aload0 (gt_M_init_32 49)
theorem d_M_init_3250 : decode b_M_init 3250 = .ok (.sipush 16000, 3) := dc_sipush (gt_M_init_32 50) (gt_M_init_32 51) (gt_M_init_32 52) (by decide)
theorem d_M_init_3253 : decode b_M_init 3253 = .ok (.newarray .int, 2) := dc_newarray (gt_M_init_32 53) (gt_M_init_32 54) (fun _ => rfl)
theorem d_M_init_3255 : decode b_M_init 3255 = .ok (.putfield 63, 3) := dc_putfield (gt_M_init_32 55) (gt_M_init_32 56) (gt_M_init_32 57) rfl
theorem d_M_init_3258 : decode b_M_init 3258 = .ok (.aload_n 0, 1) := dc_aload0 (gt_M_init_32 58)
theorem d_M_init_3259 : decode b_M_init 3259 = .ok (.sipush 16000, 3) := dc_sipush (gt_M_init_32 59) (gt_M_init_32 60) (gt_M_init_32 61) (by decide)
theorem d_M_init_3262 : decode b_M_init 3262 = .ok (.newarray .int, 2) := dc_newarray (gt_M_init_32 62) (gt_M_init_32 63) (fun _ => rfl)
theorem d_M_init_3264 : decode b_M_init 3264 = .ok (.putfield 66, 3) := dc_putfield (gt_M_init_32 64) (gt_M_init_32 65) (gt_M_init_32 66) rfl
theorem d_M_init_3267 : decode b_M_init 3267 = .ok (.aload_n 0, 1) := dc_aload0 (gt_M_init_32 67)
theorem d_M_init_3268 : decode b_M_init 3268 = .ok (.sipush 16000, 3) := dc_sipush (gt_M_init_32 68) (gt_M_init_32 69) (gt_M_init_32 70) (by decide)
theorem d_M_init_3271 : decode b_M_init 3271 = .ok (.newarray .int, 2) := dc_newarray (gt_M_init_32 71) (gt_M_init_32 72) (fun _ => rfl)
theorem d_M_init_3273 : decode b_M_init 3273 = .ok (.putfield 69, 3) := dc_putfield (gt_M_init_32 73) (gt_M_init_32 74) (gt_M_init_32 75) rfl
theorem d_M_init_3276 : decode b_M_init 3276 = .ok (.aload_n 0, 1) := dc_aload0 (gt_M_init_32 76)
theorem d_M_init_3277 : decode b_M_init 3277 = .ok (.sipush 16000, 3) := dc_sipush (gt_M_init_32 77) (gt_M_init_32 78) (gt_M_init_32 79) (by decide)
theorem d_M_init_3280 : decode b_M_init 3280 = .ok (.newarray .int, 2) := dc_newarray (gt_M_init_32 80) (gt_M_init_32 81) (fun _ => rfl)
theorem d_M_init_3282 : decode b_M_init 3282 = .ok (.putfield 72, 3) := dc_putfield (gt_M_init_32 82) (gt_M_init_32 83) (gt_M_init_32 84) rfl
theorem d_M_init_3285 : decode b_M_init 3285 = .ok (.aload_n 0, 1) := dc_aload0 (gt_M_init_32 85)
theorem d_M_init_3286 : decode b_M_init 3286 = .ok (.sipush 16000, 3) := dc_sipush (gt_M_init_32 86) (gt_M_init_32 87) (gt_M_init_32 88) (by decide)
theorem d_M_init_3289 : decode b_M_init 3289 = .ok (.newarray .int, 2) := dc_newarray (gt_M_init_32 89) (gt_M_init_32 90) (fun _ => rfl)
theorem d_M_init_3291 : decode b_M_init 3291 = .ok (.putfield 75, 3) := dc_putfield (gt_M_init_32 91) (gt_M_init_32 92) (gt_M_init_32 93) rfl
theorem d_M_init_3294 : decode b_M_init 3294 = .ok (.aload_n 0, 1) := dc_aload0 (gt_M_init_32 94)
theorem d_M_init_3295 : decode b_M_init 3295 = .ok (.sipush 16000, 3) := dc_sipush (gt_M_init_32 95) (gt_M_init_32 96) (gt_M_init_32 97) (by decide)
theorem d_M_init_3298 : decode b_M_init 3298 = .ok (.newarray .boolean, 2) := dc_newarray (gt_M_init_32 98) (gt_M_init_32 99) (fun _ => rfl)
theorem d_M_init_3300 : decode b_M_init 3300 = .ok (.putfield 78, 3) := dc_putfield (gt_M_init_33 0) (gt_M_init_33 1) (gt_M_init_33 2) rfl
theorem d_M_init_3303 : decode b_M_init 3303 = .ok (.aload_n 0, 1) := dc_aload0 (gt_M_init_33 3)
theorem d_M_init_3304 : decode b_M_init 3304 = .ok (.sipush 16000, 3) := dc_sipush (gt_M_init_33 4) (gt_M_init_33 5) (gt_M_init_33 6) (by decide)
theorem d_M_init_3307 : decode b_M_init 3307 = .ok (.newarray .int, 2) := dc_newarray (gt_M_init_33 7) (gt_M_init_33 8) (fun _ => rfl)
theorem d_M_init_3309 : decode b_M_init 3309 = .ok (.putfield 82, 3) := dc_putfield (gt_M_init_33 9) (gt_M_init_33 10) (gt_M_init_33 11) rfl
theorem d_M_init_3312 : decode b_M_init 3312 = .ok (.aload_n 0, 1) := dc_aload0 (gt_M_init_33 12)
theorem d_M_init_3313 : decode b_M_init 3313 = .ok (.sipush 5000, 3) := dc_sipush (gt_M_init_33 13) (gt_M_init_33 14) (gt_M_init_33 15) (by decide)
theorem d_M_init_3316 : decode b_M_init 3316 = .ok (.newarray .byte, 2) := dc_newarray (gt_M_init_33 16) (gt_M_init_33 17) (fun _ => rfl)
theorem d_M_init_3318 : decode b_M_init 3318 = .ok (.putfield 85, 3) := dc_putfield (gt_M_init_33 18) (gt_M_init_33 19) (gt_M_init_33 20) rfl
theorem d_M_init_3321 : decode b_M_init 3321 = .ok (.aload_n 0, 1) := dc_aload0 (gt_M_init_33 21)
theorem d_M_init_3322 : decode b_M_init 3322 = .ok (.sipush 5000, 3) := dc_sipush (gt_M_init_33 22) (gt_M_init_33 23) (gt_M_init_33 24) (by decide)
theorem d_M_init_3325 : decode b_M_init 3325 = .ok (.newarray .long, 2) := dc_newarray (gt_M_init_33 25) (gt_M_init_33 26) (fun _ => rfl)
theorem d_M_init_3327 : decode b_M_init 3327 = .ok (.putfield 88, 3) := dc_putfield (gt_M_init_33 27) (gt_M_init_33 28) (gt_M_init_33 29) rfl
theorem d_M_init_3330 : decode b_M_init 3330 = .ok (.aload_n 0, 1) := dc_aload0 (gt_M_init_33 30)
theorem d_M_init_3331 : decode b_M_init 3331 = .ok (.sipush 5000, 3) := dc_sipush (gt_M_init_33 31) (gt_M_init_33 32) (gt_M_init_33 33) (by decide)
theorem d_M_init_3334 : decode b_M_init 3334 = .ok (.newarray .int, 2) := dc_newarray (gt_M_init_33 34) (gt_M_init_33 35) (fun _ => rfl)
theorem d_M_init_3336 : decode b_M_init 3336 = .ok (.putfield 92, 3) := dc_putfield (gt_M_init_33 36) (gt_M_init_33 37) (gt_M_init_33 38) rfl
theorem d_M_init_3339 : decode b_M_init 3339 = .ok (.aload_n 0, 1) := dc_aload0 (gt_M_init_33 39)
theorem d_M_init_3340 : decode b_M_init 3340 = .ok (.sipush 5000, 3) := dc_sipush (gt_M_init_33 40) (gt_M_init_33 41) (gt_M_init_33 42) (by decide)
theorem d_M_init_3343 : decode b_M_init 3343 = .ok (.newarray .int, 2) := dc_newarray (gt_M_init_33 43) (gt_M_init_33 44) (fun _ => rfl)
theorem d_M_init_3345 : decode b_M_init 3345 = .ok (.putfield 95, 3) := dc_putfield (gt_M_init_33 45) (gt_M_init_33 46) (gt_M_init_33 47) rfl
theorem d_M_init_3348 : decode b_M_init 3348 = .ok (.aload_n 0, 1) := dc_aload0 (gt_M_init_33 48)
theorem d_M_init_3349 : decode b_M_init 3349 = .ok (.sipush 5000, 3) := dc_sipush (gt_M_init_33 49) (gt_M_init_33 50) (gt_M_init_33 51) (by decide)
theorem d_M_init_3352 : decode b_M_init 3352 = .ok (.newarray .int, 2) := dc_newarray (gt_M_init_33 52) (gt_M_init_33 53) (fun _ => rfl)
theorem d_M_init_3354 : decode b_M_init 3354 = .ok (.putfield 98, 3) := dc_putfield (gt_M_init_33 54) (gt_M_init_33 55) (gt_M_init_33 56) rfl
theorem d_M_init_3357 : decode b_M_init 3357 = .ok (.aload_n 0, 1) := dc_aload0 (gt_M_init_33 57)
theorem d_M_init_3358 : decode b_M_init 3358 = .ok (.sipush 5000, 3) := dc_sipush (gt_M_init_33 58) (gt_M_init_33 59) (gt_M_init_33 60) (by decide)
theorem d_M_init_3361 : decode b_M_init 3361 = .ok (.newarray .boolean, 2) := dc_newarray (gt_M_init_33 61) (gt_M_init_33 62) (fun _ => rfl)
theorem d_M_init_3363 : decode b_M_init 3363 = .ok (.putfield 101, 3) := dc_putfield (gt_M_init_33 63) (gt_M_init_33 64) (gt_M_init_33 65) rfl
theorem d_M_init_3366 : decode b_M_init 3366 = .ok (.aload_n 0, 1) := dc_aload0 (gt_M_init_33 66)
theorem d_M_init_3367 : decode b_M_init 3367 = .ok (.sipush 1400, 3) := dc_sipush (gt_M_init_33 67) (gt_M_init_33 68) (gt_M_init_33 69) (by decide)
theorem d_M_init_3370 : decode b_M_init 3370 = .ok (.newarray .int, 2) := dc_newarray (gt_M_init_33 70) (gt_M_init_33 71) (fun _ => rfl)
theorem d_M_init_3372 : decode b_M_init 3372 = .ok (.putfield 104, 3) := dc_putfield (gt_M_init_33 72) (gt_M_init_33 73) (gt_M_init_33 74) rfl
theorem d_M_init_3375 : decode b_M_init 3375 = .ok (.aload_n 0, 1) := dc_aload0 (gt_M_init_33 75)
theorem d_M_init_3376 : decode b_M_init 3376 = .ok (.sipush 1400, 3) := dc_sipush (gt_M_init_33 76) (gt_M_init_33 77) (gt_M_init_33 78) (by decide)
theorem d_M_init_3379 : decode b_M_init 3379 = .ok (.newarray .int, 2) := dc_newarray (gt_M_init_33 79) (gt_M_init_33 80) (fun _ => rfl)
theorem d_M_init_3381 : decode b_M_init 3381 = .ok (.putfield 107, 3) := dc_putfield (gt_M_init_33 81) (gt_M_init_33 82) (gt_M_init_33 83) rfl
theorem d_M_init_3384 : decode b_M_init 3384 = .ok (.aload_n 0, 1) := dc_aload0 (gt_M_init_33 84)
theorem d_M_init_3385 : decode b_M_init 3385 = .ok (.sipush 1400, 3) := dc_sipush (gt_M_init_33 85) (gt_M_init_33 86) (gt_M_init_33 87) (by decide)
theorem d_M_init_3388 : decode b_M_init 3388 = .ok (.newarray .int, 2) := dc_newarray (gt_M_init_33 88) (gt_M_init_33 89) (fun _ => rfl)
theorem d_M_init_3390 : decode b_M_init 3390 = .ok (.putfield 110, 3) := dc_putfield (gt_M_init_33 90) (gt_M_init_33 91) (gt_M_init_33 92) rfl
theorem d_M_init_3393 : decode b_M_init 3393 = .ok (.aload_n 0, 1) := dc_aload0 (gt_M_init_33 93)
theorem d_M_init_3394 : decode b_M_init 3394 = .ok (.sipush 1400, 3) := dc_sipush (gt_M_init_33 94) (gt_M_init_33 95) (gt_M_init_33 96) (by decide)
theorem d_M_init_3397 : decode b_M_init 3397 = .ok (.newarray .int, 2) := dc_newarray (gt_M_init_33 97) (gt_M_init_33 98) (fun _ => rfl)
theorem d_M_init_3399 : decode b_M_init 3399 = .ok (.putfield 113, 3) := dc_putfield (gt_M_init_33 99) (gt_M_init_34 0) (gt_M_init_34 1) rfl
theorem d_M_init_3402 : decode b_M_init 3402 = .ok (.aload_n 0, 1) := dc_aload0 (gt_M_init_34 2)
theorem d_M_init_3403 : decode b_M_init 3403 = .ok (.sipush 1400, 3) := dc_sipush (gt_M_init_34 3) (gt_M_init_34 4) (gt_M_init_34 5) (by decide)
theorem d_M_init_3406 : decode b_M_init 3406 = .ok (.newarray .int, 2) := dc_newarray (gt_M_init_34 6) (gt_M_init_34 7) (fun _ => rfl)
theorem d_M_init_3408 : decode b_M_init 3408 = .ok (.putfield 116, 3) := dc_putfield (gt_M_init_34 8) (gt_M_init_34 9) (gt_M_init_34 10) rfl
theorem d_M_init_3411 : decode b_M_init 3411 = .ok (.aload_n 0, 1) := dc_aload0 (gt_M_init_34 11)
theorem d_M_init_3412 : decode b_M_init 3412 = .ok (.sipush 1400, 3) := dc_sipush (gt_M_init_34 12) (gt_M_init_34 13) (gt_M_init_34 14) (by decide)
theorem d_M_init_3415 : decode b_M_init 3415 = .ok (.newarray .int, 2) := dc_newarray (gt_M_init_34 15) (gt_M_init_34 16) (fun _ => rfl)
theorem d_M_init_3417 : decode b_M_init 3417 = .ok (.putfield 119, 3) := dc_putfield (gt_M_init_34 17) (gt_M_init_34 18) (gt_M_init_34 19) rfl
theorem d_M_init_3420 : decode b_M_init 3420 = .ok (.aload_n 0, 1) := dc_aload0 (gt_M_init_34 20)
theorem d_M_init_3421 : decode b_M_init 3421 = .ok (.sipush 1000, 3) := dc_sipush (gt_M_init_34 21) (gt_M_init_34 22) (gt_M_init_34 23) (by decide)
theorem d_M_init_3424 : decode b_M_init 3424 = .ok (.newarray .int, 2) := dc_newarray (gt_M_init_34 24) (gt_M_init_34 25) (fun _ => rfl)
theorem d_M_init_3426 : decode b_M_init 3426 = .ok (.putfield 122, 3) := dc_putfield (gt_M_init_34 26) (gt_M_init_34 27) (gt_M_init_34 28) rfl
theorem d_M_init_3429 : decode b_M_init 3429 = .ok (.aload_n 0, 1) := dc_aload0 (gt_M_init_34 29)
theorem d_M_init_3430 : decode b_M_init 3430 = .ok (.sipush 1000, 3) := dc_sipush (gt_M_init_34 30) (gt_M_init_34 31) (gt_M_init_34 32) (by decide)
theorem d_M_init_3433 : decode b_M_init 3433 = .ok (.newarray .int, 2) := dc_newarray (gt_M_init_34 33) (gt_M_init_34 34) (fun _ => rfl)
theorem d_M_init_3435 : decode b_M_init 3435 = .ok (.putfield 125, 3) := dc_putfield (gt_M_init_34 35) (gt_M_init_34 36) (gt_M_init_34 37) rfl
theorem d_M_init_3438 : decode b_M_init 3438 = .ok (.aload_n 0, 1) := dc_aload0 (gt_M_init_34 38)
theorem d_M_init_3439 : decode b_M_init 3439 = .ok (.sipush 1000, 3) := dc_sipush (gt_M_init_34 39) (gt_M_init_34 40) (gt_M_init_34 41) (by decide)
theorem d_M_init_3442 : decode b_M_init 3442 = .ok (.newarray .int, 2) := dc_newarray (gt_M_init_34 42) (gt_M_init_34 43) (fun _ => rfl)
theorem d_M_init_3444 : decode b_M_init 3444 = .ok (.putfield 128, 3) := dc_putfield (gt_M_init_34 44) (gt_M_init_34 45) (gt_M_init_34 46) rfl
theorem d_M_init_3447 : decode b_M_init 3447 = .ok (.aload_n 0, 1) := dc_aload0 (gt_M_init_34 47)
theorem d_M_init_3448 : decode b_M_init 3448 = .ok (.sipush 1000, 3) := dc_sipush (gt_M_init_34 48) (gt_M_init_34 49) (gt_M_init_34 50) (by decide)
theorem d_M_init_3451 : decode b_M_init 3451 = .ok (.newarray .int, 2) := dc_newarray (gt_M_init_34 51) (gt_M_init_34 52) (fun _ => rfl)
theorem d_M_init_3453 : decode b_M_init 3453 = .ok (.putfield 131, 3) := dc_putfield (gt_M_init_34 53) (gt_M_init_34 54) (gt_M_init_34 55) rfl
theorem d_M_init_3456 : decode b_M_init 3456 = .ok (.aload_n 0, 1) := dc_aload0 (gt_M_init_34 56)
theorem d_M_init_3457 : decode b_M_init 3457 = .ok (.sipush 1000, 3) := dc_sipush (gt_M_init_34 57) (gt_M_init_34 58) (gt_M_init_34 59) (by decide)
theorem d_M_init_3460 : decode b_M_init 3460 = .ok (.newarray .int, 2) := dc_newarray (gt_M_init_34 60) (gt_M_init_34 61) (fun _ => rfl)
theorem d_M_init_3462 : decode b_M_init 3462 = .ok (.putfield 134, 3) := dc_putfield (gt_M_init_34 62) (gt_M_init_34 63) (gt_M_init_34 64) rfl
theorem d_M_init_3465 : decode b_M_init 3465 = .ok (.aload_n 0, 1) := dc_aload0 (gt_M_init_34 65)
theorem d_M_init_3466 : decode b_M_init 3466 = .ok (.sipush 1400, 3) := dc_sipush (gt_M_init_34 66) (gt_M_init_34 67) (gt_M_init_34 68) (by decide)
theorem d_M_init_3469 : decode b_M_init 3469 = .ok (.newarray .int, 2) := dc_newarray (gt_M_init_34 69) (gt_M_init_34 70) (fun _ => rfl)
theorem d_M_init_3471 : decode b_M_init 3471 = .ok (.putfield 137, 3) := dc_putfield (gt_M_init_34 71) (gt_M_init_34 72) (gt_M_init_34 73) rfl
theorem d_M_init_3474 : decode b_M_init 3474 = .ok (.aload_n 0, 1) := dc_aload0 (gt_M_init_34 74)
theorem d_M_init_3475 : decode b_M_init 3475 = .ok (.sipush 1400, 3) := dc_sipush (gt_M_init_34 75) (gt_M_init_34 76) (gt_M_init_34 77) (by decide)
theorem d_M_init_3478 : decode b_M_init 3478 = .ok (.newarray .int, 2) := dc_newarray (gt_M_init_34 78) (gt_M_init_34 79) (fun _ => rfl)
theorem d_M_init_3480 : decode b_M_init 3480 = .ok (.putfield 140, 3) := dc_putfield (gt_M_init_34 80) (gt_M_init_34 81) (gt_M_init_34 82) rfl
theorem d_M_init_3483 : decode b_M_init 3483 = .ok (.aload_n 0, 1) := dc_aload0 (gt_M_init_34 83)
theorem d_M_init_3484 : decode b_M_init 3484 = .ok (.sipush 1400, 3) := dc_sipush (gt_M_init_34 84) (gt_M_init_34 85) (gt_M_init_34 86) (by decide)
theorem d_M_init_3487 : decode b_M_init 3487 = .ok (.newarray .int, 2) := dc_newarray (gt_M_init_34 87) (gt_M_init_34 88) (fun _ => rfl)
theorem d_M_init_3489 : decode b_M_init 3489 = .ok (.putfield 143, 3) := dc_putfield (gt_M_init_34 89) (gt_M_init_34 90) (gt_M_init_34 91) rfl
theorem d_M_init_3492 : decode b_M_init 3492 = .ok (.aload_n 0, 1) := dc_aload0 (gt_M_init_34 92)
theorem d_M_init_3493 : decode b_M_init 3493 = .ok (.sipush 24000, 3) := dc_sipush (gt_M_init_34 93) (gt_M_init_34 94) (gt_M_init_34 95) (by decide)
theorem d_M_init_3496 : decode b_M_init 3496 = .ok (.newarray .int, 2) := dc_newarray (gt_M_init_34 96) (gt_M_init_34 97) (fun _ => rfl)
theorem d_M_init_3498 : decode b_M_init 3498 = .ok (.putfield 146, 3) := dc_putfield (gt_M_init_34 98) (gt_M_init_34 99) (gt_M_init_35 0) rfl
theorem d_M_init_3501 : decode b_M_init 3501 = .ok (.aload_n 0, 1) := dc_aload0 (gt_M_init_35 1)
theorem d_M_init_3502 : decode b_M_init 3502 = .ok (.ldc 149, 2) := dc_ldc (gt_M_init_35 2) (gt_M_init_35 3) rfl
theorem d_M_init_3504 : decode b_M_init 3504 = .ok (.newarray .int, 2) := dc_newarray (gt_M_init_35 4) (gt_M_init_35 5) (fun _ => rfl)
theorem d_M_init_3506 : decode b_M_init 3506 = .ok (.putfield 150, 3) := dc_putfield (gt_M_init_35 6) (gt_M_init_35 7) (gt_M_init_35 8) rfl
theorem d_M_init_3509 : decode b_M_init 3509 = .ok (.aload_n 0, 1) := dc_aload0 (gt_M_init_35 9)
theorem d_M_init_3510 : decode b_M_init 3510 = .ok (.bipush 27, 2) := dc_bipush (gt_M_init_35 10) (gt_M_init_35 11) rfl
theorem d_M_init_3512 : decode b_M_init 3512 = .ok (.newarray .int, 2) := dc_newarray (gt_M_init_35 12) (gt_M_init_35 13) (fun _ => rfl)
theorem d_M_init_3514 : decode b_M_init 3514 = .ok (.putfield 153, 3) := dc_putfield (gt_M_init_35 14) (gt_M_init_35 15) (gt_M_init_35 16) rfl
theorem d_M_init_3517 : decode b_M_init 3517 = .ok (.aload_n 0, 1) := dc_aload0 (gt_M_init_35 17)
theorem d_M_init_3518 : decode b_M_init 3518 = .ok (.ldc 149, 2) := dc_ldc (gt_M_init_35 18) (gt_M_init_35 19) rfl
theorem d_M_init_3520 : decode b_M_init 3520 = .ok (.newarray .int, 2) := dc_newarray (gt_M_init_35 20) (gt_M_init_35 21) (fun _ => rfl)
theorem d_M_init_3522 : decode b_M_init 3522 = .ok (.putfield 156, 3) := dc_putfield (gt_M_init_35 22) (gt_M_init_35 23) (gt_M_init_35 24) rfl
theorem d_M_init_3525 : decode b_M_init 3525 = .ok (.aload_n 0, 1) := dc_aload0 (gt_M_init_35 25)
theorem d_M_init_3526 : decode b_M_init 3526 = .ok (.ldc 149, 2) := dc_ldc (gt_M_init_35 26) (gt_M_init_35 27) rfl
theorem d_M_init_3528 : decode b_M_init 3528 = .ok (.newarray .int, 2) := dc_newarray (gt_M_init_35 28) (gt_M_init_35 29) (fun _ => rfl)
theorem d_M_init_3530 : decode b_M_init 3530 = .ok (.putfield 159, 3) := dc_putfield (gt_M_init_35 30) (gt_M_init_35 31) (gt_M_init_35 32) rfl
theorem d_M_init_3533 : decode b_M_init 3533 = .ok (.aload_n 0, 1) := dc_aload0 (gt_M_init_35 33)
theorem d_M_init_3534 : decode b_M_init 3534 = .ok (.bipush 27, 2) := dc_bipush (gt_M_init_35 34) (gt_M_init_35 35) rfl
theorem d_M_init_3536 : decode b_M_init 3536 = .ok (.newarray .int, 2) := dc_newarray (gt_M_init_35 36) (gt_M_init_35 37) (fun _ => rfl)
theorem d_M_init_3538 : decode b_M_init 3538 = .ok (.putfield 162, 3) := dc_putfield (gt_M_init_35 38) (gt_M_init_35 39) (gt_M_init_35 40) rfl
theorem d_M_init_3541 : decode b_M_init 3541 = .ok (.aload_n 0, 1) := dc_aload0 (gt_M_init_35 41)
theorem d_M_init_3542 : decode b_M_init 3542 = .ok (.bipush 27, 2) := dc_bipush (gt_M_init_35 42) (gt_M_init_35 43) rfl
theorem d_M_init_3544 : decode b_M_init 3544 = .ok (.newarray .int, 2) := dc_newarray (gt_M_init_35 44) (gt_M_init_35 45) (fun _ => rfl)
theorem d_M_init_3546 : decode b_M_init 3546 = .ok (.putfield 165, 3) := dc_putfield (gt_M_init_35 46) (gt_M_init_35 47) (gt_M_init_35 48) rfl
theorem d_M_init_3549 : decode b_M_init 3549 = .ok (.aload_n 0, 1) := dc_aload0 (gt_M_init_35 49)
theorem d_M_init_3550 : decode b_M_init 3550 = .ok (.sipush 400, 3) := dc_sipush (gt_M_init_35 50) (gt_M_init_35 51) (gt_M_init_35 52) (by decide)
theorem d_M_init_3553 : decode b_M_init 3553 = .ok (.newarray .int, 2) := dc_newarray (gt_M_init_35 53) (gt_M_init_35 54) (fun _ => rfl)
theorem d_M_init_3555 : decode b_M_init 3555 = .ok (.putfield 168, 3) := dc_putfield (gt_M_init_35 55) (gt_M_init_35 56) (gt_M_init_35 57) rfl
theorem d_M_init_3558 : decode b_M_init 3558 = .ok (.aload_n 0, 1) := dc_aload0 (gt_M_init_35 58)
theorem d_M_init_3559 : decode b_M_init 3559 = .ok (.sipush 3240, 3) := dc_sipush (gt_M_init_35 59) (gt_M_init_35 60) (gt_M_init_35 61) (by decide)
theorem d_M_init_3562 : decode b_M_init 3562 = .ok (.newarray .int, 2) := dc_newarray (gt_M_init_35 62) (gt_M_init_35 63) (fun _ => rfl)
theorem d_M_init_3564 : decode b_M_init 3564 = .ok (.putfield 171, 3) := dc_putfield (gt_M_init_35 64) (gt_M_init_35 65) (gt_M_init_35 66) rfl
theorem d_M_init_3567 : decode b_M_init 3567 = .ok (.aload_n 0, 1) := dc_aload0 (gt_M_init_35 67)
theorem d_M_init_3568 : decode b_M_init 3568 = .ok (.bipush 27, 2) := dc_bipush (gt_M_init_35 68) (gt_M_init_35 69) rfl
theorem d_M_init_3570 : decode b_M_init 3570 = .ok (.newarray .int, 2) := dc_newarray (gt_M_init_35 70) (gt_M_init_35 71) (fun _ => rfl)
theorem d_M_init_3572 : decode b_M_init 3572 = .ok (.putfield 174, 3) := dc_putfield (gt_M_init_35 72) (gt_M_init_35 73) (gt_M_init_35 74) rfl
theorem d_M_init_3575 : decode b_M_init 3575 = .ok (.aload_n 0, 1) := dc_aload0 (gt_M_init_35 75)
theorem d_M_init_3576 : decode b_M_init 3576 = .ok (.sipush 3000, 3) := dc_sipush (gt_M_init_35 76) (gt_M_init_35 77) (gt_M_init_35 78) (by decide)
theorem d_M_init_3579 : decode b_M_init 3579 = .ok (.newarray .byte, 2) := dc_newarray (gt_M_init_35 79) (gt_M_init_35 80) (fun _ => rfl)
theorem d_M_init_3581 : decode b_M_init 3581 = .ok (.putfield 177, 3) := dc_putfield (gt_M_init_35 81) (gt_M_init_35 82) (gt_M_init_35 83) rfl
theorem d_M_init_3584 : decode b_M_init 3584 = .ok (.aload_n 0, 1) := dc_aload0 (gt_M_init_35 84)
theorem d_M_init_3585 : decode b_M_init 3585 = .ok (.sipush 3000, 3) := dc_sipush (gt_M_init_35 85) (gt_M_init_35 86) (gt_M_init_35 87) (by decide)
theorem d_M_init_3588 : decode b_M_init 3588 = .ok (.newarray .short, 2) := dc_newarray (gt_M_init_35 88) (gt_M_init_35 89) (fun _ => rfl)
theorem d_M_init_3590 : decode b_M_init 3590 = .ok (.putfield 180, 3) := dc_putfield (gt_M_init_35 90) (gt_M_init_35 91) (gt_M_init_35 92) rfl
theorem d_M_init_3593 : decode b_M_init 3593 = .ok (.aload_n 0, 1) := dc_aload0 (gt_M_init_35 93)
theorem d_M_init_3594 : decode b_M_init 3594 = .ok (.sipush 3000, 3) := dc_sipush (gt_M_init_35 94) (gt_M_init_35 95) (gt_M_init_35 96) (by decide)
theorem d_M_init_3597 : decode b_M_init 3597 = .ok (.newarray .int, 2) := dc_newarray (gt_M_init_35 97) (gt_M_init_35 98) (fun _ => rfl)
theorem d_M_init_3599 : decode b_M_init 3599 = .ok (.putfield 183, 3) := dc_putfield (gt_M_init_35 99) (gt_M_init_36 0) (gt_M_init_36 1) rfl
theorem d_M_init_3602 : decode b_M_init 3602 = .ok (.aload_n 0, 1) := dc_aload0 (gt_M_init_36 2)
theorem d_M_init_3603 : decode b_M_init 3603 = .ok (.sipush 3000, 3) := dc_sipush (gt_M_init_36 3) (gt_M_init_36 4) (gt_M_init_36 5) (by decide)
theorem d_M_init_3606 : decode b_M_init 3606 = .ok (.newarray .int, 2) := dc_newarray (gt_M_init_36 6) (gt_M_init_36 7) (fun _ => rfl)
theorem d_M_init_3608 : decode b_M_init 3608 = .ok (.putfield 186, 3) := dc_putfield (gt_M_init_36 8) (gt_M_init_36 9) (gt_M_init_36 10) rfl
theorem d_M_init_3611 : decode b_M_init 3611 = .ok (.aload_n 0, 1) := dc_aload0 (gt_M_init_36 11)
theorem d_M_init_3612 : decode b_M_init 3612 = .ok (.sipush 12500, 3) := dc_sipush (gt_M_init_36 12) (gt_M_init_36 13) (gt_M_init_36 14) (by decide)
theorem d_M_init_3615 : decode b_M_init 3615 = .ok (.newarray .long, 2) := dc_newarray (gt_M_init_36 15) (gt_M_init_36 16) (fun _ => rfl)
theorem d_M_init_3617 : decode b_M_init 3617 = .ok (.putfield 189, 3) := dc_putfield (gt_M_init_36 17) (gt_M_init_36 18) (gt_M_init_36 19) rfl
theorem d_M_init_3620 : decode b_M_init 3620 = .ok (.aload_n 0, 1) := dc_aload0 (gt_M_init_36 20)
theorem d_M_init_3621 : decode b_M_init 3621 = .ok (.bipush 25, 2) := dc_bipush (gt_M_init_36 21) (gt_M_init_36 22) rfl
theorem d_M_init_3623 : decode b_M_init 3623 = .ok (.newarray .int, 2) := dc_newarray (gt_M_init_36 23) (gt_M_init_36 24) (fun _ => rfl)
theorem d_M_init_3625 : decode b_M_init 3625 = .ok (.putfield 192, 3) := dc_putfield (gt_M_init_36 25) (gt_M_init_36 26) (gt_M_init_36 27) rfl
theorem d_M_init_3628 : decode b_M_init 3628 = .ok (.aload_n 0, 1) := dc_aload0 (gt_M_init_36 28)
theorem d_M_init_3629 : decode b_M_init 3629 = .ok (.bipush 24, 2) := dc_bipush (gt_M_init_36 29) (gt_M_init_36 30) rfl
theorem d_M_init_3631 : decode b_M_init 3631 = .ok (.newarray .int, 2) := dc_newarray (gt_M_init_36 31) (gt_M_init_36 32) (fun _ => rfl)
theorem d_M_init_3633 : decode b_M_init 3633 = .ok (.putfield 195, 3) := dc_putfield (gt_M_init_36 33) (gt_M_init_36 34) (gt_M_init_36 35) rfl
theorem d_M_init_3636 : decode b_M_init 3636 = .ok (.aload_n 0, 1) := dc_aload0 (gt_M_init_36 36)
theorem d_M_init_3637 : decode b_M_init 3637 = .ok (.ldc 198, 2) := dc_ldc (gt_M_init_36 37) (gt_M_init_36 38) rfl
theorem d_M_init_3639 : decode b_M_init 3639 = .ok (.newarray .long, 2) := dc_newarray (gt_M_init_36 39) (gt_M_init_36 40) (fun _ => rfl)
theorem d_M_init_3641 : decode b_M_init 3641 = .ok (.putfield 199, 3) := dc_putfield (gt_M_init_36 41) (gt_M_init_36 42) (gt_M_init_36 43) rfl
theorem d_M_init_3644 : decode b_M_init 3644 = .ok (.aload_n 0, 1) := dc_aload0 (gt_M_init_36 44)
theorem d_M_init_3645 : decode b_M_init 3645 = .ok (.bipush 24, 2) := dc_bipush (gt_M_init_36 45) (gt_M_init_36 46) rfl
theorem d_M_init_3647 : decode b_M_init 3647 = .ok (.newarray .int, 2) := dc_newarray (gt_M_init_36 47) (gt_M_init_36 48) (fun _ => rfl)
theorem d_M_init_3649 : decode b_M_init 3649 = .ok (.putfield 202, 3) := dc_putfield (gt_M_init_36 49) (gt_M_init_36 50) (gt_M_init_36 51) rfl
theorem d_M_init_3652 : decode b_M_init 3652 = .ok (.aload_n 0, 1) := dc_aload0 (gt_M_init_36 52)
theorem d_M_init_3653 : decode b_M_init 3653 = .ok (.ldc 205, 2) := dc_ldc (gt_M_init_36 53) (gt_M_init_36 54) rfl
theorem d_M_init_3655 : decode b_M_init 3655 = .ok (.newarray .long, 2) := dc_newarray (gt_M_init_36 55) (gt_M_init_36 56) (fun _ => rfl)
theorem d_M_init_3657 : decode b_M_init 3657 = .ok (.putfield 206, 3) := dc_putfield (gt_M_init_36 57) (gt_M_init_36 58) (gt_M_init_36 59) rfl
theorem d_M_init_3660 : decode b_M_init 3660 = .ok (.aload_n 0, 1) := dc_aload0 (gt_M_init_36 60)
theorem d_M_init_3661 : decode b_M_init 3661 = .ok (.bipush 24, 2) := dc_bipush (gt_M_init_36 61) (gt_M_init_36 62) rfl
theorem d_M_init_3663 : decode b_M_init 3663 = .ok (.newarray .int, 2) := dc_newarray (gt_M_init_36 63) (gt_M_init_36 64) (fun _ => rfl)
theorem d_M_init_3665 : decode b_M_init 3665 = .ok (.putfield 209, 3) := dc_putfield (gt_M_init_36 65) (gt_M_init_36 66) (gt_M_init_36 67) rfl
theorem d_M_init_3668 : decode b_M_init 3668 = .ok (.aload_n 0, 1) := dc_aload0 (gt_M_init_36 68)
theorem d_M_init_3669 : decode b_M_init 3669 = .ok (.bipush 24, 2) := dc_bipush (gt_M_init_36 69) (gt_M_init_36 70) rfl
theorem d_M_init_3671 : decode b_M_init 3671 = .ok (.newarray .int, 2) := dc_newarray (gt_M_init_36 71) (gt_M_init_36 72) (fun _ => rfl)
theorem d_M_init_3673 : decode b_M_init 3673 = .ok (.putfield 212, 3) := dc_putfield (gt_M_init_36 73) (gt_M_init_36 74) (gt_M_init_36 75) rfl
theorem d_M_init_3676 : decode b_M_init 3676 = .ok (.aload_n 0, 1) := dc_aload0 (gt_M_init_36 76)
theorem d_M_init_3677 : decode b_M_init 3677 = .ok (.sipush 1440, 3) := dc_sipush (gt_M_init_36 77) (gt_M_init_36 78) (gt_M_init_36 79) (by decide)
theorem d_M_init_3680 : decode b_M_init 3680 = .ok (.newarray .int, 2) := dc_newarray (gt_M_init_36 80) (gt_M_init_36 81) (fun _ => rfl)
theorem d_M_init_3682 : decode b_M_init 3682 = .ok (.putfield 215, 3) := dc_putfield (gt_M_init_36 82) (gt_M_init_36 83) (gt_M_init_36 84) rfl
theorem d_M_init_3685 : decode b_M_init 3685 = .ok (.aload_n 0, 1) := dc_aload0 (gt_M_init_36 85)
theorem d_M_init_3686 : decode b_M_init 3686 = .ok (.sipush 1440, 3) := dc_sipush (gt_M_init_36 86) (gt_M_init_36 87) (gt_M_init_36 88) (by decide)
theorem d_M_init_3689 : decode b_M_init 3689 = .ok (.newarray .int, 2) := dc_newarray (gt_M_init_36 89) (gt_M_init_36 90) (fun _ => rfl)
theorem d_M_init_3691 : decode b_M_init 3691 = .ok (.putfield 218, 3) := dc_putfield (gt_M_init_36 91) (gt_M_init_36 92) (gt_M_init_36 93) rfl
theorem d_M_init_3694 : decode b_M_init 3694 = .ok (.aload_n 0, 1) := dc_aload0 (gt_M_init_36 94)
theorem d_M_init_3695 : decode b_M_init 3695 = .ok (.sipush 1440, 3) := dc_sipush (gt_M_init_36 95) (gt_M_init_36 96) (gt_M_init_36 97) (by decide)
theorem d_M_init_3698 : decode b_M_init 3698 = .ok (.newarray .int, 2) := dc_newarray (gt_M_init_36 98) (gt_M_init_36 99) (fun _ => rfl)
theorem d_M_init_3700 : decode b_M_init 3700 = .ok (.putfield 221, 3) := dc_putfield (gt_M_init_37 0) (gt_M_init_37 1) (gt_M_init_37 2) rfl
theorem d_M_init_3703 : decode b_M_init 3703 = .ok (.aload_n 0, 1) := dc_aload0 (gt_M_init_37 3)
theorem d_M_init_3704 : decode b_M_init 3704 = .ok (.sipush 1440, 3) := dc_sipush (gt_M_init_37 4) (gt_M_init_37 5) (gt_M_init_37 6) (by decide)
theorem d_M_init_3707 : decode b_M_init 3707 = .ok (.newarray .int, 2) := dc_newarray (gt_M_init_37 7) (gt_M_init_37 8) (fun _ => rfl)
theorem d_M_init_3709 : decode b_M_init 3709 = .ok (.putfield 224, 3) := dc_putfield (gt_M_init_37 9) (gt_M_init_37 10) (gt_M_init_37 11) rfl
theorem d_M_init_3712 : decode b_M_init 3712 = .ok (.aload_n 0, 1) := dc_aload0 (gt_M_init_37 12)
theorem d_M_init_3713 : decode b_M_init 3713 = .ok (.sipush 1440, 3) := dc_sipush (gt_M_init_37 13) (gt_M_init_37 14) (gt_M_init_37 15) (by decide)
theorem d_M_init_3716 : decode b_M_init 3716 = .ok (.newarray .int, 2) := dc_newarray (gt_M_init_37 16) (gt_M_init_37 17) (fun _ => rfl)
theorem d_M_init_3718 : decode b_M_init 3718 = .ok (.putfield 227, 3) := dc_putfield (gt_M_init_37 18) (gt_M_init_37 19) (gt_M_init_37 20) rfl
theorem d_M_init_3721 : decode b_M_init 3721 = .ok (.aload_n 0, 1) := dc_aload0 (gt_M_init_37 21)
theorem d_M_init_3722 : decode b_M_init 3722 = .ok (.sipush 1440, 3) := dc_sipush (gt_M_init_37 22) (gt_M_init_37 23) (gt_M_init_37 24) (by decide)
theorem d_M_init_3725 : decode b_M_init 3725 = .ok (.newarray .int, 2) := dc_newarray (gt_M_init_37 25) (gt_M_init_37 26) (fun _ => rfl)
theorem d_M_init_3727 : decode b_M_init 3727 = .ok (.putfield 230, 3) := dc_putfield (gt_M_init_37 27) (gt_M_init_37 28) (gt_M_init_37 29) rfl
theorem d_M_init_3730 : decode b_M_init 3730 = .ok (.aload_n 0, 1) := dc_aload0 (gt_M_init_37 30)
theorem d_M_init_3731 : decode b_M_init 3731 = .ok (.ldc 233, 2) := dc_ldc (gt_M_init_37 31) (gt_M_init_37 32) rfl
theorem d_M_init_3733 : decode b_M_init 3733 = .ok (.newarray .int, 2) := dc_newarray (gt_M_init_37 33) (gt_M_init_37 34) (fun _ => rfl)
theorem d_M_init_3735 : decode b_M_init 3735 = .ok (.putfield 234, 3) := dc_putfield (gt_M_init_37 35) (gt_M_init_37 36) (gt_M_init_37 37) rfl
theorem d_M_init_3738 : decode b_M_init 3738 = .ok (.aload_n 0, 1) := dc_aload0 (gt_M_init_37 38)
theorem d_M_init_3739 : decode b_M_init 3739 = .ok (.ldc 233, 2) := dc_ldc (gt_M_init_37 39) (gt_M_init_37 40) rfl
theorem d_M_init_3741 : decode b_M_init 3741 = .ok (.newarray .int, 2) := dc_newarray (gt_M_init_37 41) (gt_M_init_37 42) (fun _ => rfl)
theorem d_M_init_3743 : decode b_M_init 3743 = .ok (.putfield 237, 3) := dc_putfield (gt_M_init_37 43) (gt_M_init_37 44) (gt_M_init_37 45) rfl
theorem d_M_init_3746 : decode b_M_init 3746 = .ok (.aload_n 0, 1) := dc_aload0 (gt_M_init_37 46)
theorem d_M_init_3747 : decode b_M_init 3747 = .ok (.ldc 233, 2) := dc_ldc (gt_M_init_37 47) (gt_M_init_37 48) rfl
theorem d_M_init_3749 : decode b_M_init 3749 = .ok (.newarray .int, 2) := dc_newarray (gt_M_init_37 49) (gt_M_init_37 50) (fun _ => rfl)
theorem d_M_init_3751 : decode b_M_init 3751 = .ok (.putfield 240, 3) := dc_putfield (gt_M_init_37 51) (gt_M_init_37 52) (gt_M_init_37 53) rfl
theorem d_M_init_3754 : decode b_M_init 3754 = .ok (.aload_n 0, 1) := dc_aload0 (gt_M_init_37 54)
theorem d_M_init_3755 : decode b_M_init 3755 = .ok (.ldc 233, 2) := dc_ldc (gt_M_init_37 55) (gt_M_init_37 56) rfl
theorem d_M_init_3757 : decode b_M_init 3757 = .ok (.newarray .int, 2) := dc_newarray (gt_M_init_37 57) (gt_M_init_37 58) (fun _ => rfl)
theorem d_M_init_3759 : decode b_M_init 3759 = .ok (.putfield 243, 3) := dc_putfield (gt_M_init_37 59) (gt_M_init_37 60) (gt_M_init_37 61) rfl
theorem d_M_init_3762 : decode b_M_init 3762 = .ok (.aload_n 0, 1) := dc_aload0 (gt_M_init_37 62)
theorem d_M_init_3763 : decode b_M_init 3763 = .ok (.bipush 24, 2) := dc_bipush (gt_M_init_37 63) (gt_M_init_37 64) rfl
theorem d_M_init_3765 : decode b_M_init 3765 = .ok (.newarray .int, 2) := dc_newarray (gt_M_init_37 65) (gt_M_init_37 66) (fun _ => rfl)
theorem d_M_init_3767 : decode b_M_init 3767 = .ok (.putfield 246, 3) := dc_putfield (gt_M_init_37 67) (gt_M_init_37 68) (gt_M_init_37 69) rfl
theorem d_M_init_3770 : decode b_M_init 3770 = .ok (.aload_n 0, 1) := dc_aload0 (gt_M_init_37 70)
theorem d_M_init_3771 : decode b_M_init 3771 = .ok (.sipush 720, 3) := dc_sipush (gt_M_init_37 71) (gt_M_init_37 72) (gt_M_init_37 73) (by decide)
theorem d_M_init_3774 : decode b_M_init 3774 = .ok (.newarray .long, 2) := dc_newarray (gt_M_init_37 74) (gt_M_init_37 75) (fun _ => rfl)
theorem d_M_init_3776 : decode b_M_init 3776 = .ok (.putfield 249, 3) := dc_putfield (gt_M_init_37 76) (gt_M_init_37 77) (gt_M_init_37 78) rfl
theorem d_M_init_3779 : decode b_M_init 3779 = .ok (.aload_n 0, 1) := dc_aload0 (gt_M_init_37 79)
theorem d_M_init_3780 : decode b_M_init 3780 = .ok (.bipush 24, 2) := dc_bipush (gt_M_init_37 80) (gt_M_init_37 81) rfl
theorem d_M_init_3782 : decode b_M_init 3782 = .ok (.newarray .int, 2) := dc_newarray (gt_M_init_37 82) (gt_M_init_37 83) (fun _ => rfl)
theorem d_M_init_3784 : decode b_M_init 3784 = .ok (.putfield 252, 3) := dc_putfield (gt_M_init_37 84) (gt_M_init_37 85) (gt_M_init_37 86) rfl
theorem d_M_init_3787 : decode b_M_init 3787 = .ok (.aload_n 0, 1) := dc_aload0 (gt_M_init_37 87)
theorem d_M_init_3788 : decode b_M_init 3788 = .ok (.bipush 24, 2) := dc_bipush (gt_M_init_37 88) (gt_M_init_37 89) rfl
theorem d_M_init_3790 : decode b_M_init 3790 = .ok (.newarray .int, 2) := dc_newarray (gt_M_init_37 90) (gt_M_init_37 91) (fun _ => rfl)
theorem d_M_init_3792 : decode b_M_init 3792 = .ok (.putfield 255, 3) := dc_putfield (gt_M_init_37 92) (gt_M_init_37 93) (gt_M_init_37 94) rfl
theorem d_M_init_3795 : decode b_M_init 3795 = .ok (.aload_n 0, 1) := dc_aload0 (gt_M_init_37 95)
theorem d_M_init_3796 : decode b_M_init 3796 = .ok (.bipush 24, 2) := dc_bipush (gt_M_init_37 96) (gt_M_init_37 97) rfl
theorem d_M_init_3798 : decode b_M_init 3798 = .ok (.newarray .int, 2) := dc_newarray (gt_M_init_37 98) (gt_M_init_37 99) (fun _ => rfl)
theorem d_M_init_3800 : decode b_M_init 3800 = .ok (.putfield 258, 3) := dc_putfield (gt_M_init_38 0) (gt_M_init_38 1) (gt_M_init_38 2) rfl
theorem d_M_init_3803 : decode b_M_init 3803 = .ok (.aload_n 0, 1) := dc_aload0 (gt_M_init_38 3)
theorem d_M_init_3804 : decode b_M_init 3804 = .ok (.bipush 24, 2) := dc_bipush (gt_M_init_38 4) (gt_M_init_38 5) rfl
theorem d_M_init_3806 : decode b_M_init 3806 = .ok (.newarray .long, 2) := dc_newarray (gt_M_init_38 6) (gt_M_init_38 7) (fun _ => rfl)
theorem d_M_init_3808 : decode b_M_init 3808 = .ok (.putfield 261, 3) := dc_putfield (gt_M_init_38 8) (gt_M_init_38 9) (gt_M_init_38 10) rfl
theorem d_M_init_3811 : decode b_M_init 3811 = .ok (.aload_n 0, 1) := dc_aload0 (gt_M_init_38 11)
theorem d_M_init_3812 : decode b_M_init 3812 = .ok (.bipush 24, 2) := dc_bipush (gt_M_init_38 12) (gt_M_init_38 13) rfl
theorem d_M_init_3814 : decode b_M_init 3814 = .ok (.newarray .boolean, 2) := dc_newarray (gt_M_init_38 14) (gt_M_init_38 15) (fun _ => rfl)
theorem d_M_init_3816 : decode b_M_init 3816 = .ok (.putfield 264, 3) := dc_putfield (gt_M_init_38 16) (gt_M_init_38 17) (gt_M_init_38 18) rfl
theorem d_M_init_3819 : decode b_M_init 3819 = .ok (.aload_n 0, 1) := dc_aload0 (gt_M_init_38 19)
theorem d_M_init_3820 : decode b_M_init 3820 = .ok (.bipush 24, 2) := dc_bipush (gt_M_init_38 20) (gt_M_init_38 21) rfl
theorem d_M_init_3822 : decode b_M_init 3822 = .ok (.newarray .int, 2) := dc_newarray (gt_M_init_38 22) (gt_M_init_38 23) (fun _ => rfl)
theorem d_M_init_3824 : decode b_M_init 3824 = .ok (.putfield 267, 3) := dc_putfield (gt_M_init_38 24) (gt_M_init_38 25) (gt_M_init_38 26) rfl
theorem d_M_init_3827 : decode b_M_init 3827 = .ok (.aload_n 0, 1) := dc_aload0 (gt_M_init_38 27)
theorem d_M_init_3828 : decode b_M_init 3828 = .ok (.bipush 24, 2) := dc_bipush (gt_M_init_38 28) (gt_M_init_38 29) rfl
theorem d_M_init_3830 : decode b_M_init 3830 = .ok (.newarray .int, 2) := dc_newarray (gt_M_init_38 30) (gt_M_init_38 31) (fun _ => rfl)
theorem d_M_init_3832 : decode b_M_init 3832 = .ok (.putfield 270, 3) := dc_putfield (gt_M_init_38 32) (gt_M_init_38 33) (gt_M_init_38 34) rfl
theorem d_M_init_3835 : decode b_M_init 3835 = .ok (.aload_n 0, 1) := dc_aload0 (gt_M_init_38 35)
theorem d_M_init_3836 : decode b_M_init 3836 = .ok (.bipush 24, 2) := dc_bipush (gt_M_init_38 36) (gt_M_init_38 37) rfl
theorem d_M_init_3838 : decode b_M_init 3838 = .ok (.newarray .int, 2) := dc_newarray (gt_M_init_38 38) (gt_M_init_38 39) (fun _ => rfl)
theorem d_M_init_3840 : decode b_M_init 3840 = .ok (.putfield 273, 3) := dc_putfield (gt_M_init_38 40) (gt_M_init_38 41) (gt_M_init_38 42) rfl
theorem d_M_init_3843 : decode b_M_init 3843 = .ok (.aload_n 0, 1) := dc_aload0 (gt_M_init_38 43)
theorem d_M_init_3844 : decode b_M_init 3844 = .ok (.sipush 576, 3) := dc_sipush (gt_M_init_38 44) (gt_M_init_38 45) (gt_M_init_38 46) (by decide)
theorem d_M_init_3847 : decode b_M_init 3847 = .ok (.newarray .int, 2) := dc_newarray (gt_M_init_38 47) (gt_M_init_38 48) (fun _ => rfl)
theorem d_M_init_3849 : decode b_M_init 3849 = .ok (.putfield 276, 3) := dc_putfield (gt_M_init_38 49) (gt_M_init_38 50) (gt_M_init_38 51) rfl
theorem d_M_init_3852 : decode b_M_init 3852 = .ok (.aload_n 0, 1) := dc_aload0 (gt_M_init_38 52)
theorem d_M_init_3853 : decode b_M_init 3853 = .ok (.bipush 24, 2) := dc_bipush (gt_M_init_38 53) (gt_M_init_38 54) rfl
theorem d_M_init_3855 : decode b_M_init 3855 = .ok (.newarray .int, 2) := dc_newarray (gt_M_init_38 55) (gt_M_init_38 56) (fun _ => rfl)
theorem d_M_init_3857 : decode b_M_init 3857 = .ok (.putfield 279, 3) := dc_putfield (gt_M_init_38 57) (gt_M_init_38 58) (gt_M_init_38 59) rfl
theorem d_M_init_3860 : decode b_M_init 3860 = .ok (.aload_n 0, 1) := dc_aload0 (gt_M_init_38 60)
theorem d_M_init_3861 : decode b_M_init 3861 = .ok (.sipush 4000, 3) := dc_sipush (gt_M_init_38 61) (gt_M_init_38 62) (gt_M_init_38 63) (by decide)
theorem d_M_init_3864 : decode b_M_init 3864 = .ok (.newarray .int, 2) := dc_newarray (gt_M_init_38 64) (gt_M_init_38 65) (fun _ => rfl)
theorem d_M_init_3866 : decode b_M_init 3866 = .ok (.putfield 282, 3) := dc_putfield (gt_M_init_38 66) (gt_M_init_38 67) (gt_M_init_38 68) rfl
theorem d_M_init_3869 : decode b_M_init 3869 = .ok (.aload_n 0, 1) := dc_aload0 (gt_M_init_38 69)
theorem d_M_init_3870 : decode b_M_init 3870 = .ok (.sipush 4000, 3) := dc_sipush (gt_M_init_38 70) (gt_M_init_38 71) (gt_M_init_38 72) (by decide)
theorem d_M_init_3873 : decode b_M_init 3873 = .ok (.newarray .int, 2) := dc_newarray (gt_M_init_38 73) (gt_M_init_38 74) (fun _ => rfl)
theorem d_M_init_3875 : decode b_M_init 3875 = .ok (.putfield 285, 3) := dc_putfield (gt_M_init_38 75) (gt_M_init_38 76) (gt_M_init_38 77) rfl
theorem d_M_init_3878 : decode b_M_init 3878 = .ok (.aload_n 0, 1) := dc_aload0 (gt_M_init_38 78)
theorem d_M_init_3879 : decode b_M_init 3879 = .ok (.sipush 4000, 3) := dc_sipush (gt_M_init_38 79) (gt_M_init_38 80) (gt_M_init_38 81) (by decide)
theorem d_M_init_3882 : decode b_M_init 3882 = .ok (.newarray .int, 2) := dc_newarray (gt_M_init_38 82) (gt_M_init_38 83) (fun _ => rfl)
theorem d_M_init_3884 : decode b_M_init 3884 = .ok (.putfield 288, 3) := dc_putfield (gt_M_init_38 84) (gt_M_init_38 85) (gt_M_init_38 86) rfl
theorem d_M_init_3887 : decode b_M_init 3887 = .ok (.aload_n 0, 1) := dc_aload0 (gt_M_init_38 87)
theorem d_M_init_3888 : decode b_M_init 3888 = .ok (.sipush 20000, 3) := dc_sipush (gt_M_init_38 88) (gt_M_init_38 89) (gt_M_init_38 90) (by decide)
theorem d_M_init_3891 : decode b_M_init 3891 = .ok (.newarray .byte, 2) := dc_newarray (gt_M_init_38 91) (gt_M_init_38 92) (fun _ => rfl)
theorem d_M_init_3893 : decode b_M_init 3893 = .ok (.putfield 291, 3) := dc_putfield (gt_M_init_38 93) (gt_M_init_38 94) (gt_M_init_38 95) rfl
theorem d_M_init_3896 : decode b_M_init 3896 = .ok (.aload_n 0, 1) := dc_aload0 (gt_M_init_38 96)
theorem d_M_init_3897 : decode b_M_init 3897 = .ok (.sipush 200, 3) := dc_sipush (gt_M_init_38 97) (gt_M_init_38 98) (gt_M_init_38 99) (by decide)
theorem d_M_init_3900 : decode b_M_init 3900 = .ok (.newarray .int, 2) := dc_newarray (gt_M_init_39 0) (gt_M_init_39 1) (fun _ => rfl)
theorem d_M_init_3902 : decode b_M_init 3902 = .ok (.putfield 294, 3) := dc_putfield (gt_M_init_39 2) (gt_M_init_39 3) (gt_M_init_39 4) rfl
theorem d_M_init_3905 : decode b_M_init 3905 = .ok (.aload_n 0, 1) := dc_aload0 (gt_M_init_39 5)
theorem d_M_init_3906 : decode b_M_init 3906 = .ok (.bipush 100, 2) := dc_bipush (gt_M_init_39 6) (gt_M_init_39 7) rfl
theorem d_M_init_3908 : decode b_M_init 3908 = .ok (.newarray .byte, 2) := dc_newarray (gt_M_init_39 8) (gt_M_init_39 9) (fun _ => rfl)
theorem d_M_init_3910 : decode b_M_init 3910 = .ok (.putfield 297, 3) := dc_putfield (gt_M_init_39 10) (gt_M_init_39 11) (gt_M_init_39 12) rfl
theorem d_M_init_3913 : decode b_M_init 3913 = .ok (.aload_n 0, 1) := dc_aload0 (gt_M_init_39 13)
theorem d_M_init_3914 : decode b_M_init 3914 = .ok (.sipush 2400, 3) := dc_sipush (gt_M_init_39 14) (gt_M_init_39 15) (gt_M_init_39 16) (by decide)
theorem d_M_init_3917 : decode b_M_init 3917 = .ok (.newarray .byte, 2) := dc_newarray (gt_M_init_39 17) (gt_M_init_39 18) (fun _ => rfl)
theorem d_M_init_3919 : decode b_M_init 3919 = .ok (.putfield 300, 3) := dc_putfield (gt_M_init_39 19) (gt_M_init_39 20) (gt_M_init_39 21) rfl
theorem d_M_init_3922 : decode b_M_init 3922 = .ok (.aload_n 0, 1) := dc_aload0 (gt_M_init_39 22)
theorem d_M_init_3923 : decode b_M_init 3923 = .ok (.bipush 24, 2) := dc_bipush (gt_M_init_39 23) (gt_M_init_39 24) rfl
theorem d_M_init_3925 : decode b_M_init 3925 = .ok (.newarray .int, 2) := dc_newarray (gt_M_init_39 25) (gt_M_init_39 26) (fun _ => rfl)
theorem d_M_init_3927 : decode b_M_init 3927 = .ok (.putfield 303, 3) := dc_putfield (gt_M_init_39 27) (gt_M_init_39 28) (gt_M_init_39 29) rfl
theorem d_M_init_3930 : decode b_M_init 3930 = .ok (.aload_n 0, 1) := dc_aload0 (gt_M_init_39 30)
theorem d_M_init_3931 : decode b_M_init 3931 = .ok (.sipush 500, 3) := dc_sipush (gt_M_init_39 31) (gt_M_init_39 32) (gt_M_init_39 33) (by decide)
theorem d_M_init_3934 : decode b_M_init 3934 = .ok (.newarray .long, 2) := dc_newarray (gt_M_init_39 34) (gt_M_init_39 35) (fun _ => rfl)
theorem d_M_init_3936 : decode b_M_init 3936 = .ok (.putfield 306, 3) := dc_putfield (gt_M_init_39 36) (gt_M_init_39 37) (gt_M_init_39 38) rfl
theorem d_M_init_3939 : decode b_M_init 3939 = .ok (.aload_n 0, 1) := dc_aload0 (gt_M_init_39 39)
theorem d_M_init_3940 : decode b_M_init 3940 = .ok (.sipush 500, 3) := dc_sipush (gt_M_init_39 40) (gt_M_init_39 41) (gt_M_init_39 42) (by decide)
theorem d_M_init_3943 : decode b_M_init 3943 = .ok (.newarray .int, 2) := dc_newarray (gt_M_init_39 43) (gt_M_init_39 44) (fun _ => rfl)
theorem d_M_init_3945 : decode b_M_init 3945 = .ok (.putfield 309, 3) := dc_putfield (gt_M_init_39 45) (gt_M_init_39 46) (gt_M_init_39 47) rfl
theorem d_M_init_3948 : decode b_M_init 3948 = .ok (.aload_n 0, 1) := dc_aload0 (gt_M_init_39 48)
theorem d_M_init_3949 : decode b_M_init 3949 = .ok (.sipush 500, 3) := dc_sipush (gt_M_init_39 49) (gt_M_init_39 50) (gt_M_init_39 51) (by decide)
theorem d_M_init_3952 : decode b_M_init 3952 = .ok (.newarray .long, 2) := dc_newarray (gt_M_init_39 52) (gt_M_init_39 53) (fun _ => rfl)
theorem d_M_init_3954 : decode b_M_init 3954 = .ok (.putfield 312, 3) := dc_putfield (gt_M_init_39 54) (gt_M_init_39 55) (gt_M_init_39 56) rfl
theorem d_M_init_3957 : decode b_M_init 3957 = .ok (.aload_n 0, 1) := dc_aload0 (gt_M_init_39 57)
theorem d_M_init_3958 : decode b_M_init 3958 = .ok (.bipush 6, 2) := dc_bipush (gt_M_init_39 58) (gt_M_init_39 59) rfl
theorem d_M_init_3960 : decode b_M_init 3960 = .ok (.iconst 0, 1) := dc_iconst_0 (gt_M_init_39 60)
theorem d_M_init_3961 : decode b_M_init 3961 = .ok (.invokestatic 315, 3) := dc_invokestatic (gt_M_init_39 61) (gt_M_init_39 62) (gt_M_init_39 63) rfl
theorem d_M_init_3964 : decode b_M_init 3964 = .ok (.putfield 319, 3) := dc_putfield (gt_M_init_39 64) (gt_M_init_39 65) (gt_M_init_39 66) rfl
theorem d_M_init_3967 : decode b_M_init 3967 = .ok (.aload_n 0, 1) := dc_aload0 (gt_M_init_39 67)
theorem d_M_init_3968 : decode b_M_init 3968 = .ok (.iconst (-1), 1) := dc_iconst_m1 (gt_M_init_39 68)
theorem d_M_init_3969 : decode b_M_init 3969 = .ok (.putfield 323, 3) := dc_putfield (gt_M_init_39 69) (gt_M_init_39 70) (gt_M_init_39 71) rfl
theorem d_M_init_3972 : decode b_M_init 3972 = .ok (.aload_n 0, 1) := dc_aload0 (gt_M_init_39 72)
theorem d_M_init_3973 : decode b_M_init 3973 = .ok (.sipush 3000, 3) := dc_sipush (gt_M_init_39 73) (gt_M_init_39 74) (gt_M_init_39 75) (by decide)
theorem d_M_init_3976 : decode b_M_init 3976 = .ok (.newarray .long, 2) := dc_newarray (gt_M_init_39 76) (gt_M_init_39 77) (fun _ => rfl)
theorem d_M_init_3978 : decode b_M_init 3978 = .ok (.putfield 327, 3) := dc_putfield (gt_M_init_39 78) (gt_M_init_39 79) (gt_M_init_39 80) rfl
theorem d_M_init_3981 : decode b_M_init 3981 = .ok (.aload_n 0, 1) := dc_aload0 (gt_M_init_39 81)
theorem d_M_init_3982 : decode b_M_init 3982 = .ok (.sipush 3000, 3) := dc_sipush (gt_M_init_39 82) (gt_M_init_39 83) (gt_M_init_39 84) (by decide)
theorem d_M_init_3985 : decode b_M_init 3985 = .ok (.newarray .int, 2) := dc_newarray (gt_M_init_39 85) (gt_M_init_39 86) (fun _ => rfl)
theorem d_M_init_3987 : decode b_M_init 3987 = .ok (.putfield 330, 3) := dc_putfield (gt_M_init_39 87) (gt_M_init_39 88) (gt_M_init_39 89) rfl
theorem d_M_init_3990 : decode b_M_init 3990 = .ok (.aload_n 0, 1) := dc_aload0 (gt_M_init_39 90)
theorem d_M_init_3991 : decode b_M_init 3991 = .ok (.bipush 100, 2) := dc_bipush (gt_M_init_39 91) (gt_M_init_39 92) rfl
theorem d_M_init_3993 : decode b_M_init 3993 = .ok (.newarray .byte, 2) := dc_newarray (gt_M_init_39 93) (gt_M_init_39 94) (fun _ => rfl)
theorem d_M_init_3995 : decode b_M_init 3995 = .ok (.putfield 333, 3) := dc_putfield (gt_M_init_39 95) (gt_M_init_39 96) (gt_M_init_39 97) rfl
theorem d_M_init_3998 : decode b_M_init 3998 = .ok (.aload_n 0, 1) := dc_aload0 (gt_M_init_39 98)
theorem d_M_init_3999 : decode b_M_init 3999 = .ok (.sipush 4000, 3) := dc_sipush (gt_M_init_39 99) (gt_M_init_40 0) (gt_M_init_40 1) (by decide)
theorem d_M_init_4002 : decode b_M_init 4002 = .ok (.newarray .int, 2) := dc_newarray (gt_M_init_40 2) (gt_M_init_40 3) (fun _ => rfl)
theorem d_M_init_4004 : decode b_M_init 4004 = .ok (.putfield 336, 3) := dc_putfield (gt_M_init_40 4) (gt_M_init_40 5) (gt_M_init_40 6) rfl
theorem d_M_init_4007 : decode b_M_init 4007 = .ok (.aload_n 0, 1) := dc_aload0 (gt_M_init_40 7)
theorem d_M_init_4008 : decode b_M_init 4008 = .ok (.sipush 4000, 3) := dc_sipush (gt_M_init_40 8) (gt_M_init_40 9) (gt_M_init_40 10) (by decide)
theorem d_M_init_4011 : decode b_M_init 4011 = .ok (.newarray .int, 2) := dc_newarray (gt_M_init_40 11) (gt_M_init_40 12) (fun _ => rfl)
theorem d_M_init_4013 : decode b_M_init 4013 = .ok (.putfield 339, 3) := dc_putfield (gt_M_init_40 13) (gt_M_init_40 14) (gt_M_init_40 15) rfl
theorem d_M_init_4016 : decode b_M_init 4016 = .ok (.aload_n 0, 1) := dc_aload0 (gt_M_init_40 16)
theorem d_M_init_4017 : decode b_M_init 4017 = .ok (.sipush 4000, 3) := dc_sipush (gt_M_init_40 17) (gt_M_init_40 18) (gt_M_init_40 19) (by decide)
theorem d_M_init_4020 : decode b_M_init 4020 = .ok (.newarray .int, 2) := dc_newarray (gt_M_init_40 20) (gt_M_init_40 21) (fun _ => rfl)
theorem d_M_init_4022 : decode b_M_init 4022 = .ok (.putfield 342, 3) := dc_putfield (gt_M_init_40 22) (gt_M_init_40 23) (gt_M_init_40 24) rfl
theorem d_M_init_4025 : decode b_M_init 4025 = .ok (.aload_n 0, 1) := dc_aload0 (gt_M_init_40 25)
theorem d_M_init_4026 : decode b_M_init 4026 = .ok (.sipush 4000, 3) := dc_sipush (gt_M_init_40 26) (gt_M_init_40 27) (gt_M_init_40 28) (by decide)
theorem d_M_init_4029 : decode b_M_init 4029 = .ok (.newarray .long, 2) := dc_newarray (gt_M_init_40 29) (gt_M_init_40 30) (fun _ => rfl)
theorem d_M_init_4031 : decode b_M_init 4031 = .ok (.putfield 345, 3) := dc_putfield (gt_M_init_40 31) (gt_M_init_40 32) (gt_M_init_40 33) rfl
theorem d_M_init_4034 : decode b_M_init 4034 = .ok (.aload_n 0, 1) := dc_aload0 (gt_M_init_40 34)
theorem d_M_init_4035 : decode b_M_init 4035 = .ok (.sipush 3000, 3) := dc_sipush (gt_M_init_40 35) (gt_M_init_40 36) (gt_M_init_40 37) (by decide)
theorem d_M_init_4038 : decode b_M_init 4038 = .ok (.newarray .int, 2) := dc_newarray (gt_M_init_40 38) (gt_M_init_40 39) (fun _ => rfl)
theorem d_M_init_4040 : decode b_M_init 4040 = .ok (.putfield 348, 3) := dc_putfield (gt_M_init_40 40) (gt_M_init_40 41) (gt_M_init_40 42) rfl
theorem d_M_init_4043 : decode b_M_init 4043 = .ok (.aload_n 0, 1) := dc_aload0 (gt_M_init_40 43)
theorem d_M_init_4044 : decode b_M_init 4044 = .ok (.sipush 3000, 3) := dc_sipush (gt_M_init_40 44) (gt_M_init_40 45) (gt_M_init_40 46) (by decide)
theorem d_M_init_4047 : decode b_M_init 4047 = .ok (.newarray .long, 2) := dc_newarray (gt_M_init_40 47) (gt_M_init_40 48) (fun _ => rfl)
theorem d_M_init_4049 : decode b_M_init 4049 = .ok (.putfield 351, 3) := dc_putfield (gt_M_init_40 49) (gt_M_init_40 50) (gt_M_init_40 51) rfl
theorem d_M_init_4052 : decode b_M_init 4052 = .ok (.aload_n 0, 1) := dc_aload0 (gt_M_init_40 52)
theorem d_M_init_4053 : decode b_M_init 4053 = .ok (.bipush 10, 2) := dc_bipush (gt_M_init_40 53) (gt_M_init_40 54) rfl
theorem d_M_init_4055 : decode b_M_init 4055 = .ok (.newarray .int, 2) := dc_newarray (gt_M_init_40 55) (gt_M_init_40 56) (fun _ => rfl)
theorem d_M_init_4057 : decode b_M_init 4057 = .ok (.putfield 354, 3) := dc_putfield (gt_M_init_40 57) (gt_M_init_40 58) (gt_M_init_40 59) rfl
theorem d_M_init_4060 : decode b_M_init 4060 = .ok (.aload_n 0, 1) := dc_aload0 (gt_M_init_40 60)
theorem d_M_init_4061 : decode b_M_init 4061 = .ok (.bipush 10, 2) := dc_bipush (gt_M_init_40 61) (gt_M_init_40 62) rfl
theorem d_M_init_4063 : decode b_M_init 4063 = .ok (.newarray .long, 2) := dc_newarray (gt_M_init_40 63) (gt_M_init_40 64) (fun _ => rfl)
theorem d_M_init_4065 : decode b_M_init 4065 = .ok (.putfield 357, 3) := dc_putfield (gt_M_init_40 65) (gt_M_init_40 66) (gt_M_init_40 67) rfl
theorem d_M_init_4068 : decode b_M_init 4068 = .ok (.aload_n 0, 1) := dc_aload0 (gt_M_init_40 68)
theorem d_M_init_4069 : decode b_M_init 4069 = .ok (.sipush 500, 3) := dc_sipush (gt_M_init_40 69) (gt_M_init_40 70) (gt_M_init_40 71) (by decide)
theorem d_M_init_4072 : decode b_M_init 4072 = .ok (.newarray .long, 2) := dc_newarray (gt_M_init_40 72) (gt_M_init_40 73) (fun _ => rfl)
theorem d_M_init_4074 : decode b_M_init 4074 = .ok (.putfield 360, 3) := dc_putfield (gt_M_init_40 74) (gt_M_init_40 75) (gt_M_init_40 76) rfl
theorem d_M_init_4077 : decode b_M_init 4077 = .ok (.aload_n 0, 1) := dc_aload0 (gt_M_init_40 77)
theorem d_M_init_4078 : decode b_M_init 4078 = .ok (.sipush 500, 3) := dc_sipush (gt_M_init_40 78) (gt_M_init_40 79) (gt_M_init_40 80) (by decide)
theorem d_M_init_4081 : decode b_M_init 4081 = .ok (.newarray .boolean, 2) := dc_newarray (gt_M_init_40 81) (gt_M_init_40 82) (fun _ => rfl)
theorem d_M_init_4083 : decode b_M_init 4083 = .ok (.putfield 363, 3) := dc_putfield (gt_M_init_40 83) (gt_M_init_40 84) (gt_M_init_40 85) rfl
theorem d_M_init_4086 : decode b_M_init 4086 = .ok (.aload_n 0, 1) := dc_aload0 (gt_M_init_40 86)
theorem d_M_init_4087 : decode b_M_init 4087 = .ok (.bipush 24, 2) := dc_bipush (gt_M_init_40 87) (gt_M_init_40 88) rfl
theorem d_M_init_4089 : decode b_M_init 4089 = .ok (.newarray .int, 2) := dc_newarray (gt_M_init_40 89) (gt_M_init_40 90) (fun _ => rfl)
theorem d_M_init_4091 : decode b_M_init 4091 = .ok (.putfield 366, 3) := dc_putfield (gt_M_init_40 91) (gt_M_init_40 92) (gt_M_init_40 93) rfl
theorem d_M_init_4094 : decode b_M_init 4094 = .ok (.return_, 1) := dc_return (gt_M_init_40 94)
end
section
set_option maxRecDepth 100000 in
theorem lk_M_0 : Cond.fieldLink R_M 7 R_M (F_M 0).2.1 (F_M 0).2.2.1 ∈ wd_tbl := wd_of 2105 (by decide +kernel) rfl
set_option maxRecDepth 100000 in
theorem lk_M_1 : Cond.fieldLink R_M 13 R_M (F_M 1).2.1 (F_M 1).2.2.1 ∈ wd_tbl := wd_of 2106 (by decide +kernel) rfl
set_option maxRecDepth 100000 in
theorem lk_M_2 : Cond.fieldLink R_M 16 R_M (F_M 2).2.1 (F_M 2).2.2.1 ∈ wd_tbl := wd_of 2107 (by decide +kernel) rfl
set_option maxRecDepth 100000 in
theorem lk_M_3 : Cond.fieldLink R_M 369 R_M (F_M 3).2.1 (F_M 3).2.2.1 ∈ wd_tbl := wd_of 2108 (by decide +kernel) rfl
set_option maxRecDepth 100000 in
theorem lk_M_4 : Cond.fieldLink R_M 19 R_M (F_M 4).2.1 (F_M 4).2.2.1 ∈ wd_tbl := wd_of 2109 (by decide +kernel) rfl
set_option maxRecDepth 100000 in
theorem lk_M_5 : Cond.fieldLink R_M 372 R_M (F_M 5).2.1 (F_M 5).2.2.1 ∈ wd_tbl := wd_of 2110 (by decide +kernel) rfl
set_option maxRecDepth 100000 in
theorem lk_M_6 : Cond.fieldLink R_M 22 R_M (F_M 6).2.1 (F_M 6).2.2.1 ∈ wd_tbl := wd_of 2111 (by decide +kernel) rfl
set_option maxRecDepth 100000 in
theorem lk_M_7 : Cond.fieldLink R_M 25 R_M (F_M 7).2.1 (F_M 7).2.2.1 ∈ wd_tbl := wd_of 2112 (by decide +kernel) rfl
set_option maxRecDepth 100000 in
theorem lk_M_8 : Cond.fieldLink R_M 29 R_M (F_M 8).2.1 (F_M 8).2.2.1 ∈ wd_tbl := wd_of 2113 (by decide +kernel) rfl
set_option maxRecDepth 100000 in
theorem lk_M_9 : Cond.fieldLink R_M 402 R_M (F_M 9).2.1 (F_M 9).2.2.1 ∈ wd_tbl := wd_of 2114 (by decide +kernel) rfl
set_option maxRecDepth 100000 in
theorem lk_M_10 : Cond.fieldLink R_M 408 R_M (F_M 10).2.1 (F_M 10).2.2.1 ∈ wd_tbl := wd_of 2115 (by decide +kernel) rfl
set_option maxRecDepth 100000 in
theorem lk_M_11 : Cond.fieldLink R_M 405 R_M (F_M 11).2.1 (F_M 11).2.2.1 ∈ wd_tbl := wd_of 2116 (by decide +kernel) rfl
set_option maxRecDepth 100000 in
theorem lk_M_12 : Cond.fieldLink R_M 32 R_M (F_M 12).2.1 (F_M 12).2.2.1 ∈ wd_tbl := wd_of 2117 (by decide +kernel) rfl
set_option maxRecDepth 100000 in
theorem lk_M_13 : Cond.fieldLink R_M 35 R_M (F_M 13).2.1 (F_M 13).2.2.1 ∈ wd_tbl := wd_of 2118 (by decide +kernel) rfl
set_option maxRecDepth 100000 in
theorem lk_M_14 : Cond.fieldLink R_M 385 R_M (F_M 14).2.1 (F_M 14).2.2.1 ∈ wd_tbl := wd_of 2119 (by decide +kernel) rfl
set_option maxRecDepth 100000 in
theorem lk_M_15 : Cond.fieldLink R_M 38 R_M (F_M 15).2.1 (F_M 15).2.2.1 ∈ wd_tbl := wd_of 2120 (by decide +kernel) rfl
set_option maxRecDepth 100000 in
theorem lk_M_16 : Cond.fieldLink R_M 41 R_M (F_M 16).2.1 (F_M 16).2.2.1 ∈ wd_tbl := wd_of 2121 (by decide +kernel) rfl
set_option maxRecDepth 100000 in
theorem lk_M_17 : Cond.fieldLink R_M 392 R_M (F_M 17).2.1 (F_M 17).2.2.1 ∈ wd_tbl := wd_of 2122 (by decide +kernel) rfl
set_option maxRecDepth 100000 in
theorem lk_M_18 : Cond.fieldLink R_M 44 R_M (F_M 18).2.1 (F_M 18).2.2.1 ∈ wd_tbl := wd_of 2123 (by decide +kernel) rfl
set_option maxRecDepth 100000 in
theorem lk_M_19 : Cond.fieldLink R_M 47 R_M (F_M 19).2.1 (F_M 19).2.2.1 ∈ wd_tbl := wd_of 2124 (by decide +kernel) rfl
set_option maxRecDepth 100000 in
theorem lk_M_20 : Cond.fieldLink R_M 395 R_M (F_M 20).2.1 (F_M 20).2.2.1 ∈ wd_tbl := wd_of 2125 (by decide +kernel) rfl
set_option maxRecDepth 100000 in
theorem lk_M_21 : Cond.fieldLink R_M 50 R_M (F_M 21).2.1 (F_M 21).2.2.1 ∈ wd_tbl := wd_of 2126 (by decide +kernel) rfl
set_option maxRecDepth 100000 in
theorem lk_M_22 : Cond.fieldLink R_M 53 R_M (F_M 22).2.1 (F_M 22).2.2.1 ∈ wd_tbl := wd_of 2127 (by decide +kernel) rfl
set_option maxRecDepth 100000 in
theorem lk_M_23 : Cond.fieldLink R_M 56 R_M (F_M 23).2.1 (F_M 23).2.2.1 ∈ wd_tbl := wd_of 2128 (by decide +kernel) rfl
set_option maxRecDepth 100000 in
theorem lk_M_24 : Cond.fieldLink R_M 59 R_M (F_M 24).2.1 (F_M 24).2.2.1 ∈ wd_tbl := wd_of 2129 (by decide +kernel) rfl
set_option maxRecDepth 100000 in
theorem lk_M_25 : Cond.fieldLink R_M 63 R_M (F_M 25).2.1 (F_M 25).2.2.1 ∈ wd_tbl := wd_of 2130 (by decide +kernel) rfl
set_option maxRecDepth 100000 in
theorem lk_M_26 : Cond.fieldLink R_M 66 R_M (F_M 26).2.1 (F_M 26).2.2.1 ∈ wd_tbl := wd_of 2131 (by decide +kernel) rfl
set_option maxRecDepth 100000 in
theorem lk_M_27 : Cond.fieldLink R_M 69 R_M (F_M 27).2.1 (F_M 27).2.2.1 ∈ wd_tbl := wd_of 2132 (by decide +kernel) rfl
set_option maxRecDepth 100000 in
theorem lk_M_28 : Cond.fieldLink R_M 72 R_M (F_M 28).2.1 (F_M 28).2.2.1 ∈ wd_tbl := wd_of 2133 (by decide +kernel) rfl
set_option maxRecDepth 100000 in
theorem lk_M_29 : Cond.fieldLink R_M 75 R_M (F_M 29).2.1 (F_M 29).2.2.1 ∈ wd_tbl := wd_of 2134 (by decide +kernel) rfl
set_option maxRecDepth 100000 in
theorem lk_M_30 : Cond.fieldLink R_M 78 R_M (F_M 30).2.1 (F_M 30).2.2.1 ∈ wd_tbl := wd_of 2135 (by decide +kernel) rfl
set_option maxRecDepth 100000 in
theorem lk_M_31 : Cond.fieldLink R_M 82 R_M (F_M 31).2.1 (F_M 31).2.2.1 ∈ wd_tbl := wd_of 2136 (by decide +kernel) rfl
set_option maxRecDepth 100000 in
theorem lk_M_32 : Cond.fieldLink R_M 448 R_M (F_M 32).2.1 (F_M 32).2.2.1 ∈ wd_tbl := wd_of 2137 (by decide +kernel) rfl
set_option maxRecDepth 100000 in
theorem lk_M_33 : Cond.fieldLink R_M 85 R_M (F_M 33).2.1 (F_M 33).2.2.1 ∈ wd_tbl := wd_of 2138 (by decide +kernel) rfl
set_option maxRecDepth 100000 in
theorem lk_M_34 : Cond.fieldLink R_M 88 R_M (F_M 34).2.1 (F_M 34).2.2.1 ∈ wd_tbl := wd_of 2139 (by decide +kernel) rfl
set_option maxRecDepth 100000 in
theorem lk_M_35 : Cond.fieldLink R_M 92 R_M (F_M 35).2.1 (F_M 35).2.2.1 ∈ wd_tbl := wd_of 2140 (by decide +kernel) rfl
set_option maxRecDepth 100000 in
theorem lk_M_36 : Cond.fieldLink R_M 95 R_M (F_M 36).2.1 (F_M 36).2.2.1 ∈ wd_tbl := wd_of 2141 (by decide +kernel) rfl
set_option maxRecDepth 100000 in
theorem lk_M_37 : Cond.fieldLink R_M 98 R_M (F_M 37).2.1 (F_M 37).2.2.1 ∈ wd_tbl := wd_of 2142 (by decide +kernel) rfl
set_option maxRecDepth 100000 in
theorem lk_M_38 : Cond.fieldLink R_M 101 R_M (F_M 38).2.1 (F_M 38).2.2.1 ∈ wd_tbl := wd_of 2143 (by decide +kernel) rfl
set_option maxRecDepth 100000 in
theorem lk_M_39 : Cond.fieldLink R_M 451 R_M (F_M 39).2.1 (F_M 39).2.2.1 ∈ wd_tbl := wd_of 2144 (by decide +kernel) rfl
set_option maxRecDepth 100000 in
theorem lk_M_40 : Cond.fieldLink R_M 104 R_M (F_M 40).2.1 (F_M 40).2.2.1 ∈ wd_tbl := wd_of 2145 (by decide +kernel) rfl
set_option maxRecDepth 100000 in
theorem lk_M_41 : Cond.fieldLink R_M 107 R_M (F_M 41).2.1 (F_M 41).2.2.1 ∈ wd_tbl := wd_of 2146 (by decide +kernel) rfl
set_option maxRecDepth 100000 in
theorem lk_M_42 : Cond.fieldLink R_M 110 R_M (F_M 42).2.1 (F_M 42).2.2.1 ∈ wd_tbl := wd_of 2147 (by decide +kernel) rfl
set_option maxRecDepth 100000 in
theorem lk_M_43 : Cond.fieldLink R_M 113 R_M (F_M 43).2.1 (F_M 43).2.2.1 ∈ wd_tbl := wd_of 2148 (by decide +kernel) rfl
set_option maxRecDepth 100000 in
theorem lk_M_44 : Cond.fieldLink R_M 116 R_M (F_M 44).2.1 (F_M 44).2.2.1 ∈ wd_tbl := wd_of 2149 (by decide +kernel) rfl
set_option maxRecDepth 100000 in
theorem lk_M_45 : Cond.fieldLink R_M 119 R_M (F_M 45).2.1 (F_M 45).2.2.1 ∈ wd_tbl := wd_of 2150 (by decide +kernel) rfl
set_option maxRecDepth 100000 in
theorem lk_M_46 : Cond.fieldLink R_M 505 R_M (F_M 46).2.1 (F_M 46).2.2.1 ∈ wd_tbl := wd_of 2151 (by decide +kernel) rfl
set_option maxRecDepth 100000 in
theorem lk_M_47 : Cond.fieldLink R_M 122 R_M (F_M 47).2.1 (F_M 47).2.2.1 ∈ wd_tbl := wd_of 2152 (by decide +kernel) rfl
set_option maxRecDepth 100000 in
theorem lk_M_48 : Cond.fieldLink R_M 125 R_M (F_M 48).2.1 (F_M 48).2.2.1 ∈ wd_tbl := wd_of 2153 (by decide +kernel) rfl
set_option maxRecDepth 100000 in
theorem lk_M_49 : Cond.fieldLink R_M 128 R_M (F_M 49).2.1 (F_M 49).2.2.1 ∈ wd_tbl := wd_of 2154 (by decide +kernel) rfl
set_option maxRecDepth 100000 in
theorem lk_M_50 : Cond.fieldLink R_M 131 R_M (F_M 50).2.1 (F_M 50).2.2.1 ∈ wd_tbl := wd_of 2155 (by decide +kernel) rfl
set_option maxRecDepth 100000 in
theorem lk_M_51 : Cond.fieldLink R_M 134 R_M (F_M 51).2.1 (F_M 51).2.2.1 ∈ wd_tbl := wd_of 2156 (by decide +kernel) rfl
set_option maxRecDepth 100000 in
theorem lk_M_52 : Cond.fieldLink R_M 508 R_M (F_M 52).2.1 (F_M 52).2.2.1 ∈ wd_tbl := wd_of 2157 (by decide +kernel) rfl
set_option maxRecDepth 100000 in
theorem lk_M_53 : Cond.fieldLink R_M 137 R_M (F_M 53).2.1 (F_M 53).2.2.1 ∈ wd_tbl := wd_of 2158 (by decide +kernel) rfl
set_option maxRecDepth 100000 in
theorem lk_M_54 : Cond.fieldLink R_M 140 R_M (F_M 54).2.1 (F_M 54).2.2.1 ∈ wd_tbl := wd_of 2159 (by decide +kernel) rfl
set_option maxRecDepth 100000 in
theorem lk_M_55 : Cond.fieldLink R_M 143 R_M (F_M 55).2.1 (F_M 55).2.2.1 ∈ wd_tbl := wd_of 2160 (by decide +kernel) rfl
set_option maxRecDepth 100000 in
theorem lk_M_56 : Cond.fieldLink R_M 511 R_M (F_M 56).2.1 (F_M 56).2.2.1 ∈ wd_tbl := wd_of 2161 (by decide +kernel) rfl
set_option maxRecDepth 100000 in
theorem lk_M_57 : Cond.fieldLink R_M 146 R_M (F_M 57).2.1 (F_M 57).2.2.1 ∈ wd_tbl := wd_of 2162 (by decide +kernel) rfl
set_option maxRecDepth 100000 in
theorem lk_M_58 : Cond.fieldLink R_M 514 R_M (F_M 58).2.1 (F_M 58).2.2.1 ∈ wd_tbl := wd_of 2163 (by decide +kernel) rfl
set_option maxRecDepth 100000 in
theorem lk_M_59 : Cond.fieldLink R_M 150 R_M (F_M 59).2.1 (F_M 59).2.2.1 ∈ wd_tbl := wd_of 2164 (by decide +kernel) rfl
set_option maxRecDepth 100000 in
theorem lk_M_60 : Cond.fieldLink R_M 153 R_M (F_M 60).2.1 (F_M 60).2.2.1 ∈ wd_tbl := wd_of 2165 (by decide +kernel) rfl
set_option maxRecDepth 100000 in
theorem lk_M_61 : Cond.fieldLink R_M 156 R_M (F_M 61).2.1 (F_M 61).2.2.1 ∈ wd_tbl := wd_of 2166 (by decide +kernel) rfl
set_option maxRecDepth 100000 in
theorem lk_M_62 : Cond.fieldLink R_M 159 R_M (F_M 62).2.1 (F_M 62).2.2.1 ∈ wd_tbl := wd_of 2167 (by decide +kernel) rfl
set_option maxRecDepth 100000 in
theorem lk_M_63 : Cond.fieldLink R_M 162 R_M (F_M 63).2.1 (F_M 63).2.2.1 ∈ wd_tbl := wd_of 2168 (by decide +kernel) rfl
set_option maxRecDepth 100000 in
theorem lk_M_64 : Cond.fieldLink R_M 165 R_M (F_M 64).2.1 (F_M 64).2.2.1 ∈ wd_tbl := wd_of 2169 (by decide +kernel) rfl
set_option maxRecDepth 100000 in
theorem lk_M_65 : Cond.fieldLink R_M 493 R_M (F_M 65).2.1 (F_M 65).2.2.1 ∈ wd_tbl := wd_of 2170 (by decide +kernel) rfl
set_option maxRecDepth 100000 in
theorem lk_M_66 : Cond.fieldLink R_M 496 R_M (F_M 66).2.1 (F_M 66).2.2.1 ∈ wd_tbl := wd_of 2171 (by decide +kernel) rfl
set_option maxRecDepth 100000 in
theorem lk_M_67 : Cond.fieldLink R_M 454 R_M (F_M 67).2.1 (F_M 67).2.2.1 ∈ wd_tbl := wd_of 2172 (by decide +kernel) rfl
set_option maxRecDepth 100000 in
theorem lk_M_68 : Cond.fieldLink R_M 460 R_M (F_M 68).2.1 (F_M 68).2.2.1 ∈ wd_tbl := wd_of 2173 (by decide +kernel) rfl
set_option maxRecDepth 100000 in
theorem lk_M_69 : Cond.fieldLink R_M 457 R_M (F_M 69).2.1 (F_M 69).2.2.1 ∈ wd_tbl := wd_of 2174 (by decide +kernel) rfl
set_option maxRecDepth 100000 in
theorem lk_M_70 : Cond.fieldLink R_M 484 R_M (F_M 70).2.1 (F_M 70).2.2.1 ∈ wd_tbl := wd_of 2175 (by decide +kernel) rfl
set_option maxRecDepth 100000 in
theorem lk_M_71 : Cond.fieldLink R_M 466 R_M (F_M 71).2.1 (F_M 71).2.2.1 ∈ wd_tbl := wd_of 2176 (by decide +kernel) rfl
set_option maxRecDepth 100000 in
theorem lk_M_72 : Cond.fieldLink R_M 463 R_M (F_M 72).2.1 (F_M 72).2.2.1 ∈ wd_tbl := wd_of 2177 (by decide +kernel) rfl
set_option maxRecDepth 100000 in
theorem lk_M_73 : Cond.fieldLink R_M 517 R_M (F_M 73).2.1 (F_M 73).2.2.1 ∈ wd_tbl := wd_of 2178 (by decide +kernel) rfl
set_option maxRecDepth 100000 in
theorem lk_M_74 : Cond.fieldLink R_M 168 R_M (F_M 74).2.1 (F_M 74).2.2.1 ∈ wd_tbl := wd_of 2179 (by decide +kernel) rfl
set_option maxRecDepth 100000 in
theorem lk_M_75 : Cond.fieldLink R_M 586 R_M (F_M 75).2.1 (F_M 75).2.2.1 ∈ wd_tbl := wd_of 2180 (by decide +kernel) rfl
set_option maxRecDepth 100000 in
theorem lk_M_76 : Cond.fieldLink R_M 171 R_M (F_M 76).2.1 (F_M 76).2.2.1 ∈ wd_tbl := wd_of 2181 (by decide +kernel) rfl
set_option maxRecDepth 100000 in
theorem lk_M_77 : Cond.fieldLink R_M 589 R_M (F_M 77).2.1 (F_M 77).2.2.1 ∈ wd_tbl := wd_of 2182 (by decide +kernel) rfl
set_option maxRecDepth 100000 in
theorem lk_M_78 : Cond.fieldLink R_M 174 R_M (F_M 78).2.1 (F_M 78).2.2.1 ∈ wd_tbl := wd_of 2183 (by decide +kernel) rfl
set_option maxRecDepth 100000 in
theorem lk_M_79 : Cond.fieldLink R_M 177 R_M (F_M 79).2.1 (F_M 79).2.2.1 ∈ wd_tbl := wd_of 2184 (by decide +kernel) rfl
set_option maxRecDepth 100000 in
theorem lk_M_80 : Cond.fieldLink R_M 180 R_M (F_M 80).2.1 (F_M 80).2.2.1 ∈ wd_tbl := wd_of 2185 (by decide +kernel) rfl
set_option maxRecDepth 100000 in
theorem lk_M_81 : Cond.fieldLink R_M 183 R_M (F_M 81).2.1 (F_M 81).2.2.1 ∈ wd_tbl := wd_of 2186 (by decide +kernel) rfl
set_option maxRecDepth 100000 in
theorem lk_M_82 : Cond.fieldLink R_M 186 R_M (F_M 82).2.1 (F_M 82).2.2.1 ∈ wd_tbl := wd_of 2187 (by decide +kernel) rfl
set_option maxRecDepth 100000 in
theorem lk_M_83 : Cond.fieldLink R_M 610 R_M (F_M 83).2.1 (F_M 83).2.2.1 ∈ wd_tbl := wd_of 2188 (by decide +kernel) rfl
set_option maxRecDepth 100000 in
theorem lk_M_84 : Cond.fieldLink R_M 623 R_M (F_M 84).2.1 (F_M 84).2.2.1 ∈ wd_tbl := wd_of 2189 (by decide +kernel) rfl
set_option maxRecDepth 100000 in
theorem lk_M_86 : Cond.fieldLink R_M 654 R_M (F_M 86).2.1 (F_M 86).2.2.1 ∈ wd_tbl := wd_of 2190 (by decide +kernel) rfl
set_option maxRecDepth 100000 in
theorem lk_M_87 : Cond.fieldLink R_M 657 R_M (F_M 87).2.1 (F_M 87).2.2.1 ∈ wd_tbl := wd_of 2191 (by decide +kernel) rfl
set_option maxRecDepth 100000 in
theorem lk_M_88 : Cond.fieldLink R_M 189 R_M (F_M 88).2.1 (F_M 88).2.2.1 ∈ wd_tbl := wd_of 2192 (by decide +kernel) rfl
set_option maxRecDepth 100000 in
theorem lk_M_89 : Cond.fieldLink R_M 192 R_M (F_M 89).2.1 (F_M 89).2.2.1 ∈ wd_tbl := wd_of 2193 (by decide +kernel) rfl
set_option maxRecDepth 100000 in
theorem lk_M_90 : Cond.fieldLink R_M 195 R_M (F_M 90).2.1 (F_M 90).2.2.1 ∈ wd_tbl := wd_of 2194 (by decide +kernel) rfl
set_option maxRecDepth 100000 in
theorem lk_M_91 : Cond.fieldLink R_M 199 R_M (F_M 91).2.1 (F_M 91).2.2.1 ∈ wd_tbl := wd_of 2195 (by decide +kernel) rfl
set_option maxRecDepth 100000 in
theorem lk_M_92 : Cond.fieldLink R_M 202 R_M (F_M 92).2.1 (F_M 92).2.2.1 ∈ wd_tbl := wd_of 2196 (by decide +kernel) rfl
set_option maxRecDepth 100000 in
theorem lk_M_93 : Cond.fieldLink R_M 206 R_M (F_M 93).2.1 (F_M 93).2.2.1 ∈ wd_tbl := wd_of 2197 (by decide +kernel) rfl
set_option maxRecDepth 100000 in
theorem lk_M_94 : Cond.fieldLink R_M 209 R_M (F_M 94).2.1 (F_M 94).2.2.1 ∈ wd_tbl := wd_of 2198 (by decide +kernel) rfl
set_option maxRecDepth 100000 in
theorem lk_M_95 : Cond.fieldLink R_M 212 R_M (F_M 95).2.1 (F_M 95).2.2.1 ∈ wd_tbl := wd_of 2199 (by decide +kernel) rfl
set_option maxRecDepth 100000 in
theorem lk_M_96 : Cond.fieldLink R_M 215 R_M (F_M 96).2.1 (F_M 96).2.2.1 ∈ wd_tbl := wd_of 2200 (by decide +kernel) rfl
set_option maxRecDepth 100000 in
theorem lk_M_97 : Cond.fieldLink R_M 218 R_M (F_M 97).2.1 (F_M 97).2.2.1 ∈ wd_tbl := wd_of 2201 (by decide +kernel) rfl
set_option maxRecDepth 100000 in
theorem lk_M_98 : Cond.fieldLink R_M 221 R_M (F_M 98).2.1 (F_M 98).2.2.1 ∈ wd_tbl := wd_of 2202 (by decide +kernel) rfl
set_option maxRecDepth 100000 in
theorem lk_M_99 : Cond.fieldLink R_M 224 R_M (F_M 99).2.1 (F_M 99).2.2.1 ∈ wd_tbl := wd_of 2203 (by decide +kernel) rfl
set_option maxRecDepth 100000 in
theorem lk_M_100 : Cond.fieldLink R_M 227 R_M (F_M 100).2.1 (F_M 100).2.2.1 ∈ wd_tbl := wd_of 2204 (by decide +kernel) rfl
set_option maxRecDepth 100000 in
theorem lk_M_101 : Cond.fieldLink R_M 230 R_M (F_M 101).2.1 (F_M 101).2.2.1 ∈ wd_tbl := wd_of 2205 (by decide +kernel) rfl
set_option maxRecDepth 100000 in
theorem lk_M_102 : Cond.fieldLink R_M 234 R_M (F_M 102).2.1 (F_M 102).2.2.1 ∈ wd_tbl := wd_of 2206 (by decide +kernel) rfl
set_option maxRecDepth 100000 in
theorem lk_M_103 : Cond.fieldLink R_M 237 R_M (F_M 103).2.1 (F_M 103).2.2.1 ∈ wd_tbl := wd_of 2207 (by decide +kernel) rfl
set_option maxRecDepth 100000 in
theorem lk_M_104 : Cond.fieldLink R_M 240 R_M (F_M 104).2.1 (F_M 104).2.2.1 ∈ wd_tbl := wd_of 2208 (by decide +kernel) rfl
set_option maxRecDepth 100000 in
theorem lk_M_105 : Cond.fieldLink R_M 243 R_M (F_M 105).2.1 (F_M 105).2.2.1 ∈ wd_tbl := wd_of 2209 (by decide +kernel) rfl
set_option maxRecDepth 100000 in
theorem lk_M_106 : Cond.fieldLink R_M 246 R_M (F_M 106).2.1 (F_M 106).2.2.1 ∈ wd_tbl := wd_of 2210 (by decide +kernel) rfl
set_option maxRecDepth 100000 in
theorem lk_M_107 : Cond.fieldLink R_M 249 R_M (F_M 107).2.1 (F_M 107).2.2.1 ∈ wd_tbl := wd_of 2211 (by decide +kernel) rfl
set_option maxRecDepth 100000 in
theorem lk_M_108 : Cond.fieldLink R_M 252 R_M (F_M 108).2.1 (F_M 108).2.2.1 ∈ wd_tbl := wd_of 2212 (by decide +kernel) rfl
set_option maxRecDepth 100000 in
theorem lk_M_109 : Cond.fieldLink R_M 255 R_M (F_M 109).2.1 (F_M 109).2.2.1 ∈ wd_tbl := wd_of 2213 (by decide +kernel) rfl
set_option maxRecDepth 100000 in
theorem lk_M_110 : Cond.fieldLink R_M 258 R_M (F_M 110).2.1 (F_M 110).2.2.1 ∈ wd_tbl := wd_of 2214 (by decide +kernel) rfl
set_option maxRecDepth 100000 in
theorem lk_M_111 : Cond.fieldLink R_M 261 R_M (F_M 111).2.1 (F_M 111).2.2.1 ∈ wd_tbl := wd_of 2215 (by decide +kernel) rfl
set_option maxRecDepth 100000 in
theorem lk_M_112 : Cond.fieldLink R_M 264 R_M (F_M 112).2.1 (F_M 112).2.2.1 ∈ wd_tbl := wd_of 2216 (by decide +kernel) rfl
set_option maxRecDepth 100000 in
theorem lk_M_113 : Cond.fieldLink R_M 267 R_M (F_M 113).2.1 (F_M 113).2.2.1 ∈ wd_tbl := wd_of 2217 (by decide +kernel) rfl
set_option maxRecDepth 100000 in
theorem lk_M_114 : Cond.fieldLink R_M 270 R_M (F_M 114).2.1 (F_M 114).2.2.1 ∈ wd_tbl := wd_of 2218 (by decide +kernel) rfl
set_option maxRecDepth 100000 in
theorem lk_M_115 : Cond.fieldLink R_M 273 R_M (F_M 115).2.1 (F_M 115).2.2.1 ∈ wd_tbl := wd_of 2219 (by decide +kernel) rfl
set_option maxRecDepth 100000 in
theorem lk_M_116 : Cond.fieldLink R_M 276 R_M (F_M 116).2.1 (F_M 116).2.2.1 ∈ wd_tbl := wd_of 2220 (by decide +kernel) rfl
set_option maxRecDepth 100000 in
theorem lk_M_117 : Cond.fieldLink R_M 279 R_M (F_M 117).2.1 (F_M 117).2.2.1 ∈ wd_tbl := wd_of 2221 (by decide +kernel) rfl
set_option maxRecDepth 100000 in
theorem lk_M_118 : Cond.fieldLink R_M 989 R_M (F_M 118).2.1 (F_M 118).2.2.1 ∈ wd_tbl := wd_of 2222 (by decide +kernel) rfl
set_option maxRecDepth 100000 in
theorem lk_M_119 : Cond.fieldLink R_M 962 R_M (F_M 119).2.1 (F_M 119).2.2.1 ∈ wd_tbl := wd_of 2223 (by decide +kernel) rfl
set_option maxRecDepth 100000 in
theorem lk_M_120 : Cond.fieldLink R_M 904 R_M (F_M 120).2.1 (F_M 120).2.2.1 ∈ wd_tbl := wd_of 2224 (by decide +kernel) rfl
set_option maxRecDepth 100000 in
theorem lk_M_121 : Cond.fieldLink R_M 1001 R_M (F_M 121).2.1 (F_M 121).2.2.1 ∈ wd_tbl := wd_of 2225 (by decide +kernel) rfl
set_option maxRecDepth 100000 in
theorem lk_M_122 : Cond.fieldLink R_M 282 R_M (F_M 122).2.1 (F_M 122).2.2.1 ∈ wd_tbl := wd_of 2226 (by decide +kernel) rfl
set_option maxRecDepth 100000 in
theorem lk_M_123 : Cond.fieldLink R_M 285 R_M (F_M 123).2.1 (F_M 123).2.2.1 ∈ wd_tbl := wd_of 2227 (by decide +kernel) rfl
set_option maxRecDepth 100000 in
theorem lk_M_124 : Cond.fieldLink R_M 288 R_M (F_M 124).2.1 (F_M 124).2.2.1 ∈ wd_tbl := wd_of 2228 (by decide +kernel) rfl
set_option maxRecDepth 100000 in
theorem lk_M_125 : Cond.fieldLink R_M 757 R_M (F_M 125).2.1 (F_M 125).2.2.1 ∈ wd_tbl := wd_of 2229 (by decide +kernel) rfl
set_option maxRecDepth 100000 in
theorem lk_M_126 : Cond.fieldLink R_M 291 R_M (F_M 126).2.1 (F_M 126).2.2.1 ∈ wd_tbl := wd_of 2230 (by decide +kernel) rfl
set_option maxRecDepth 100000 in
theorem lk_M_127 : Cond.fieldLink R_M 294 R_M (F_M 127).2.1 (F_M 127).2.2.1 ∈ wd_tbl := wd_of 2231 (by decide +kernel) rfl
set_option maxRecDepth 100000 in
theorem lk_M_128 : Cond.fieldLink R_M 1010 R_M (F_M 128).2.1 (F_M 128).2.2.1 ∈ wd_tbl := wd_of 2232 (by decide +kernel) rfl
set_option maxRecDepth 100000 in
theorem lk_M_129 : Cond.fieldLink R_M 297 R_M (F_M 129).2.1 (F_M 129).2.2.1 ∈ wd_tbl := wd_of 2233 (by decide +kernel) rfl
set_option maxRecDepth 100000 in
theorem lk_M_130 : Cond.fieldLink R_M 1032 R_M (F_M 130).2.1 (F_M 130).2.2.1 ∈ wd_tbl := wd_of 2234 (by decide +kernel) rfl
set_option maxRecDepth 100000 in
theorem lk_M_131 : Cond.fieldLink R_M 300 R_M (F_M 131).2.1 (F_M 131).2.2.1 ∈ wd_tbl := wd_of 2235 (by decide +kernel) rfl
set_option maxRecDepth 100000 in
theorem lk_M_132 : Cond.fieldLink R_M 303 R_M (F_M 132).2.1 (F_M 132).2.2.1 ∈ wd_tbl := wd_of 2236 (by decide +kernel) rfl
set_option maxRecDepth 100000 in
theorem lk_M_133 : Cond.fieldLink R_M 669 R_M (F_M 133).2.1 (F_M 133).2.2.1 ∈ wd_tbl := wd_of 2237 (by decide +kernel) rfl
set_option maxRecDepth 100000 in
theorem lk_M_134 : Cond.fieldLink R_M 306 R_M (F_M 134).2.1 (F_M 134).2.2.1 ∈ wd_tbl := wd_of 2238 (by decide +kernel) rfl
set_option maxRecDepth 100000 in
theorem lk_M_135 : Cond.fieldLink R_M 309 R_M (F_M 135).2.1 (F_M 135).2.2.1 ∈ wd_tbl := wd_of 2239 (by decide +kernel) rfl
set_option maxRecDepth 100000 in
theorem lk_M_136 : Cond.fieldLink R_M 694 R_M (F_M 136).2.1 (F_M 136).2.2.1 ∈ wd_tbl := wd_of 2240 (by decide +kernel) rfl
set_option maxRecDepth 100000 in
theorem lk_M_137 : Cond.fieldLink R_M 312 R_M (F_M 137).2.1 (F_M 137).2.2.1 ∈ wd_tbl := wd_of 2241 (by decide +kernel) rfl
set_option maxRecDepth 100000 in
theorem lk_M_138 : Cond.fieldLink R_M 697 R_M (F_M 138).2.1 (F_M 138).2.2.1 ∈ wd_tbl := wd_of 2242 (by decide +kernel) rfl
set_option maxRecDepth 100000 in
theorem lk_M_139 : Cond.fieldLink R_M 319 R_M (F_M 139).2.1 (F_M 139).2.2.1 ∈ wd_tbl := wd_of 2243 (by decide +kernel) rfl
set_option maxRecDepth 100000 in
theorem lk_M_140 : Cond.fieldLink R_M 323 R_M (F_M 140).2.1 (F_M 140).2.2.1 ∈ wd_tbl := wd_of 2244 (by decide +kernel) rfl
set_option maxRecDepth 100000 in
theorem lk_M_141 : Cond.fieldLink R_M 327 R_M (F_M 141).2.1 (F_M 141).2.2.1 ∈ wd_tbl := wd_of 2245 (by decide +kernel) rfl
set_option maxRecDepth 100000 in
theorem lk_M_142 : Cond.fieldLink R_M 330 R_M (F_M 142).2.1 (F_M 142).2.2.1 ∈ wd_tbl := wd_of 2246 (by decide +kernel) rfl
set_option maxRecDepth 100000 in
theorem lk_M_143 : Cond.fieldLink R_M 333 R_M (F_M 143).2.1 (F_M 143).2.2.1 ∈ wd_tbl := wd_of 2247 (by decide +kernel) rfl
set_option maxRecDepth 100000 in
theorem lk_M_144 : Cond.fieldLink R_M 724 R_M (F_M 144).2.1 (F_M 144).2.2.1 ∈ wd_tbl := wd_of 2248 (by decide +kernel) rfl
set_option maxRecDepth 100000 in
theorem lk_M_145 : Cond.fieldLink R_M 336 R_M (F_M 145).2.1 (F_M 145).2.2.1 ∈ wd_tbl := wd_of 2249 (by decide +kernel) rfl
set_option maxRecDepth 100000 in
theorem lk_M_146 : Cond.fieldLink R_M 339 R_M (F_M 146).2.1 (F_M 146).2.2.1 ∈ wd_tbl := wd_of 2250 (by decide +kernel) rfl
set_option maxRecDepth 100000 in
theorem lk_M_147 : Cond.fieldLink R_M 342 R_M (F_M 147).2.1 (F_M 147).2.2.1 ∈ wd_tbl := wd_of 2251 (by decide +kernel) rfl
set_option maxRecDepth 100000 in
theorem lk_M_148 : Cond.fieldLink R_M 345 R_M (F_M 148).2.1 (F_M 148).2.2.1 ∈ wd_tbl := wd_of 2252 (by decide +kernel) rfl
set_option maxRecDepth 100000 in
theorem lk_M_149 : Cond.fieldLink R_M 743 R_M (F_M 149).2.1 (F_M 149).2.2.1 ∈ wd_tbl := wd_of 2253 (by decide +kernel) rfl
set_option maxRecDepth 100000 in
theorem lk_M_150 : Cond.fieldLink R_M 740 R_M (F_M 150).2.1 (F_M 150).2.2.1 ∈ wd_tbl := wd_of 2254 (by decide +kernel) rfl
set_option maxRecDepth 100000 in
theorem lk_M_151 : Cond.fieldLink R_M 789 R_M (F_M 151).2.1 (F_M 151).2.2.1 ∈ wd_tbl := wd_of 2255 (by decide +kernel) rfl
set_option maxRecDepth 100000 in
theorem lk_M_152 : Cond.fieldLink R_M 795 R_M (F_M 152).2.1 (F_M 152).2.2.1 ∈ wd_tbl := wd_of 2256 (by decide +kernel) rfl
set_option maxRecDepth 100000 in
theorem lk_M_153 : Cond.fieldLink R_M 838 R_M (F_M 153).2.1 (F_M 153).2.2.1 ∈ wd_tbl := wd_of 2257 (by decide +kernel) rfl
set_option maxRecDepth 100000 in
theorem lk_M_154 : Cond.fieldLink R_M 820 R_M (F_M 154).2.1 (F_M 154).2.2.1 ∈ wd_tbl := wd_of 2258 (by decide +kernel) rfl
set_option maxRecDepth 100000 in
theorem lk_M_155 : Cond.fieldLink R_M 852 R_M (F_M 155).2.1 (F_M 155).2.2.1 ∈ wd_tbl := wd_of 2259 (by decide +kernel) rfl
set_option maxRecDepth 100000 in
theorem lk_M_156 : Cond.fieldLink R_M 826 R_M (F_M 156).2.1 (F_M 156).2.2.1 ∈ wd_tbl := wd_of 2260 (by decide +kernel) rfl
set_option maxRecDepth 100000 in
theorem lk_M_157 : Cond.fieldLink R_M 817 R_M (F_M 157).2.1 (F_M 157).2.2.1 ∈ wd_tbl := wd_of 2261 (by decide +kernel) rfl
set_option maxRecDepth 100000 in
theorem lk_M_158 : Cond.fieldLink R_M 841 R_M (F_M 158).2.1 (F_M 158).2.2.1 ∈ wd_tbl := wd_of 2262 (by decide +kernel) rfl
set_option maxRecDepth 100000 in
theorem lk_M_159 : Cond.fieldLink R_M 907 R_M (F_M 159).2.1 (F_M 159).2.2.1 ∈ wd_tbl := wd_of 2263 (by decide +kernel) rfl
set_option maxRecDepth 100000 in
theorem lk_M_160 : Cond.fieldLink R_M 348 R_M (F_M 160).2.1 (F_M 160).2.2.1 ∈ wd_tbl := wd_of 2264 (by decide +kernel) rfl
set_option maxRecDepth 100000 in
theorem lk_M_161 : Cond.fieldLink R_M 351 R_M (F_M 161).2.1 (F_M 161).2.2.1 ∈ wd_tbl := wd_of 2265 (by decide +kernel) rfl
set_option maxRecDepth 100000 in
theorem lk_M_162 : Cond.fieldLink R_M 354 R_M (F_M 162).2.1 (F_M 162).2.2.1 ∈ wd_tbl := wd_of 2266 (by decide +kernel) rfl
set_option maxRecDepth 100000 in
theorem lk_M_163 : Cond.fieldLink R_M 357 R_M (F_M 163).2.1 (F_M 163).2.2.1 ∈ wd_tbl := wd_of 2267 (by decide +kernel) rfl
set_option maxRecDepth 100000 in
theorem lk_M_164 : Cond.fieldLink R_M 886 R_M (F_M 164).2.1 (F_M 164).2.2.1 ∈ wd_tbl := wd_of 2268 (by decide +kernel) rfl
set_option maxRecDepth 100000 in
theorem lk_M_165 : Cond.fieldLink R_M 889 R_M (F_M 165).2.1 (F_M 165).2.2.1 ∈ wd_tbl := wd_of 2269 (by decide +kernel) rfl
set_option maxRecDepth 100000 in
theorem lk_M_166 : Cond.fieldLink R_M 959 R_M (F_M 166).2.1 (F_M 166).2.2.1 ∈ wd_tbl := wd_of 2270 (by decide +kernel) rfl
set_option maxRecDepth 100000 in
theorem lk_M_167 : Cond.fieldLink R_M 360 R_M (F_M 167).2.1 (F_M 167).2.2.1 ∈ wd_tbl := wd_of 2271 (by decide +kernel) rfl
set_option maxRecDepth 100000 in
theorem lk_M_168 : Cond.fieldLink R_M 363 R_M (F_M 168).2.1 (F_M 168).2.2.1 ∈ wd_tbl := wd_of 2272 (by decide +kernel) rfl
set_option maxRecDepth 100000 in
theorem lk_M_169 : Cond.fieldLink R_M 977 R_M (F_M 169).2.1 (F_M 169).2.2.1 ∈ wd_tbl := wd_of 2273 (by decide +kernel) rfl
set_option maxRecDepth 100000 in
theorem lk_M_170 : Cond.fieldLink R_M 366 R_M (F_M 170).2.1 (F_M 170).2.2.1 ∈ wd_tbl := wd_of 2274 (by decide +kernel) rfl
end
section
/-! the reference's constructor: an array made and put into its field; a byte array that is filled place by place -/
def tk (L : List Int32) (j : Nat) : Nat → Int32 := fun k => if k < j then L.getD k 0 else 0
theorem tk_0 (L : List Int32) : (fun _ => 0) = tk L 0 := by
  funext k
  simp [tk]
theorem tk_s {L : List Int32} {j : Nat} {x : Int32} (h : L.getD j 0 = x) : upd (tk L j) j x = tk L (j + 1) := by
  funext k
  unfold upd tk
  by_cases hk : k = j
  · subst hk
    rw [if_pos rfl, if_pos (Nat.lt_succ_self k), h]
  · rw [if_neg hk]
    by_cases h1 : k < j
    · rw [if_pos h1, if_pos (by omega)]
    · rw [if_neg h1, if_neg (by omega)]
section MKA
variable {p : Program} {l : Launch} {e : Env} {R : Room} {s : State} {m : MethodId} {args : Array Value} {below : List Frame} {meth : Method} {c : Code} {H : Heap} {locs : List Loc} {cells slots : Nat} {Q : State → Prop}
variable {cc : ByteArray} {pc pc1 pc2 : Nat} {ls : Array Slot} {D : va_G} {cl : List vw_C} {tys : List (ClassId × FieldType)} {rst : va_W} {A : Nat → Prop} {H0 : Heap} {iM h0 : Nat} {V : Nat → Value} {index : Nat}
/-- aload_0, a number, newarray -/
theorem mk_open (hx : p.tables.exec = Jvm.exec) (hb : c.code = cc) (hK : va_K D cl tys s) (hA : ∀ q, H0.size ≤ q → A q) (hl : ls[0]? = some (.val (.ref h0)))
    {ob : Nat × va_E} (hP : va_P D cl (ob :: rst) H) (hD : va_D A (ob :: rst)) (hS : va_S A H0 H locs)
    {atype : ArrayType} {ty : FieldType} {n : Int32} {N : Nat} {a0 : vp_A} {cA : ClassId} (d0 : decode cc pc = .ok (.aload_n 0, 1)) (hpush : ∀ st, W p l e R s m args below meth c H locs cells slots Q (F0 m pc1 ls (.int n :: st)) → W p l e R s m args below meth c H locs cells slots Q (F0 m (pc + 1) ls st)) (d1 : decode cc pc1 = .ok (.newarray atype, 2))
    (harr : (Cond.arrayClass (newarray.typeOf atype)).before args s = true) (hty : newarray.typeOf atype = ty) (hno : ∀ C, ty ≠ .object C) (t0 : Nat) (htt : tys[t0]? = some (cA, ty)) (ha : ∀ cA : ClassId, vp_cell cA a0 = arrV cA N (fun _ => defaultValue ty)) (hn : ¬ n < 0) (hN : n.toNatClampNeg = N) (hbytes : N * componentBytes ty ≤ 536870912) (hcells : cells + 1 ≤ R.cells) (hslots : slots + N ≤ R.slots)
    (kk : ∀ (q : Nat) (H1 : Heap), va_P D cl (ob :: (q, .inl (cA, a0)) :: rst) H1 → va_D A (ob :: (q, .inl (cA, a0)) :: rst) → va_S A H0 H1 locs → W p l e R s m args below meth c H1 locs (cells + 1) (slots + N) Q (F0 m (pc1 + 2) ls [.ref q, .ref h0])) :
    W p l e R s m args below meth c H locs cells slots Q (F0 m pc ls []) := by
  refine lv_aload_n hx hb d0 rfl hl ?_
  refine hpush _ ?_
  refine nw_any hx hb harr hty hno hK t0 htt hP hD hS hA ha hn hN hbytes hcells hslots d1 (fun q H1 hP1 hD1 hS1 => ?_)
  exact kk q H1 (wP_perm (w_front _ _ _) hP1) (wD_perm (w_front _ _ _) hD1) hS1
/-- ... and putfield -/
theorem mk_arr (hx : p.tables.exec = Jvm.exec) (hb : c.code = cc) (ht : ∀ w ∈ wd_tbl, w.before args s = true) (hown : s.vm.findClass R_M = some m.cls) (hM : cl[iM]? = some (R_M, F_M, 171)) (hin : meth.name = "<init>") (hK : va_K D cl tys s) (hA : ∀ q, H0.size ≤ q → A q) (hl : ls[0]? = some (.val (.ref h0)))
    (hP : va_P D cl ((h0, .inr (iM, fl 171 V)) :: rst) H) (hD : va_D A ((h0, .inr (iM, fl 171 V)) :: rst)) (hS : va_S A H0 H locs)
    {atype : ArrayType} {ty : FieldType} {n : Int32} {N : Nat} {a0 : vp_A} {cA : ClassId} (d0 : decode cc pc = .ok (.aload_n 0, 1)) (hpush : ∀ st, W p l e R s m args below meth c H locs cells slots Q (F0 m pc1 ls (.int n :: st)) → W p l e R s m args below meth c H locs cells slots Q (F0 m (pc + 1) ls st)) (d1 : decode cc pc1 = .ok (.newarray atype, 2)) (d2 : decode cc (pc1 + 2) = .ok (.putfield index, 3))
    (harr : Cond.arrayClass (newarray.typeOf atype) ∈ wd_tbl) (hty : newarray.typeOf atype = ty) (hno : ∀ C, ty ≠ .object C) (t0 : Nat) (htt : tys[t0]? = some (cA, ty)) (ha : ∀ cA : ClassId, vp_cell cA a0 = arrV cA N (fun _ => defaultValue ty)) (hn : ¬ n < 0) (hN : n.toNatClampNeg = N) (hbytes : N * componentBytes ty ≤ 536870912) (hcells : cells + 1 ≤ R.cells) (hslots : slots + N ≤ R.slots)
    (k : Nat) (hk : k < 171) (hlink : Cond.fieldLink R_M index R_M (F_M k).2.1 (F_M k).2.2.1 ∈ wd_tbl) (hfin : (F_M k).2.2.2 = true) (hnw : ∀ q : Nat, narrow (t_M k) (.ref q) = .ref q) (hfit : ∀ q : Nat, fits (t_M k) (.ref q) = true)
    (kk : ∀ (q : Nat) (H1 : Heap) (locs1 : List Loc), va_P D cl ((h0, .inr (iM, fl 171 (va_up V k (.ref q)))) :: (q, .inl (cA, a0)) :: rst) H1 → va_D A ((h0, .inr (iM, fl 171 (va_up V k (.ref q)))) :: (q, .inl (cA, a0)) :: rst) → va_S A H0 H1 locs1 → W p l e R s m args below meth c H1 locs1 (cells + 1) (slots + N) Q (F0 m (pc1 + 5) ls [])) :
    W p l e R s m args below meth c H locs cells slots Q (F0 m pc ls []) := by
  refine mk_open hx hb hK hA hl hP hD hS d0 hpush d1 (ht _ harr) hty hno t0 htt ha hn hN hbytes hcells hslots (fun q H1 hP1 hD1 hS1 => ?_)
  refine mf_putF hx hb ht hown hM hK hP1 hD1 hS1 0 rfl k hk hlink hfin hin (hnw q) (hfit q) d2 (fun H2 locs2 hP2 hD2 hS2 => ?_)
  exact kk q H2 locs2 hP2 hD2 hS2
/-- dup, a place, a number, bastore -/
theorem ba_step (hx : p.tables.exec = Jvm.exec) (hb : c.code = cc) (hK : va_K D cl tys s) {ob : Nat × va_E} {q N j : Nat} {cA : ClassId} {L : List Int32} {i x : Int32} {st : List Value}
    (hP : va_P D cl (ob :: (q, .inl (cA, N, .inl (tk L j))) :: rst) H) (hD : va_D A (ob :: (q, .inl (cA, N, .inl (tk L j))) :: rst)) (hS : va_S A H0 H locs) (t0 : Nat) (htt : tys[t0]? = some (cA, .byte))
    (d0 : decode cc pc = .ok (.dup, 1)) (h1 : ∀ st, W p l e R s m args below meth c H locs cells slots Q (F0 m pc1 ls (.int i :: st)) → W p l e R s m args below meth c H locs cells slots Q (F0 m (pc + 1) ls st)) (h2 : ∀ st, W p l e R s m args below meth c H locs cells slots Q (F0 m pc2 ls (.int x :: st)) → W p l e R s m args below meth c H locs cells slots Q (F0 m pc1 ls st)) (d3 : decode cc pc2 = .ok (.bastore, 1))
    (hi : i.toNatClampNeg = j) (hin : vp_in i N) (hx2 : L.getD j 0 = vp_nar .byte x)
    (kk : ∀ (H1 : Heap) (locs1 : List Loc), va_P D cl (ob :: (q, .inl (cA, N, .inl (tk L (j + 1)))) :: rst) H1 → va_D A (ob :: (q, .inl (cA, N, .inl (tk L (j + 1)))) :: rst) → va_S A H0 H1 locs1 → W p l e R s m args below meth c H1 locs1 cells slots Q (F0 m (pc2 + 1) ls (.ref q :: st))) :
    W p l e R s m args below meth c H locs cells slots Q (F0 m pc ls (.ref q :: st)) := by
  refine lv_dup hx hb d0 rfl ?_
  refine h1 _ ?_
  refine h2 _ ?_
  refine va_bast hx hb hK hP hD hS 1 t0 rfl htt hin d3 (fun H1 locs1 hP1 hD1 hS1 => ?_)
  rw [hi, tk_s hx2] at hP1 hD1
  exact kk H1 locs1 hP1 hD1 hS1
end MKA
end
section
set_option maxRecDepth 100000 in
theorem ac_byte : Cond.arrayClass (newarray.typeOf .byte) ∈ wd_tbl := wd_of 369 (by decide +kernel) rfl
set_option maxRecDepth 100000 in
theorem ac_int : Cond.arrayClass (newarray.typeOf .int) ∈ wd_tbl := wd_of 370 (by decide +kernel) rfl
set_option maxRecDepth 100000 in
theorem ac_long : Cond.arrayClass (newarray.typeOf .long) ∈ wd_tbl := wd_of 646 (by decide +kernel) rfl
set_option maxRecDepth 100000 in
theorem ac_boolean : Cond.arrayClass (newarray.typeOf .boolean) ∈ wd_tbl := wd_of 2619 (by decide +kernel) rfl
set_option maxRecDepth 100000 in
theorem ac_short : Cond.arrayClass (newarray.typeOf .short) ∈ wd_tbl := wd_of 2618 (by decide +kernel) rfl
set_option maxRecDepth 100000 in
theorem kc_M_149 : Cond.constant R_M 149 37800 ∈ wd_tbl := wd_of 2097 (by decide +kernel) rfl
set_option maxRecDepth 100000 in
theorem kc_M_198 : Cond.constant R_M 198 1104000 ∈ wd_tbl := wd_of 2098 (by decide +kernel) rfl
set_option maxRecDepth 100000 in
theorem kc_M_205 : Cond.constant R_M 205 60000 ∈ wd_tbl := wd_of 2099 (by decide +kernel) rfl
set_option maxRecDepth 100000 in
theorem kc_M_233 : Cond.constant R_M 233 38400 ∈ wd_tbl := wd_of 2100 (by decide +kernel) rfl
def ty5 (cB cI cJ cZ cS : ClassId) : List (ClassId × FieldType) := [(cB, .byte), (cI, .int), (cJ, .long), (cZ, .boolean), (cS, .short)]
theorem vq {i : Int32} {N : Nat} (h : ¬ (i < 0 ∨ N ≤ i.toNatClampNeg)) : vp_in i N := h
def tb_0 : List Int32 := [5, 97, 102, 116, 101, 114, 7, 97, 110, 100, 97, 108, 115, 111, 5, 98, 101, 103, 105, 110, 4, 99, 97, 115, 101, 5, 99, 97, 116, 99, 104, 3, 100, 105, 118, 3, 101, 110, 100, 3, 102, 117, 110, 2, 105, 102, 3, 110, 111, 116, 2, 111, 102, 6, 111, 114, 101, 108, 115, 101, 7, 114, 101, 99, 101, 105, 118, 101, 3, 114, 101, 109, 4, 119, 104, 101, 110]
set_option maxRecDepth 100000 in
set_option maxHeartbeats 4000000 in
theorem sg_0_0 {p : Program} {l : Launch} {e : Env} {R : Room} {s : State} {m : MethodId} {args : Array Value} {below : List Frame} {meth : Method} {c : Code} {H : Heap} {locs : List Loc} {cells slots : Nat} {Q : State → Prop} {ls : Array Slot} {D : va_G} {cl : List vw_C} {cB cI cJ cZ cS : ClassId} {rst : va_W} {A : Nat → Prop} {H0 : Heap} {iM h0 : Nat} {ob : Nat × va_E} {q0 : Nat} (hx : p.tables.exec = Jvm.exec) (hb : c.code = b_M_init) (ht : ∀ w ∈ wd_tbl, w.before args s = true) (hown : s.vm.findClass R_M = some m.cls) (hM : cl[iM]? = some (R_M, F_M, 171)) (hin : meth.name = "<init>") (hK : va_K D cl (ty5 cB cI cJ cZ cS) s) (hA : ∀ q, H0.size ≤ q → A q) (hl : ls[0]? = some (.val (.ref h0))) (hP : va_P D cl (ob :: (q0, .inl (cB, 77, .inl (tk tb_0 0))) :: rst) H) (hD : va_D A (ob :: (q0, .inl (cB, 77, .inl (tk tb_0 0))) :: rst)) (hS : va_S A H0 H locs)
    (kk : ∀ (H1 : Heap) (locs1 : List Loc), va_P D cl (ob :: (q0, .inl (cB, 77, .inl (tk tb_0 40))) :: rst) H1 → va_D A (ob :: (q0, .inl (cB, 77, .inl (tk tb_0 40))) :: rst) → va_S A H0 H1 locs1 → W p l e R s m args below meth c H1 locs1 cells slots Q (F0 m 236 ls [.ref q0, .ref h0])) :
    W p l e R s m args below meth c H locs cells slots Q (F0 m 9 ls [.ref q0, .ref h0]) := by
  refine ba_step (i := 0) (x := 5) hx hb hK hP hD hS 0 rfl d_M_init_9 (fun st k => lv_iconst (v := 0) hx hb d_M_init_10 (by decide) k) (fun st k => lv_iconst (v := 5) hx hb d_M_init_11 (by decide) k) d_M_init_12 (by decide) (vq (by decide)) (by decide) (fun H locs hP hD hS => ?_)
  refine ba_step (i := 1) (x := 97) hx hb hK hP hD hS 0 rfl d_M_init_13 (fun st k => lv_iconst (v := 1) hx hb d_M_init_14 (by decide) k) (fun st k => lv_bipush (v := 97) hx hb d_M_init_15 (by decide) k) d_M_init_17 (by decide) (vq (by decide)) (by decide) (fun H locs hP hD hS => ?_)
  refine ba_step (i := 2) (x := 102) hx hb hK hP hD hS 0 rfl d_M_init_18 (fun st k => lv_iconst (v := 2) hx hb d_M_init_19 (by decide) k) (fun st k => lv_bipush (v := 102) hx hb d_M_init_20 (by decide) k) d_M_init_22 (by decide) (vq (by decide)) (by decide) (fun H locs hP hD hS => ?_)
  refine ba_step (i := 3) (x := 116) hx hb hK hP hD hS 0 rfl d_M_init_23 (fun st k => lv_iconst (v := 3) hx hb d_M_init_24 (by decide) k) (fun st k => lv_bipush (v := 116) hx hb d_M_init_25 (by decide) k) d_M_init_27 (by decide) (vq (by decide)) (by decide) (fun H locs hP hD hS => ?_)
  refine ba_step (i := 4) (x := 101) hx hb hK hP hD hS 0 rfl d_M_init_28 (fun st k => lv_iconst (v := 4) hx hb d_M_init_29 (by decide) k) (fun st k => lv_bipush (v := 101) hx hb d_M_init_30 (by decide) k) d_M_init_32 (by decide) (vq (by decide)) (by decide) (fun H locs hP hD hS => ?_)
  refine ba_step (i := 5) (x := 114) hx hb hK hP hD hS 0 rfl d_M_init_33 (fun st k => lv_iconst (v := 5) hx hb d_M_init_34 (by decide) k) (fun st k => lv_bipush (v := 114) hx hb d_M_init_35 (by decide) k) d_M_init_37 (by decide) (vq (by decide)) (by decide) (fun H locs hP hD hS => ?_)
  refine ba_step (i := 6) (x := 7) hx hb hK hP hD hS 0 rfl d_M_init_38 (fun st k => lv_bipush (v := 6) hx hb d_M_init_39 (by decide) k) (fun st k => lv_bipush (v := 7) hx hb d_M_init_41 (by decide) k) d_M_init_43 (by decide) (vq (by decide)) (by decide) (fun H locs hP hD hS => ?_)
  refine ba_step (i := 7) (x := 97) hx hb hK hP hD hS 0 rfl d_M_init_44 (fun st k => lv_bipush (v := 7) hx hb d_M_init_45 (by decide) k) (fun st k => lv_bipush (v := 97) hx hb d_M_init_47 (by decide) k) d_M_init_49 (by decide) (vq (by decide)) (by decide) (fun H locs hP hD hS => ?_)
  refine ba_step (i := 8) (x := 110) hx hb hK hP hD hS 0 rfl d_M_init_50 (fun st k => lv_bipush (v := 8) hx hb d_M_init_51 (by decide) k) (fun st k => lv_bipush (v := 110) hx hb d_M_init_53 (by decide) k) d_M_init_55 (by decide) (vq (by decide)) (by decide) (fun H locs hP hD hS => ?_)
  refine ba_step (i := 9) (x := 100) hx hb hK hP hD hS 0 rfl d_M_init_56 (fun st k => lv_bipush (v := 9) hx hb d_M_init_57 (by decide) k) (fun st k => lv_bipush (v := 100) hx hb d_M_init_59 (by decide) k) d_M_init_61 (by decide) (vq (by decide)) (by decide) (fun H locs hP hD hS => ?_)
  refine ba_step (i := 10) (x := 97) hx hb hK hP hD hS 0 rfl d_M_init_62 (fun st k => lv_bipush (v := 10) hx hb d_M_init_63 (by decide) k) (fun st k => lv_bipush (v := 97) hx hb d_M_init_65 (by decide) k) d_M_init_67 (by decide) (vq (by decide)) (by decide) (fun H locs hP hD hS => ?_)
  refine ba_step (i := 11) (x := 108) hx hb hK hP hD hS 0 rfl d_M_init_68 (fun st k => lv_bipush (v := 11) hx hb d_M_init_69 (by decide) k) (fun st k => lv_bipush (v := 108) hx hb d_M_init_71 (by decide) k) d_M_init_73 (by decide) (vq (by decide)) (by decide) (fun H locs hP hD hS => ?_)
  refine ba_step (i := 12) (x := 115) hx hb hK hP hD hS 0 rfl d_M_init_74 (fun st k => lv_bipush (v := 12) hx hb d_M_init_75 (by decide) k) (fun st k => lv_bipush (v := 115) hx hb d_M_init_77 (by decide) k) d_M_init_79 (by decide) (vq (by decide)) (by decide) (fun H locs hP hD hS => ?_)
  refine ba_step (i := 13) (x := 111) hx hb hK hP hD hS 0 rfl d_M_init_80 (fun st k => lv_bipush (v := 13) hx hb d_M_init_81 (by decide) k) (fun st k => lv_bipush (v := 111) hx hb d_M_init_83 (by decide) k) d_M_init_85 (by decide) (vq (by decide)) (by decide) (fun H locs hP hD hS => ?_)
  refine ba_step (i := 14) (x := 5) hx hb hK hP hD hS 0 rfl d_M_init_86 (fun st k => lv_bipush (v := 14) hx hb d_M_init_87 (by decide) k) (fun st k => lv_iconst (v := 5) hx hb d_M_init_89 (by decide) k) d_M_init_90 (by decide) (vq (by decide)) (by decide) (fun H locs hP hD hS => ?_)
  refine ba_step (i := 15) (x := 98) hx hb hK hP hD hS 0 rfl d_M_init_91 (fun st k => lv_bipush (v := 15) hx hb d_M_init_92 (by decide) k) (fun st k => lv_bipush (v := 98) hx hb d_M_init_94 (by decide) k) d_M_init_96 (by decide) (vq (by decide)) (by decide) (fun H locs hP hD hS => ?_)
  refine ba_step (i := 16) (x := 101) hx hb hK hP hD hS 0 rfl d_M_init_97 (fun st k => lv_bipush (v := 16) hx hb d_M_init_98 (by decide) k) (fun st k => lv_bipush (v := 101) hx hb d_M_init_100 (by decide) k) d_M_init_102 (by decide) (vq (by decide)) (by decide) (fun H locs hP hD hS => ?_)
  refine ba_step (i := 17) (x := 103) hx hb hK hP hD hS 0 rfl d_M_init_103 (fun st k => lv_bipush (v := 17) hx hb d_M_init_104 (by decide) k) (fun st k => lv_bipush (v := 103) hx hb d_M_init_106 (by decide) k) d_M_init_108 (by decide) (vq (by decide)) (by decide) (fun H locs hP hD hS => ?_)
  refine ba_step (i := 18) (x := 105) hx hb hK hP hD hS 0 rfl d_M_init_109 (fun st k => lv_bipush (v := 18) hx hb d_M_init_110 (by decide) k) (fun st k => lv_bipush (v := 105) hx hb d_M_init_112 (by decide) k) d_M_init_114 (by decide) (vq (by decide)) (by decide) (fun H locs hP hD hS => ?_)
  refine ba_step (i := 19) (x := 110) hx hb hK hP hD hS 0 rfl d_M_init_115 (fun st k => lv_bipush (v := 19) hx hb d_M_init_116 (by decide) k) (fun st k => lv_bipush (v := 110) hx hb d_M_init_118 (by decide) k) d_M_init_120 (by decide) (vq (by decide)) (by decide) (fun H locs hP hD hS => ?_)
  refine ba_step (i := 20) (x := 4) hx hb hK hP hD hS 0 rfl d_M_init_121 (fun st k => lv_bipush (v := 20) hx hb d_M_init_122 (by decide) k) (fun st k => lv_iconst (v := 4) hx hb d_M_init_124 (by decide) k) d_M_init_125 (by decide) (vq (by decide)) (by decide) (fun H locs hP hD hS => ?_)
  refine ba_step (i := 21) (x := 99) hx hb hK hP hD hS 0 rfl d_M_init_126 (fun st k => lv_bipush (v := 21) hx hb d_M_init_127 (by decide) k) (fun st k => lv_bipush (v := 99) hx hb d_M_init_129 (by decide) k) d_M_init_131 (by decide) (vq (by decide)) (by decide) (fun H locs hP hD hS => ?_)
  refine ba_step (i := 22) (x := 97) hx hb hK hP hD hS 0 rfl d_M_init_132 (fun st k => lv_bipush (v := 22) hx hb d_M_init_133 (by decide) k) (fun st k => lv_bipush (v := 97) hx hb d_M_init_135 (by decide) k) d_M_init_137 (by decide) (vq (by decide)) (by decide) (fun H locs hP hD hS => ?_)
  refine ba_step (i := 23) (x := 115) hx hb hK hP hD hS 0 rfl d_M_init_138 (fun st k => lv_bipush (v := 23) hx hb d_M_init_139 (by decide) k) (fun st k => lv_bipush (v := 115) hx hb d_M_init_141 (by decide) k) d_M_init_143 (by decide) (vq (by decide)) (by decide) (fun H locs hP hD hS => ?_)
  refine ba_step (i := 24) (x := 101) hx hb hK hP hD hS 0 rfl d_M_init_144 (fun st k => lv_bipush (v := 24) hx hb d_M_init_145 (by decide) k) (fun st k => lv_bipush (v := 101) hx hb d_M_init_147 (by decide) k) d_M_init_149 (by decide) (vq (by decide)) (by decide) (fun H locs hP hD hS => ?_)
  refine ba_step (i := 25) (x := 5) hx hb hK hP hD hS 0 rfl d_M_init_150 (fun st k => lv_bipush (v := 25) hx hb d_M_init_151 (by decide) k) (fun st k => lv_iconst (v := 5) hx hb d_M_init_153 (by decide) k) d_M_init_154 (by decide) (vq (by decide)) (by decide) (fun H locs hP hD hS => ?_)
  refine ba_step (i := 26) (x := 99) hx hb hK hP hD hS 0 rfl d_M_init_155 (fun st k => lv_bipush (v := 26) hx hb d_M_init_156 (by decide) k) (fun st k => lv_bipush (v := 99) hx hb d_M_init_158 (by decide) k) d_M_init_160 (by decide) (vq (by decide)) (by decide) (fun H locs hP hD hS => ?_)
  refine ba_step (i := 27) (x := 97) hx hb hK hP hD hS 0 rfl d_M_init_161 (fun st k => lv_bipush (v := 27) hx hb d_M_init_162 (by decide) k) (fun st k => lv_bipush (v := 97) hx hb d_M_init_164 (by decide) k) d_M_init_166 (by decide) (vq (by decide)) (by decide) (fun H locs hP hD hS => ?_)
  refine ba_step (i := 28) (x := 116) hx hb hK hP hD hS 0 rfl d_M_init_167 (fun st k => lv_bipush (v := 28) hx hb d_M_init_168 (by decide) k) (fun st k => lv_bipush (v := 116) hx hb d_M_init_170 (by decide) k) d_M_init_172 (by decide) (vq (by decide)) (by decide) (fun H locs hP hD hS => ?_)
  refine ba_step (i := 29) (x := 99) hx hb hK hP hD hS 0 rfl d_M_init_173 (fun st k => lv_bipush (v := 29) hx hb d_M_init_174 (by decide) k) (fun st k => lv_bipush (v := 99) hx hb d_M_init_176 (by decide) k) d_M_init_178 (by decide) (vq (by decide)) (by decide) (fun H locs hP hD hS => ?_)
  refine ba_step (i := 30) (x := 104) hx hb hK hP hD hS 0 rfl d_M_init_179 (fun st k => lv_bipush (v := 30) hx hb d_M_init_180 (by decide) k) (fun st k => lv_bipush (v := 104) hx hb d_M_init_182 (by decide) k) d_M_init_184 (by decide) (vq (by decide)) (by decide) (fun H locs hP hD hS => ?_)
  refine ba_step (i := 31) (x := 3) hx hb hK hP hD hS 0 rfl d_M_init_185 (fun st k => lv_bipush (v := 31) hx hb d_M_init_186 (by decide) k) (fun st k => lv_iconst (v := 3) hx hb d_M_init_188 (by decide) k) d_M_init_189 (by decide) (vq (by decide)) (by decide) (fun H locs hP hD hS => ?_)
  refine ba_step (i := 32) (x := 100) hx hb hK hP hD hS 0 rfl d_M_init_190 (fun st k => lv_bipush (v := 32) hx hb d_M_init_191 (by decide) k) (fun st k => lv_bipush (v := 100) hx hb d_M_init_193 (by decide) k) d_M_init_195 (by decide) (vq (by decide)) (by decide) (fun H locs hP hD hS => ?_)
  refine ba_step (i := 33) (x := 105) hx hb hK hP hD hS 0 rfl d_M_init_196 (fun st k => lv_bipush (v := 33) hx hb d_M_init_197 (by decide) k) (fun st k => lv_bipush (v := 105) hx hb d_M_init_199 (by decide) k) d_M_init_201 (by decide) (vq (by decide)) (by decide) (fun H locs hP hD hS => ?_)
  refine ba_step (i := 34) (x := 118) hx hb hK hP hD hS 0 rfl d_M_init_202 (fun st k => lv_bipush (v := 34) hx hb d_M_init_203 (by decide) k) (fun st k => lv_bipush (v := 118) hx hb d_M_init_205 (by decide) k) d_M_init_207 (by decide) (vq (by decide)) (by decide) (fun H locs hP hD hS => ?_)
  refine ba_step (i := 35) (x := 3) hx hb hK hP hD hS 0 rfl d_M_init_208 (fun st k => lv_bipush (v := 35) hx hb d_M_init_209 (by decide) k) (fun st k => lv_iconst (v := 3) hx hb d_M_init_211 (by decide) k) d_M_init_212 (by decide) (vq (by decide)) (by decide) (fun H locs hP hD hS => ?_)
  refine ba_step (i := 36) (x := 101) hx hb hK hP hD hS 0 rfl d_M_init_213 (fun st k => lv_bipush (v := 36) hx hb d_M_init_214 (by decide) k) (fun st k => lv_bipush (v := 101) hx hb d_M_init_216 (by decide) k) d_M_init_218 (by decide) (vq (by decide)) (by decide) (fun H locs hP hD hS => ?_)
  refine ba_step (i := 37) (x := 110) hx hb hK hP hD hS 0 rfl d_M_init_219 (fun st k => lv_bipush (v := 37) hx hb d_M_init_220 (by decide) k) (fun st k => lv_bipush (v := 110) hx hb d_M_init_222 (by decide) k) d_M_init_224 (by decide) (vq (by decide)) (by decide) (fun H locs hP hD hS => ?_)
  refine ba_step (i := 38) (x := 100) hx hb hK hP hD hS 0 rfl d_M_init_225 (fun st k => lv_bipush (v := 38) hx hb d_M_init_226 (by decide) k) (fun st k => lv_bipush (v := 100) hx hb d_M_init_228 (by decide) k) d_M_init_230 (by decide) (vq (by decide)) (by decide) (fun H locs hP hD hS => ?_)
  refine ba_step (i := 39) (x := 3) hx hb hK hP hD hS 0 rfl d_M_init_231 (fun st k => lv_bipush (v := 39) hx hb d_M_init_232 (by decide) k) (fun st k => lv_iconst (v := 3) hx hb d_M_init_234 (by decide) k) d_M_init_235 (by decide) (vq (by decide)) (by decide) (fun H locs hP hD hS => ?_)
  exact kk H locs hP hD hS
set_option maxRecDepth 100000 in
set_option maxHeartbeats 4000000 in
theorem sg_0_40 {p : Program} {l : Launch} {e : Env} {R : Room} {s : State} {m : MethodId} {args : Array Value} {below : List Frame} {meth : Method} {c : Code} {H : Heap} {locs : List Loc} {cells slots : Nat} {Q : State → Prop} {ls : Array Slot} {D : va_G} {cl : List vw_C} {cB cI cJ cZ cS : ClassId} {rst : va_W} {A : Nat → Prop} {H0 : Heap} {iM h0 : Nat} {ob : Nat × va_E} {q0 : Nat} (hx : p.tables.exec = Jvm.exec) (hb : c.code = b_M_init) (ht : ∀ w ∈ wd_tbl, w.before args s = true) (hown : s.vm.findClass R_M = some m.cls) (hM : cl[iM]? = some (R_M, F_M, 171)) (hin : meth.name = "<init>") (hK : va_K D cl (ty5 cB cI cJ cZ cS) s) (hA : ∀ q, H0.size ≤ q → A q) (hl : ls[0]? = some (.val (.ref h0))) (hP : va_P D cl (ob :: (q0, .inl (cB, 77, .inl (tk tb_0 40))) :: rst) H) (hD : va_D A (ob :: (q0, .inl (cB, 77, .inl (tk tb_0 40))) :: rst)) (hS : va_S A H0 H locs)
    (kk : ∀ (H1 : Heap) (locs1 : List Loc), va_P D cl (ob :: (q0, .inl (cB, 77, .inl (tk tb_0 77))) :: rst) H1 → va_D A (ob :: (q0, .inl (cB, 77, .inl (tk tb_0 77))) :: rst) → va_S A H0 H1 locs1 → W p l e R s m args below meth c H1 locs1 cells slots Q (F0 m 453 ls [.ref q0, .ref h0])) :
    W p l e R s m args below meth c H locs cells slots Q (F0 m 236 ls [.ref q0, .ref h0]) := by
  refine ba_step (i := 40) (x := 102) hx hb hK hP hD hS 0 rfl d_M_init_236 (fun st k => lv_bipush (v := 40) hx hb d_M_init_237 (by decide) k) (fun st k => lv_bipush (v := 102) hx hb d_M_init_239 (by decide) k) d_M_init_241 (by decide) (vq (by decide)) (by decide) (fun H locs hP hD hS => ?_)
  refine ba_step (i := 41) (x := 117) hx hb hK hP hD hS 0 rfl d_M_init_242 (fun st k => lv_bipush (v := 41) hx hb d_M_init_243 (by decide) k) (fun st k => lv_bipush (v := 117) hx hb d_M_init_245 (by decide) k) d_M_init_247 (by decide) (vq (by decide)) (by decide) (fun H locs hP hD hS => ?_)
  refine ba_step (i := 42) (x := 110) hx hb hK hP hD hS 0 rfl d_M_init_248 (fun st k => lv_bipush (v := 42) hx hb d_M_init_249 (by decide) k) (fun st k => lv_bipush (v := 110) hx hb d_M_init_251 (by decide) k) d_M_init_253 (by decide) (vq (by decide)) (by decide) (fun H locs hP hD hS => ?_)
  refine ba_step (i := 43) (x := 2) hx hb hK hP hD hS 0 rfl d_M_init_254 (fun st k => lv_bipush (v := 43) hx hb d_M_init_255 (by decide) k) (fun st k => lv_iconst (v := 2) hx hb d_M_init_257 (by decide) k) d_M_init_258 (by decide) (vq (by decide)) (by decide) (fun H locs hP hD hS => ?_)
  refine ba_step (i := 44) (x := 105) hx hb hK hP hD hS 0 rfl d_M_init_259 (fun st k => lv_bipush (v := 44) hx hb d_M_init_260 (by decide) k) (fun st k => lv_bipush (v := 105) hx hb d_M_init_262 (by decide) k) d_M_init_264 (by decide) (vq (by decide)) (by decide) (fun H locs hP hD hS => ?_)
  refine ba_step (i := 45) (x := 102) hx hb hK hP hD hS 0 rfl d_M_init_265 (fun st k => lv_bipush (v := 45) hx hb d_M_init_266 (by decide) k) (fun st k => lv_bipush (v := 102) hx hb d_M_init_268 (by decide) k) d_M_init_270 (by decide) (vq (by decide)) (by decide) (fun H locs hP hD hS => ?_)
  refine ba_step (i := 46) (x := 3) hx hb hK hP hD hS 0 rfl d_M_init_271 (fun st k => lv_bipush (v := 46) hx hb d_M_init_272 (by decide) k) (fun st k => lv_iconst (v := 3) hx hb d_M_init_274 (by decide) k) d_M_init_275 (by decide) (vq (by decide)) (by decide) (fun H locs hP hD hS => ?_)
  refine ba_step (i := 47) (x := 110) hx hb hK hP hD hS 0 rfl d_M_init_276 (fun st k => lv_bipush (v := 47) hx hb d_M_init_277 (by decide) k) (fun st k => lv_bipush (v := 110) hx hb d_M_init_279 (by decide) k) d_M_init_281 (by decide) (vq (by decide)) (by decide) (fun H locs hP hD hS => ?_)
  refine ba_step (i := 48) (x := 111) hx hb hK hP hD hS 0 rfl d_M_init_282 (fun st k => lv_bipush (v := 48) hx hb d_M_init_283 (by decide) k) (fun st k => lv_bipush (v := 111) hx hb d_M_init_285 (by decide) k) d_M_init_287 (by decide) (vq (by decide)) (by decide) (fun H locs hP hD hS => ?_)
  refine ba_step (i := 49) (x := 116) hx hb hK hP hD hS 0 rfl d_M_init_288 (fun st k => lv_bipush (v := 49) hx hb d_M_init_289 (by decide) k) (fun st k => lv_bipush (v := 116) hx hb d_M_init_291 (by decide) k) d_M_init_293 (by decide) (vq (by decide)) (by decide) (fun H locs hP hD hS => ?_)
  refine ba_step (i := 50) (x := 2) hx hb hK hP hD hS 0 rfl d_M_init_294 (fun st k => lv_bipush (v := 50) hx hb d_M_init_295 (by decide) k) (fun st k => lv_iconst (v := 2) hx hb d_M_init_297 (by decide) k) d_M_init_298 (by decide) (vq (by decide)) (by decide) (fun H locs hP hD hS => ?_)
  refine ba_step (i := 51) (x := 111) hx hb hK hP hD hS 0 rfl d_M_init_299 (fun st k => lv_bipush (v := 51) hx hb d_M_init_300 (by decide) k) (fun st k => lv_bipush (v := 111) hx hb d_M_init_302 (by decide) k) d_M_init_304 (by decide) (vq (by decide)) (by decide) (fun H locs hP hD hS => ?_)
  refine ba_step (i := 52) (x := 102) hx hb hK hP hD hS 0 rfl d_M_init_305 (fun st k => lv_bipush (v := 52) hx hb d_M_init_306 (by decide) k) (fun st k => lv_bipush (v := 102) hx hb d_M_init_308 (by decide) k) d_M_init_310 (by decide) (vq (by decide)) (by decide) (fun H locs hP hD hS => ?_)
  refine ba_step (i := 53) (x := 6) hx hb hK hP hD hS 0 rfl d_M_init_311 (fun st k => lv_bipush (v := 53) hx hb d_M_init_312 (by decide) k) (fun st k => lv_bipush (v := 6) hx hb d_M_init_314 (by decide) k) d_M_init_316 (by decide) (vq (by decide)) (by decide) (fun H locs hP hD hS => ?_)
  refine ba_step (i := 54) (x := 111) hx hb hK hP hD hS 0 rfl d_M_init_317 (fun st k => lv_bipush (v := 54) hx hb d_M_init_318 (by decide) k) (fun st k => lv_bipush (v := 111) hx hb d_M_init_320 (by decide) k) d_M_init_322 (by decide) (vq (by decide)) (by decide) (fun H locs hP hD hS => ?_)
  refine ba_step (i := 55) (x := 114) hx hb hK hP hD hS 0 rfl d_M_init_323 (fun st k => lv_bipush (v := 55) hx hb d_M_init_324 (by decide) k) (fun st k => lv_bipush (v := 114) hx hb d_M_init_326 (by decide) k) d_M_init_328 (by decide) (vq (by decide)) (by decide) (fun H locs hP hD hS => ?_)
  refine ba_step (i := 56) (x := 101) hx hb hK hP hD hS 0 rfl d_M_init_329 (fun st k => lv_bipush (v := 56) hx hb d_M_init_330 (by decide) k) (fun st k => lv_bipush (v := 101) hx hb d_M_init_332 (by decide) k) d_M_init_334 (by decide) (vq (by decide)) (by decide) (fun H locs hP hD hS => ?_)
  refine ba_step (i := 57) (x := 108) hx hb hK hP hD hS 0 rfl d_M_init_335 (fun st k => lv_bipush (v := 57) hx hb d_M_init_336 (by decide) k) (fun st k => lv_bipush (v := 108) hx hb d_M_init_338 (by decide) k) d_M_init_340 (by decide) (vq (by decide)) (by decide) (fun H locs hP hD hS => ?_)
  refine ba_step (i := 58) (x := 115) hx hb hK hP hD hS 0 rfl d_M_init_341 (fun st k => lv_bipush (v := 58) hx hb d_M_init_342 (by decide) k) (fun st k => lv_bipush (v := 115) hx hb d_M_init_344 (by decide) k) d_M_init_346 (by decide) (vq (by decide)) (by decide) (fun H locs hP hD hS => ?_)
  refine ba_step (i := 59) (x := 101) hx hb hK hP hD hS 0 rfl d_M_init_347 (fun st k => lv_bipush (v := 59) hx hb d_M_init_348 (by decide) k) (fun st k => lv_bipush (v := 101) hx hb d_M_init_350 (by decide) k) d_M_init_352 (by decide) (vq (by decide)) (by decide) (fun H locs hP hD hS => ?_)
  refine ba_step (i := 60) (x := 7) hx hb hK hP hD hS 0 rfl d_M_init_353 (fun st k => lv_bipush (v := 60) hx hb d_M_init_354 (by decide) k) (fun st k => lv_bipush (v := 7) hx hb d_M_init_356 (by decide) k) d_M_init_358 (by decide) (vq (by decide)) (by decide) (fun H locs hP hD hS => ?_)
  refine ba_step (i := 61) (x := 114) hx hb hK hP hD hS 0 rfl d_M_init_359 (fun st k => lv_bipush (v := 61) hx hb d_M_init_360 (by decide) k) (fun st k => lv_bipush (v := 114) hx hb d_M_init_362 (by decide) k) d_M_init_364 (by decide) (vq (by decide)) (by decide) (fun H locs hP hD hS => ?_)
  refine ba_step (i := 62) (x := 101) hx hb hK hP hD hS 0 rfl d_M_init_365 (fun st k => lv_bipush (v := 62) hx hb d_M_init_366 (by decide) k) (fun st k => lv_bipush (v := 101) hx hb d_M_init_368 (by decide) k) d_M_init_370 (by decide) (vq (by decide)) (by decide) (fun H locs hP hD hS => ?_)
  refine ba_step (i := 63) (x := 99) hx hb hK hP hD hS 0 rfl d_M_init_371 (fun st k => lv_bipush (v := 63) hx hb d_M_init_372 (by decide) k) (fun st k => lv_bipush (v := 99) hx hb d_M_init_374 (by decide) k) d_M_init_376 (by decide) (vq (by decide)) (by decide) (fun H locs hP hD hS => ?_)
  refine ba_step (i := 64) (x := 101) hx hb hK hP hD hS 0 rfl d_M_init_377 (fun st k => lv_bipush (v := 64) hx hb d_M_init_378 (by decide) k) (fun st k => lv_bipush (v := 101) hx hb d_M_init_380 (by decide) k) d_M_init_382 (by decide) (vq (by decide)) (by decide) (fun H locs hP hD hS => ?_)
  refine ba_step (i := 65) (x := 105) hx hb hK hP hD hS 0 rfl d_M_init_383 (fun st k => lv_bipush (v := 65) hx hb d_M_init_384 (by decide) k) (fun st k => lv_bipush (v := 105) hx hb d_M_init_386 (by decide) k) d_M_init_388 (by decide) (vq (by decide)) (by decide) (fun H locs hP hD hS => ?_)
  refine ba_step (i := 66) (x := 118) hx hb hK hP hD hS 0 rfl d_M_init_389 (fun st k => lv_bipush (v := 66) hx hb d_M_init_390 (by decide) k) (fun st k => lv_bipush (v := 118) hx hb d_M_init_392 (by decide) k) d_M_init_394 (by decide) (vq (by decide)) (by decide) (fun H locs hP hD hS => ?_)
  refine ba_step (i := 67) (x := 101) hx hb hK hP hD hS 0 rfl d_M_init_395 (fun st k => lv_bipush (v := 67) hx hb d_M_init_396 (by decide) k) (fun st k => lv_bipush (v := 101) hx hb d_M_init_398 (by decide) k) d_M_init_400 (by decide) (vq (by decide)) (by decide) (fun H locs hP hD hS => ?_)
  refine ba_step (i := 68) (x := 3) hx hb hK hP hD hS 0 rfl d_M_init_401 (fun st k => lv_bipush (v := 68) hx hb d_M_init_402 (by decide) k) (fun st k => lv_iconst (v := 3) hx hb d_M_init_404 (by decide) k) d_M_init_405 (by decide) (vq (by decide)) (by decide) (fun H locs hP hD hS => ?_)
  refine ba_step (i := 69) (x := 114) hx hb hK hP hD hS 0 rfl d_M_init_406 (fun st k => lv_bipush (v := 69) hx hb d_M_init_407 (by decide) k) (fun st k => lv_bipush (v := 114) hx hb d_M_init_409 (by decide) k) d_M_init_411 (by decide) (vq (by decide)) (by decide) (fun H locs hP hD hS => ?_)
  refine ba_step (i := 70) (x := 101) hx hb hK hP hD hS 0 rfl d_M_init_412 (fun st k => lv_bipush (v := 70) hx hb d_M_init_413 (by decide) k) (fun st k => lv_bipush (v := 101) hx hb d_M_init_415 (by decide) k) d_M_init_417 (by decide) (vq (by decide)) (by decide) (fun H locs hP hD hS => ?_)
  refine ba_step (i := 71) (x := 109) hx hb hK hP hD hS 0 rfl d_M_init_418 (fun st k => lv_bipush (v := 71) hx hb d_M_init_419 (by decide) k) (fun st k => lv_bipush (v := 109) hx hb d_M_init_421 (by decide) k) d_M_init_423 (by decide) (vq (by decide)) (by decide) (fun H locs hP hD hS => ?_)
  refine ba_step (i := 72) (x := 4) hx hb hK hP hD hS 0 rfl d_M_init_424 (fun st k => lv_bipush (v := 72) hx hb d_M_init_425 (by decide) k) (fun st k => lv_iconst (v := 4) hx hb d_M_init_427 (by decide) k) d_M_init_428 (by decide) (vq (by decide)) (by decide) (fun H locs hP hD hS => ?_)
  refine ba_step (i := 73) (x := 119) hx hb hK hP hD hS 0 rfl d_M_init_429 (fun st k => lv_bipush (v := 73) hx hb d_M_init_430 (by decide) k) (fun st k => lv_bipush (v := 119) hx hb d_M_init_432 (by decide) k) d_M_init_434 (by decide) (vq (by decide)) (by decide) (fun H locs hP hD hS => ?_)
  refine ba_step (i := 74) (x := 104) hx hb hK hP hD hS 0 rfl d_M_init_435 (fun st k => lv_bipush (v := 74) hx hb d_M_init_436 (by decide) k) (fun st k => lv_bipush (v := 104) hx hb d_M_init_438 (by decide) k) d_M_init_440 (by decide) (vq (by decide)) (by decide) (fun H locs hP hD hS => ?_)
  refine ba_step (i := 75) (x := 101) hx hb hK hP hD hS 0 rfl d_M_init_441 (fun st k => lv_bipush (v := 75) hx hb d_M_init_442 (by decide) k) (fun st k => lv_bipush (v := 101) hx hb d_M_init_444 (by decide) k) d_M_init_446 (by decide) (vq (by decide)) (by decide) (fun H locs hP hD hS => ?_)
  refine ba_step (i := 76) (x := 110) hx hb hK hP hD hS 0 rfl d_M_init_447 (fun st k => lv_bipush (v := 76) hx hb d_M_init_448 (by decide) k) (fun st k => lv_bipush (v := 110) hx hb d_M_init_450 (by decide) k) d_M_init_452 (by decide) (vq (by decide)) (by decide) (fun H locs hP hD hS => ?_)
  exact kk H locs hP hD hS
set_option maxRecDepth 100000 in
set_option maxHeartbeats 4000000 in
theorem sg_0 {p : Program} {l : Launch} {e : Env} {R : Room} {s : State} {m : MethodId} {args : Array Value} {below : List Frame} {meth : Method} {c : Code} {H : Heap} {locs : List Loc} {cells slots : Nat} {Q : State → Prop} {ls : Array Slot} {D : va_G} {cl : List vw_C} {cB cI cJ cZ cS : ClassId} {rst : va_W} {A : Nat → Prop} {H0 : Heap} {iM h0 : Nat} {V : Nat → Value} (hx : p.tables.exec = Jvm.exec) (hb : c.code = b_M_init) (ht : ∀ w ∈ wd_tbl, w.before args s = true) (hown : s.vm.findClass R_M = some m.cls) (hM : cl[iM]? = some (R_M, F_M, 171)) (hin : meth.name = "<init>") (hK : va_K D cl (ty5 cB cI cJ cZ cS) s) (hA : ∀ q, H0.size ≤ q → A q) (hl : ls[0]? = some (.val (.ref h0))) (hP : va_P D cl ((h0, .inr (iM, fl 171 V)) :: rst) H) (hD : va_D A ((h0, .inr (iM, fl 171 V)) :: rst)) (hS : va_S A H0 H locs) (hc : cells + 1 ≤ R.cells) (hs : slots + 77 ≤ R.slots)
    (kk : ∀ (q0 : Nat) (H1 : Heap) (locs1 : List Loc), va_P D cl ((h0, .inr (iM, fl 171 (va_up V 0 (.ref q0)))) :: (q0, .inl (cB, 77, .inl (tk tb_0 77))) :: rst) H1 → va_D A ((h0, .inr (iM, fl 171 (va_up V 0 (.ref q0)))) :: (q0, .inl (cB, 77, .inl (tk tb_0 77))) :: rst) → va_S A H0 H1 locs1 → W p l e R s m args below meth c H1 locs1 (cells + 1) (slots + 77) Q (F0 m 456 ls [])) :
    W p l e R s m args below meth c H locs cells slots Q (F0 m 4 ls []) := by
  refine mk_open (n := 77) (N := 77) (a0 := (77, .inl (fun _ => 0))) (ty := .byte) hx hb hK hA hl hP hD hS d_M_init_4 (fun st k => lv_bipush (v := 77) hx hb d_M_init_5 (by decide) k) d_M_init_7 (ht _ ac_byte) rfl (fun _ h => by cases h) 0 rfl (fun _ => rfl) (by decide) (by decide) (by decide) (by omega) (by omega) (fun q0 H hP hD hS => ?_)
  rw [tk_0 tb_0] at hP hD
  refine sg_0_0 hx hb ht hown hM hin hK hA hl hP hD hS (fun H locs hP hD hS => ?_)
  refine sg_0_40 hx hb ht hown hM hin hK hA hl hP hD hS (fun H locs hP hD hS => ?_)
  refine mf_putF hx hb ht hown hM hK hP hD hS 0 rfl 0 (by decide) lk_M_0 rfl hin rfl rfl d_M_init_453 (fun H locs hP hD hS => ?_)
  exact kk q0 H locs hP hD hS
def tb_1 : List Int32 := [4, 116, 114, 117, 101, 5, 102, 97, 108, 115, 101, 2, 111, 107, 4, 110, 111, 110, 101, 6, 110, 111, 114, 109, 97, 108, 4, 107, 105, 108, 108, 6, 107, 105, 108, 108, 101, 100, 5, 101, 114, 114, 111, 114, 4, 101, 120, 105, 116, 4, 100, 111, 119, 110, 8, 105, 110, 102, 105, 110, 105, 116, 121, 6, 98, 97, 100, 97, 114, 103, 8, 98, 97, 100, 97, 114, 105, 116, 104, 8, 98, 97, 100, 109, 97, 116, 99, 104, 15, 102, 117, 110, 99, 116, 105, 111, 110, 95, 99, 108, 97, 117, 115, 101, 11, 99, 97, 115, 101, 95, 99, 108, 97, 117, 115, 101, 9, 105, 102, 95, 99, 108, 97, 117, 115, 101, 6, 98, 97, 100, 102, 117, 110, 8, 98, 97, 100, 97, 114, 105, 116, 121, 7, 110, 111, 99, 97, 116, 99, 104, 4, 104, 101, 97, 112, 5, 115, 116, 97, 99, 107]
set_option maxRecDepth 100000 in
set_option maxHeartbeats 4000000 in
theorem sg_1_0 {p : Program} {l : Launch} {e : Env} {R : Room} {s : State} {m : MethodId} {args : Array Value} {below : List Frame} {meth : Method} {c : Code} {H : Heap} {locs : List Loc} {cells slots : Nat} {Q : State → Prop} {ls : Array Slot} {D : va_G} {cl : List vw_C} {cB cI cJ cZ cS : ClassId} {rst : va_W} {A : Nat → Prop} {H0 : Heap} {iM h0 : Nat} {ob : Nat × va_E} {q1 : Nat} (hx : p.tables.exec = Jvm.exec) (hb : c.code = b_M_init) (ht : ∀ w ∈ wd_tbl, w.before args s = true) (hown : s.vm.findClass R_M = some m.cls) (hM : cl[iM]? = some (R_M, F_M, 171)) (hin : meth.name = "<init>") (hK : va_K D cl (ty5 cB cI cJ cZ cS) s) (hA : ∀ q, H0.size ≤ q → A q) (hl : ls[0]? = some (.val (.ref h0))) (hP : va_P D cl (ob :: (q1, .inl (cB, 161, .inl (tk tb_1 0))) :: rst) H) (hD : va_D A (ob :: (q1, .inl (cB, 161, .inl (tk tb_1 0))) :: rst)) (hS : va_S A H0 H locs)
    (kk : ∀ (H1 : Heap) (locs1 : List Loc), va_P D cl (ob :: (q1, .inl (cB, 161, .inl (tk tb_1 40))) :: rst) H1 → va_D A (ob :: (q1, .inl (cB, 161, .inl (tk tb_1 40))) :: rst) → va_S A H0 H1 locs1 → W p l e R s m args below meth c H1 locs1 cells slots Q (F0 m 690 ls [.ref q1, .ref h0])) :
    W p l e R s m args below meth c H locs cells slots Q (F0 m 462 ls [.ref q1, .ref h0]) := by
  refine ba_step (i := 0) (x := 4) hx hb hK hP hD hS 0 rfl d_M_init_462 (fun st k => lv_iconst (v := 0) hx hb d_M_init_463 (by decide) k) (fun st k => lv_iconst (v := 4) hx hb d_M_init_464 (by decide) k) d_M_init_465 (by decide) (vq (by decide)) (by decide) (fun H locs hP hD hS => ?_)
  refine ba_step (i := 1) (x := 116) hx hb hK hP hD hS 0 rfl d_M_init_466 (fun st k => lv_iconst (v := 1) hx hb d_M_init_467 (by decide) k) (fun st k => lv_bipush (v := 116) hx hb d_M_init_468 (by decide) k) d_M_init_470 (by decide) (vq (by decide)) (by decide) (fun H locs hP hD hS => ?_)
  refine ba_step (i := 2) (x := 114) hx hb hK hP hD hS 0 rfl d_M_init_471 (fun st k => lv_iconst (v := 2) hx hb d_M_init_472 (by decide) k) (fun st k => lv_bipush (v := 114) hx hb d_M_init_473 (by decide) k) d_M_init_475 (by decide) (vq (by decide)) (by decide) (fun H locs hP hD hS => ?_)
  refine ba_step (i := 3) (x := 117) hx hb hK hP hD hS 0 rfl d_M_init_476 (fun st k => lv_iconst (v := 3) hx hb d_M_init_477 (by decide) k) (fun st k => lv_bipush (v := 117) hx hb d_M_init_478 (by decide) k) d_M_init_480 (by decide) (vq (by decide)) (by decide) (fun H locs hP hD hS => ?_)
  refine ba_step (i := 4) (x := 101) hx hb hK hP hD hS 0 rfl d_M_init_481 (fun st k => lv_iconst (v := 4) hx hb d_M_init_482 (by decide) k) (fun st k => lv_bipush (v := 101) hx hb d_M_init_483 (by decide) k) d_M_init_485 (by decide) (vq (by decide)) (by decide) (fun H locs hP hD hS => ?_)
  refine ba_step (i := 5) (x := 5) hx hb hK hP hD hS 0 rfl d_M_init_486 (fun st k => lv_iconst (v := 5) hx hb d_M_init_487 (by decide) k) (fun st k => lv_iconst (v := 5) hx hb d_M_init_488 (by decide) k) d_M_init_489 (by decide) (vq (by decide)) (by decide) (fun H locs hP hD hS => ?_)
  refine ba_step (i := 6) (x := 102) hx hb hK hP hD hS 0 rfl d_M_init_490 (fun st k => lv_bipush (v := 6) hx hb d_M_init_491 (by decide) k) (fun st k => lv_bipush (v := 102) hx hb d_M_init_493 (by decide) k) d_M_init_495 (by decide) (vq (by decide)) (by decide) (fun H locs hP hD hS => ?_)
  refine ba_step (i := 7) (x := 97) hx hb hK hP hD hS 0 rfl d_M_init_496 (fun st k => lv_bipush (v := 7) hx hb d_M_init_497 (by decide) k) (fun st k => lv_bipush (v := 97) hx hb d_M_init_499 (by decide) k) d_M_init_501 (by decide) (vq (by decide)) (by decide) (fun H locs hP hD hS => ?_)
  refine ba_step (i := 8) (x := 108) hx hb hK hP hD hS 0 rfl d_M_init_502 (fun st k => lv_bipush (v := 8) hx hb d_M_init_503 (by decide) k) (fun st k => lv_bipush (v := 108) hx hb d_M_init_505 (by decide) k) d_M_init_507 (by decide) (vq (by decide)) (by decide) (fun H locs hP hD hS => ?_)
  refine ba_step (i := 9) (x := 115) hx hb hK hP hD hS 0 rfl d_M_init_508 (fun st k => lv_bipush (v := 9) hx hb d_M_init_509 (by decide) k) (fun st k => lv_bipush (v := 115) hx hb d_M_init_511 (by decide) k) d_M_init_513 (by decide) (vq (by decide)) (by decide) (fun H locs hP hD hS => ?_)
  refine ba_step (i := 10) (x := 101) hx hb hK hP hD hS 0 rfl d_M_init_514 (fun st k => lv_bipush (v := 10) hx hb d_M_init_515 (by decide) k) (fun st k => lv_bipush (v := 101) hx hb d_M_init_517 (by decide) k) d_M_init_519 (by decide) (vq (by decide)) (by decide) (fun H locs hP hD hS => ?_)
  refine ba_step (i := 11) (x := 2) hx hb hK hP hD hS 0 rfl d_M_init_520 (fun st k => lv_bipush (v := 11) hx hb d_M_init_521 (by decide) k) (fun st k => lv_iconst (v := 2) hx hb d_M_init_523 (by decide) k) d_M_init_524 (by decide) (vq (by decide)) (by decide) (fun H locs hP hD hS => ?_)
  refine ba_step (i := 12) (x := 111) hx hb hK hP hD hS 0 rfl d_M_init_525 (fun st k => lv_bipush (v := 12) hx hb d_M_init_526 (by decide) k) (fun st k => lv_bipush (v := 111) hx hb d_M_init_528 (by decide) k) d_M_init_530 (by decide) (vq (by decide)) (by decide) (fun H locs hP hD hS => ?_)
  refine ba_step (i := 13) (x := 107) hx hb hK hP hD hS 0 rfl d_M_init_531 (fun st k => lv_bipush (v := 13) hx hb d_M_init_532 (by decide) k) (fun st k => lv_bipush (v := 107) hx hb d_M_init_534 (by decide) k) d_M_init_536 (by decide) (vq (by decide)) (by decide) (fun H locs hP hD hS => ?_)
  refine ba_step (i := 14) (x := 4) hx hb hK hP hD hS 0 rfl d_M_init_537 (fun st k => lv_bipush (v := 14) hx hb d_M_init_538 (by decide) k) (fun st k => lv_iconst (v := 4) hx hb d_M_init_540 (by decide) k) d_M_init_541 (by decide) (vq (by decide)) (by decide) (fun H locs hP hD hS => ?_)
  refine ba_step (i := 15) (x := 110) hx hb hK hP hD hS 0 rfl d_M_init_542 (fun st k => lv_bipush (v := 15) hx hb d_M_init_543 (by decide) k) (fun st k => lv_bipush (v := 110) hx hb d_M_init_545 (by decide) k) d_M_init_547 (by decide) (vq (by decide)) (by decide) (fun H locs hP hD hS => ?_)
  refine ba_step (i := 16) (x := 111) hx hb hK hP hD hS 0 rfl d_M_init_548 (fun st k => lv_bipush (v := 16) hx hb d_M_init_549 (by decide) k) (fun st k => lv_bipush (v := 111) hx hb d_M_init_551 (by decide) k) d_M_init_553 (by decide) (vq (by decide)) (by decide) (fun H locs hP hD hS => ?_)
  refine ba_step (i := 17) (x := 110) hx hb hK hP hD hS 0 rfl d_M_init_554 (fun st k => lv_bipush (v := 17) hx hb d_M_init_555 (by decide) k) (fun st k => lv_bipush (v := 110) hx hb d_M_init_557 (by decide) k) d_M_init_559 (by decide) (vq (by decide)) (by decide) (fun H locs hP hD hS => ?_)
  refine ba_step (i := 18) (x := 101) hx hb hK hP hD hS 0 rfl d_M_init_560 (fun st k => lv_bipush (v := 18) hx hb d_M_init_561 (by decide) k) (fun st k => lv_bipush (v := 101) hx hb d_M_init_563 (by decide) k) d_M_init_565 (by decide) (vq (by decide)) (by decide) (fun H locs hP hD hS => ?_)
  refine ba_step (i := 19) (x := 6) hx hb hK hP hD hS 0 rfl d_M_init_566 (fun st k => lv_bipush (v := 19) hx hb d_M_init_567 (by decide) k) (fun st k => lv_bipush (v := 6) hx hb d_M_init_569 (by decide) k) d_M_init_571 (by decide) (vq (by decide)) (by decide) (fun H locs hP hD hS => ?_)
  refine ba_step (i := 20) (x := 110) hx hb hK hP hD hS 0 rfl d_M_init_572 (fun st k => lv_bipush (v := 20) hx hb d_M_init_573 (by decide) k) (fun st k => lv_bipush (v := 110) hx hb d_M_init_575 (by decide) k) d_M_init_577 (by decide) (vq (by decide)) (by decide) (fun H locs hP hD hS => ?_)
  refine ba_step (i := 21) (x := 111) hx hb hK hP hD hS 0 rfl d_M_init_578 (fun st k => lv_bipush (v := 21) hx hb d_M_init_579 (by decide) k) (fun st k => lv_bipush (v := 111) hx hb d_M_init_581 (by decide) k) d_M_init_583 (by decide) (vq (by decide)) (by decide) (fun H locs hP hD hS => ?_)
  refine ba_step (i := 22) (x := 114) hx hb hK hP hD hS 0 rfl d_M_init_584 (fun st k => lv_bipush (v := 22) hx hb d_M_init_585 (by decide) k) (fun st k => lv_bipush (v := 114) hx hb d_M_init_587 (by decide) k) d_M_init_589 (by decide) (vq (by decide)) (by decide) (fun H locs hP hD hS => ?_)
  refine ba_step (i := 23) (x := 109) hx hb hK hP hD hS 0 rfl d_M_init_590 (fun st k => lv_bipush (v := 23) hx hb d_M_init_591 (by decide) k) (fun st k => lv_bipush (v := 109) hx hb d_M_init_593 (by decide) k) d_M_init_595 (by decide) (vq (by decide)) (by decide) (fun H locs hP hD hS => ?_)
  refine ba_step (i := 24) (x := 97) hx hb hK hP hD hS 0 rfl d_M_init_596 (fun st k => lv_bipush (v := 24) hx hb d_M_init_597 (by decide) k) (fun st k => lv_bipush (v := 97) hx hb d_M_init_599 (by decide) k) d_M_init_601 (by decide) (vq (by decide)) (by decide) (fun H locs hP hD hS => ?_)
  refine ba_step (i := 25) (x := 108) hx hb hK hP hD hS 0 rfl d_M_init_602 (fun st k => lv_bipush (v := 25) hx hb d_M_init_603 (by decide) k) (fun st k => lv_bipush (v := 108) hx hb d_M_init_605 (by decide) k) d_M_init_607 (by decide) (vq (by decide)) (by decide) (fun H locs hP hD hS => ?_)
  refine ba_step (i := 26) (x := 4) hx hb hK hP hD hS 0 rfl d_M_init_608 (fun st k => lv_bipush (v := 26) hx hb d_M_init_609 (by decide) k) (fun st k => lv_iconst (v := 4) hx hb d_M_init_611 (by decide) k) d_M_init_612 (by decide) (vq (by decide)) (by decide) (fun H locs hP hD hS => ?_)
  refine ba_step (i := 27) (x := 107) hx hb hK hP hD hS 0 rfl d_M_init_613 (fun st k => lv_bipush (v := 27) hx hb d_M_init_614 (by decide) k) (fun st k => lv_bipush (v := 107) hx hb d_M_init_616 (by decide) k) d_M_init_618 (by decide) (vq (by decide)) (by decide) (fun H locs hP hD hS => ?_)
  refine ba_step (i := 28) (x := 105) hx hb hK hP hD hS 0 rfl d_M_init_619 (fun st k => lv_bipush (v := 28) hx hb d_M_init_620 (by decide) k) (fun st k => lv_bipush (v := 105) hx hb d_M_init_622 (by decide) k) d_M_init_624 (by decide) (vq (by decide)) (by decide) (fun H locs hP hD hS => ?_)
  refine ba_step (i := 29) (x := 108) hx hb hK hP hD hS 0 rfl d_M_init_625 (fun st k => lv_bipush (v := 29) hx hb d_M_init_626 (by decide) k) (fun st k => lv_bipush (v := 108) hx hb d_M_init_628 (by decide) k) d_M_init_630 (by decide) (vq (by decide)) (by decide) (fun H locs hP hD hS => ?_)
  refine ba_step (i := 30) (x := 108) hx hb hK hP hD hS 0 rfl d_M_init_631 (fun st k => lv_bipush (v := 30) hx hb d_M_init_632 (by decide) k) (fun st k => lv_bipush (v := 108) hx hb d_M_init_634 (by decide) k) d_M_init_636 (by decide) (vq (by decide)) (by decide) (fun H locs hP hD hS => ?_)
  refine ba_step (i := 31) (x := 6) hx hb hK hP hD hS 0 rfl d_M_init_637 (fun st k => lv_bipush (v := 31) hx hb d_M_init_638 (by decide) k) (fun st k => lv_bipush (v := 6) hx hb d_M_init_640 (by decide) k) d_M_init_642 (by decide) (vq (by decide)) (by decide) (fun H locs hP hD hS => ?_)
  refine ba_step (i := 32) (x := 107) hx hb hK hP hD hS 0 rfl d_M_init_643 (fun st k => lv_bipush (v := 32) hx hb d_M_init_644 (by decide) k) (fun st k => lv_bipush (v := 107) hx hb d_M_init_646 (by decide) k) d_M_init_648 (by decide) (vq (by decide)) (by decide) (fun H locs hP hD hS => ?_)
  refine ba_step (i := 33) (x := 105) hx hb hK hP hD hS 0 rfl d_M_init_649 (fun st k => lv_bipush (v := 33) hx hb d_M_init_650 (by decide) k) (fun st k => lv_bipush (v := 105) hx hb d_M_init_652 (by decide) k) d_M_init_654 (by decide) (vq (by decide)) (by decide) (fun H locs hP hD hS => ?_)
  refine ba_step (i := 34) (x := 108) hx hb hK hP hD hS 0 rfl d_M_init_655 (fun st k => lv_bipush (v := 34) hx hb d_M_init_656 (by decide) k) (fun st k => lv_bipush (v := 108) hx hb d_M_init_658 (by decide) k) d_M_init_660 (by decide) (vq (by decide)) (by decide) (fun H locs hP hD hS => ?_)
  refine ba_step (i := 35) (x := 108) hx hb hK hP hD hS 0 rfl d_M_init_661 (fun st k => lv_bipush (v := 35) hx hb d_M_init_662 (by decide) k) (fun st k => lv_bipush (v := 108) hx hb d_M_init_664 (by decide) k) d_M_init_666 (by decide) (vq (by decide)) (by decide) (fun H locs hP hD hS => ?_)
  refine ba_step (i := 36) (x := 101) hx hb hK hP hD hS 0 rfl d_M_init_667 (fun st k => lv_bipush (v := 36) hx hb d_M_init_668 (by decide) k) (fun st k => lv_bipush (v := 101) hx hb d_M_init_670 (by decide) k) d_M_init_672 (by decide) (vq (by decide)) (by decide) (fun H locs hP hD hS => ?_)
  refine ba_step (i := 37) (x := 100) hx hb hK hP hD hS 0 rfl d_M_init_673 (fun st k => lv_bipush (v := 37) hx hb d_M_init_674 (by decide) k) (fun st k => lv_bipush (v := 100) hx hb d_M_init_676 (by decide) k) d_M_init_678 (by decide) (vq (by decide)) (by decide) (fun H locs hP hD hS => ?_)
  refine ba_step (i := 38) (x := 5) hx hb hK hP hD hS 0 rfl d_M_init_679 (fun st k => lv_bipush (v := 38) hx hb d_M_init_680 (by decide) k) (fun st k => lv_iconst (v := 5) hx hb d_M_init_682 (by decide) k) d_M_init_683 (by decide) (vq (by decide)) (by decide) (fun H locs hP hD hS => ?_)
  refine ba_step (i := 39) (x := 101) hx hb hK hP hD hS 0 rfl d_M_init_684 (fun st k => lv_bipush (v := 39) hx hb d_M_init_685 (by decide) k) (fun st k => lv_bipush (v := 101) hx hb d_M_init_687 (by decide) k) d_M_init_689 (by decide) (vq (by decide)) (by decide) (fun H locs hP hD hS => ?_)
  exact kk H locs hP hD hS
set_option maxRecDepth 100000 in
set_option maxHeartbeats 4000000 in
theorem sg_1_40 {p : Program} {l : Launch} {e : Env} {R : Room} {s : State} {m : MethodId} {args : Array Value} {below : List Frame} {meth : Method} {c : Code} {H : Heap} {locs : List Loc} {cells slots : Nat} {Q : State → Prop} {ls : Array Slot} {D : va_G} {cl : List vw_C} {cB cI cJ cZ cS : ClassId} {rst : va_W} {A : Nat → Prop} {H0 : Heap} {iM h0 : Nat} {ob : Nat × va_E} {q1 : Nat} (hx : p.tables.exec = Jvm.exec) (hb : c.code = b_M_init) (ht : ∀ w ∈ wd_tbl, w.before args s = true) (hown : s.vm.findClass R_M = some m.cls) (hM : cl[iM]? = some (R_M, F_M, 171)) (hin : meth.name = "<init>") (hK : va_K D cl (ty5 cB cI cJ cZ cS) s) (hA : ∀ q, H0.size ≤ q → A q) (hl : ls[0]? = some (.val (.ref h0))) (hP : va_P D cl (ob :: (q1, .inl (cB, 161, .inl (tk tb_1 40))) :: rst) H) (hD : va_D A (ob :: (q1, .inl (cB, 161, .inl (tk tb_1 40))) :: rst)) (hS : va_S A H0 H locs)
    (kk : ∀ (H1 : Heap) (locs1 : List Loc), va_P D cl (ob :: (q1, .inl (cB, 161, .inl (tk tb_1 80))) :: rst) H1 → va_D A (ob :: (q1, .inl (cB, 161, .inl (tk tb_1 80))) :: rst) → va_S A H0 H1 locs1 → W p l e R s m args below meth c H1 locs1 cells slots Q (F0 m 928 ls [.ref q1, .ref h0])) :
    W p l e R s m args below meth c H locs cells slots Q (F0 m 690 ls [.ref q1, .ref h0]) := by
  refine ba_step (i := 40) (x := 114) hx hb hK hP hD hS 0 rfl d_M_init_690 (fun st k => lv_bipush (v := 40) hx hb d_M_init_691 (by decide) k) (fun st k => lv_bipush (v := 114) hx hb d_M_init_693 (by decide) k) d_M_init_695 (by decide) (vq (by decide)) (by decide) (fun H locs hP hD hS => ?_)
  refine ba_step (i := 41) (x := 114) hx hb hK hP hD hS 0 rfl d_M_init_696 (fun st k => lv_bipush (v := 41) hx hb d_M_init_697 (by decide) k) (fun st k => lv_bipush (v := 114) hx hb d_M_init_699 (by decide) k) d_M_init_701 (by decide) (vq (by decide)) (by decide) (fun H locs hP hD hS => ?_)
  refine ba_step (i := 42) (x := 111) hx hb hK hP hD hS 0 rfl d_M_init_702 (fun st k => lv_bipush (v := 42) hx hb d_M_init_703 (by decide) k) (fun st k => lv_bipush (v := 111) hx hb d_M_init_705 (by decide) k) d_M_init_707 (by decide) (vq (by decide)) (by decide) (fun H locs hP hD hS => ?_)
  refine ba_step (i := 43) (x := 114) hx hb hK hP hD hS 0 rfl d_M_init_708 (fun st k => lv_bipush (v := 43) hx hb d_M_init_709 (by decide) k) (fun st k => lv_bipush (v := 114) hx hb d_M_init_711 (by decide) k) d_M_init_713 (by decide) (vq (by decide)) (by decide) (fun H locs hP hD hS => ?_)
  refine ba_step (i := 44) (x := 4) hx hb hK hP hD hS 0 rfl d_M_init_714 (fun st k => lv_bipush (v := 44) hx hb d_M_init_715 (by decide) k) (fun st k => lv_iconst (v := 4) hx hb d_M_init_717 (by decide) k) d_M_init_718 (by decide) (vq (by decide)) (by decide) (fun H locs hP hD hS => ?_)
  refine ba_step (i := 45) (x := 101) hx hb hK hP hD hS 0 rfl d_M_init_719 (fun st k => lv_bipush (v := 45) hx hb d_M_init_720 (by decide) k) (fun st k => lv_bipush (v := 101) hx hb d_M_init_722 (by decide) k) d_M_init_724 (by decide) (vq (by decide)) (by decide) (fun H locs hP hD hS => ?_)
  refine ba_step (i := 46) (x := 120) hx hb hK hP hD hS 0 rfl d_M_init_725 (fun st k => lv_bipush (v := 46) hx hb d_M_init_726 (by decide) k) (fun st k => lv_bipush (v := 120) hx hb d_M_init_728 (by decide) k) d_M_init_730 (by decide) (vq (by decide)) (by decide) (fun H locs hP hD hS => ?_)
  refine ba_step (i := 47) (x := 105) hx hb hK hP hD hS 0 rfl d_M_init_731 (fun st k => lv_bipush (v := 47) hx hb d_M_init_732 (by decide) k) (fun st k => lv_bipush (v := 105) hx hb d_M_init_734 (by decide) k) d_M_init_736 (by decide) (vq (by decide)) (by decide) (fun H locs hP hD hS => ?_)
  refine ba_step (i := 48) (x := 116) hx hb hK hP hD hS 0 rfl d_M_init_737 (fun st k => lv_bipush (v := 48) hx hb d_M_init_738 (by decide) k) (fun st k => lv_bipush (v := 116) hx hb d_M_init_740 (by decide) k) d_M_init_742 (by decide) (vq (by decide)) (by decide) (fun H locs hP hD hS => ?_)
  refine ba_step (i := 49) (x := 4) hx hb hK hP hD hS 0 rfl d_M_init_743 (fun st k => lv_bipush (v := 49) hx hb d_M_init_744 (by decide) k) (fun st k => lv_iconst (v := 4) hx hb d_M_init_746 (by decide) k) d_M_init_747 (by decide) (vq (by decide)) (by decide) (fun H locs hP hD hS => ?_)
  refine ba_step (i := 50) (x := 100) hx hb hK hP hD hS 0 rfl d_M_init_748 (fun st k => lv_bipush (v := 50) hx hb d_M_init_749 (by decide) k) (fun st k => lv_bipush (v := 100) hx hb d_M_init_751 (by decide) k) d_M_init_753 (by decide) (vq (by decide)) (by decide) (fun H locs hP hD hS => ?_)
  refine ba_step (i := 51) (x := 111) hx hb hK hP hD hS 0 rfl d_M_init_754 (fun st k => lv_bipush (v := 51) hx hb d_M_init_755 (by decide) k) (fun st k => lv_bipush (v := 111) hx hb d_M_init_757 (by decide) k) d_M_init_759 (by decide) (vq (by decide)) (by decide) (fun H locs hP hD hS => ?_)
  refine ba_step (i := 52) (x := 119) hx hb hK hP hD hS 0 rfl d_M_init_760 (fun st k => lv_bipush (v := 52) hx hb d_M_init_761 (by decide) k) (fun st k => lv_bipush (v := 119) hx hb d_M_init_763 (by decide) k) d_M_init_765 (by decide) (vq (by decide)) (by decide) (fun H locs hP hD hS => ?_)
  refine ba_step (i := 53) (x := 110) hx hb hK hP hD hS 0 rfl d_M_init_766 (fun st k => lv_bipush (v := 53) hx hb d_M_init_767 (by decide) k) (fun st k => lv_bipush (v := 110) hx hb d_M_init_769 (by decide) k) d_M_init_771 (by decide) (vq (by decide)) (by decide) (fun H locs hP hD hS => ?_)
  refine ba_step (i := 54) (x := 8) hx hb hK hP hD hS 0 rfl d_M_init_772 (fun st k => lv_bipush (v := 54) hx hb d_M_init_773 (by decide) k) (fun st k => lv_bipush (v := 8) hx hb d_M_init_775 (by decide) k) d_M_init_777 (by decide) (vq (by decide)) (by decide) (fun H locs hP hD hS => ?_)
  refine ba_step (i := 55) (x := 105) hx hb hK hP hD hS 0 rfl d_M_init_778 (fun st k => lv_bipush (v := 55) hx hb d_M_init_779 (by decide) k) (fun st k => lv_bipush (v := 105) hx hb d_M_init_781 (by decide) k) d_M_init_783 (by decide) (vq (by decide)) (by decide) (fun H locs hP hD hS => ?_)
  refine ba_step (i := 56) (x := 110) hx hb hK hP hD hS 0 rfl d_M_init_784 (fun st k => lv_bipush (v := 56) hx hb d_M_init_785 (by decide) k) (fun st k => lv_bipush (v := 110) hx hb d_M_init_787 (by decide) k) d_M_init_789 (by decide) (vq (by decide)) (by decide) (fun H locs hP hD hS => ?_)
  refine ba_step (i := 57) (x := 102) hx hb hK hP hD hS 0 rfl d_M_init_790 (fun st k => lv_bipush (v := 57) hx hb d_M_init_791 (by decide) k) (fun st k => lv_bipush (v := 102) hx hb d_M_init_793 (by decide) k) d_M_init_795 (by decide) (vq (by decide)) (by decide) (fun H locs hP hD hS => ?_)
  refine ba_step (i := 58) (x := 105) hx hb hK hP hD hS 0 rfl d_M_init_796 (fun st k => lv_bipush (v := 58) hx hb d_M_init_797 (by decide) k) (fun st k => lv_bipush (v := 105) hx hb d_M_init_799 (by decide) k) d_M_init_801 (by decide) (vq (by decide)) (by decide) (fun H locs hP hD hS => ?_)
  refine ba_step (i := 59) (x := 110) hx hb hK hP hD hS 0 rfl d_M_init_802 (fun st k => lv_bipush (v := 59) hx hb d_M_init_803 (by decide) k) (fun st k => lv_bipush (v := 110) hx hb d_M_init_805 (by decide) k) d_M_init_807 (by decide) (vq (by decide)) (by decide) (fun H locs hP hD hS => ?_)
  refine ba_step (i := 60) (x := 105) hx hb hK hP hD hS 0 rfl d_M_init_808 (fun st k => lv_bipush (v := 60) hx hb d_M_init_809 (by decide) k) (fun st k => lv_bipush (v := 105) hx hb d_M_init_811 (by decide) k) d_M_init_813 (by decide) (vq (by decide)) (by decide) (fun H locs hP hD hS => ?_)
  refine ba_step (i := 61) (x := 116) hx hb hK hP hD hS 0 rfl d_M_init_814 (fun st k => lv_bipush (v := 61) hx hb d_M_init_815 (by decide) k) (fun st k => lv_bipush (v := 116) hx hb d_M_init_817 (by decide) k) d_M_init_819 (by decide) (vq (by decide)) (by decide) (fun H locs hP hD hS => ?_)
  refine ba_step (i := 62) (x := 121) hx hb hK hP hD hS 0 rfl d_M_init_820 (fun st k => lv_bipush (v := 62) hx hb d_M_init_821 (by decide) k) (fun st k => lv_bipush (v := 121) hx hb d_M_init_823 (by decide) k) d_M_init_825 (by decide) (vq (by decide)) (by decide) (fun H locs hP hD hS => ?_)
  refine ba_step (i := 63) (x := 6) hx hb hK hP hD hS 0 rfl d_M_init_826 (fun st k => lv_bipush (v := 63) hx hb d_M_init_827 (by decide) k) (fun st k => lv_bipush (v := 6) hx hb d_M_init_829 (by decide) k) d_M_init_831 (by decide) (vq (by decide)) (by decide) (fun H locs hP hD hS => ?_)
  refine ba_step (i := 64) (x := 98) hx hb hK hP hD hS 0 rfl d_M_init_832 (fun st k => lv_bipush (v := 64) hx hb d_M_init_833 (by decide) k) (fun st k => lv_bipush (v := 98) hx hb d_M_init_835 (by decide) k) d_M_init_837 (by decide) (vq (by decide)) (by decide) (fun H locs hP hD hS => ?_)
  refine ba_step (i := 65) (x := 97) hx hb hK hP hD hS 0 rfl d_M_init_838 (fun st k => lv_bipush (v := 65) hx hb d_M_init_839 (by decide) k) (fun st k => lv_bipush (v := 97) hx hb d_M_init_841 (by decide) k) d_M_init_843 (by decide) (vq (by decide)) (by decide) (fun H locs hP hD hS => ?_)
  refine ba_step (i := 66) (x := 100) hx hb hK hP hD hS 0 rfl d_M_init_844 (fun st k => lv_bipush (v := 66) hx hb d_M_init_845 (by decide) k) (fun st k => lv_bipush (v := 100) hx hb d_M_init_847 (by decide) k) d_M_init_849 (by decide) (vq (by decide)) (by decide) (fun H locs hP hD hS => ?_)
  refine ba_step (i := 67) (x := 97) hx hb hK hP hD hS 0 rfl d_M_init_850 (fun st k => lv_bipush (v := 67) hx hb d_M_init_851 (by decide) k) (fun st k => lv_bipush (v := 97) hx hb d_M_init_853 (by decide) k) d_M_init_855 (by decide) (vq (by decide)) (by decide) (fun H locs hP hD hS => ?_)
  refine ba_step (i := 68) (x := 114) hx hb hK hP hD hS 0 rfl d_M_init_856 (fun st k => lv_bipush (v := 68) hx hb d_M_init_857 (by decide) k) (fun st k => lv_bipush (v := 114) hx hb d_M_init_859 (by decide) k) d_M_init_861 (by decide) (vq (by decide)) (by decide) (fun H locs hP hD hS => ?_)
  refine ba_step (i := 69) (x := 103) hx hb hK hP hD hS 0 rfl d_M_init_862 (fun st k => lv_bipush (v := 69) hx hb d_M_init_863 (by decide) k) (fun st k => lv_bipush (v := 103) hx hb d_M_init_865 (by decide) k) d_M_init_867 (by decide) (vq (by decide)) (by decide) (fun H locs hP hD hS => ?_)
  refine ba_step (i := 70) (x := 8) hx hb hK hP hD hS 0 rfl d_M_init_868 (fun st k => lv_bipush (v := 70) hx hb d_M_init_869 (by decide) k) (fun st k => lv_bipush (v := 8) hx hb d_M_init_871 (by decide) k) d_M_init_873 (by decide) (vq (by decide)) (by decide) (fun H locs hP hD hS => ?_)
  refine ba_step (i := 71) (x := 98) hx hb hK hP hD hS 0 rfl d_M_init_874 (fun st k => lv_bipush (v := 71) hx hb d_M_init_875 (by decide) k) (fun st k => lv_bipush (v := 98) hx hb d_M_init_877 (by decide) k) d_M_init_879 (by decide) (vq (by decide)) (by decide) (fun H locs hP hD hS => ?_)
  refine ba_step (i := 72) (x := 97) hx hb hK hP hD hS 0 rfl d_M_init_880 (fun st k => lv_bipush (v := 72) hx hb d_M_init_881 (by decide) k) (fun st k => lv_bipush (v := 97) hx hb d_M_init_883 (by decide) k) d_M_init_885 (by decide) (vq (by decide)) (by decide) (fun H locs hP hD hS => ?_)
  refine ba_step (i := 73) (x := 100) hx hb hK hP hD hS 0 rfl d_M_init_886 (fun st k => lv_bipush (v := 73) hx hb d_M_init_887 (by decide) k) (fun st k => lv_bipush (v := 100) hx hb d_M_init_889 (by decide) k) d_M_init_891 (by decide) (vq (by decide)) (by decide) (fun H locs hP hD hS => ?_)
  refine ba_step (i := 74) (x := 97) hx hb hK hP hD hS 0 rfl d_M_init_892 (fun st k => lv_bipush (v := 74) hx hb d_M_init_893 (by decide) k) (fun st k => lv_bipush (v := 97) hx hb d_M_init_895 (by decide) k) d_M_init_897 (by decide) (vq (by decide)) (by decide) (fun H locs hP hD hS => ?_)
  refine ba_step (i := 75) (x := 114) hx hb hK hP hD hS 0 rfl d_M_init_898 (fun st k => lv_bipush (v := 75) hx hb d_M_init_899 (by decide) k) (fun st k => lv_bipush (v := 114) hx hb d_M_init_901 (by decide) k) d_M_init_903 (by decide) (vq (by decide)) (by decide) (fun H locs hP hD hS => ?_)
  refine ba_step (i := 76) (x := 105) hx hb hK hP hD hS 0 rfl d_M_init_904 (fun st k => lv_bipush (v := 76) hx hb d_M_init_905 (by decide) k) (fun st k => lv_bipush (v := 105) hx hb d_M_init_907 (by decide) k) d_M_init_909 (by decide) (vq (by decide)) (by decide) (fun H locs hP hD hS => ?_)
  refine ba_step (i := 77) (x := 116) hx hb hK hP hD hS 0 rfl d_M_init_910 (fun st k => lv_bipush (v := 77) hx hb d_M_init_911 (by decide) k) (fun st k => lv_bipush (v := 116) hx hb d_M_init_913 (by decide) k) d_M_init_915 (by decide) (vq (by decide)) (by decide) (fun H locs hP hD hS => ?_)
  refine ba_step (i := 78) (x := 104) hx hb hK hP hD hS 0 rfl d_M_init_916 (fun st k => lv_bipush (v := 78) hx hb d_M_init_917 (by decide) k) (fun st k => lv_bipush (v := 104) hx hb d_M_init_919 (by decide) k) d_M_init_921 (by decide) (vq (by decide)) (by decide) (fun H locs hP hD hS => ?_)
  refine ba_step (i := 79) (x := 8) hx hb hK hP hD hS 0 rfl d_M_init_922 (fun st k => lv_bipush (v := 79) hx hb d_M_init_923 (by decide) k) (fun st k => lv_bipush (v := 8) hx hb d_M_init_925 (by decide) k) d_M_init_927 (by decide) (vq (by decide)) (by decide) (fun H locs hP hD hS => ?_)
  exact kk H locs hP hD hS
set_option maxRecDepth 100000 in
set_option maxHeartbeats 4000000 in
theorem sg_1_80 {p : Program} {l : Launch} {e : Env} {R : Room} {s : State} {m : MethodId} {args : Array Value} {below : List Frame} {meth : Method} {c : Code} {H : Heap} {locs : List Loc} {cells slots : Nat} {Q : State → Prop} {ls : Array Slot} {D : va_G} {cl : List vw_C} {cB cI cJ cZ cS : ClassId} {rst : va_W} {A : Nat → Prop} {H0 : Heap} {iM h0 : Nat} {ob : Nat × va_E} {q1 : Nat} (hx : p.tables.exec = Jvm.exec) (hb : c.code = b_M_init) (ht : ∀ w ∈ wd_tbl, w.before args s = true) (hown : s.vm.findClass R_M = some m.cls) (hM : cl[iM]? = some (R_M, F_M, 171)) (hin : meth.name = "<init>") (hK : va_K D cl (ty5 cB cI cJ cZ cS) s) (hA : ∀ q, H0.size ≤ q → A q) (hl : ls[0]? = some (.val (.ref h0))) (hP : va_P D cl (ob :: (q1, .inl (cB, 161, .inl (tk tb_1 80))) :: rst) H) (hD : va_D A (ob :: (q1, .inl (cB, 161, .inl (tk tb_1 80))) :: rst)) (hS : va_S A H0 H locs)
    (kk : ∀ (H1 : Heap) (locs1 : List Loc), va_P D cl (ob :: (q1, .inl (cB, 161, .inl (tk tb_1 120))) :: rst) H1 → va_D A (ob :: (q1, .inl (cB, 161, .inl (tk tb_1 120))) :: rst) → va_S A H0 H1 locs1 → W p l e R s m args below meth c H1 locs1 cells slots Q (F0 m 1168 ls [.ref q1, .ref h0])) :
    W p l e R s m args below meth c H locs cells slots Q (F0 m 928 ls [.ref q1, .ref h0]) := by
  refine ba_step (i := 80) (x := 98) hx hb hK hP hD hS 0 rfl d_M_init_928 (fun st k => lv_bipush (v := 80) hx hb d_M_init_929 (by decide) k) (fun st k => lv_bipush (v := 98) hx hb d_M_init_931 (by decide) k) d_M_init_933 (by decide) (vq (by decide)) (by decide) (fun H locs hP hD hS => ?_)
  refine ba_step (i := 81) (x := 97) hx hb hK hP hD hS 0 rfl d_M_init_934 (fun st k => lv_bipush (v := 81) hx hb d_M_init_935 (by decide) k) (fun st k => lv_bipush (v := 97) hx hb d_M_init_937 (by decide) k) d_M_init_939 (by decide) (vq (by decide)) (by decide) (fun H locs hP hD hS => ?_)
  refine ba_step (i := 82) (x := 100) hx hb hK hP hD hS 0 rfl d_M_init_940 (fun st k => lv_bipush (v := 82) hx hb d_M_init_941 (by decide) k) (fun st k => lv_bipush (v := 100) hx hb d_M_init_943 (by decide) k) d_M_init_945 (by decide) (vq (by decide)) (by decide) (fun H locs hP hD hS => ?_)
  refine ba_step (i := 83) (x := 109) hx hb hK hP hD hS 0 rfl d_M_init_946 (fun st k => lv_bipush (v := 83) hx hb d_M_init_947 (by decide) k) (fun st k => lv_bipush (v := 109) hx hb d_M_init_949 (by decide) k) d_M_init_951 (by decide) (vq (by decide)) (by decide) (fun H locs hP hD hS => ?_)
  refine ba_step (i := 84) (x := 97) hx hb hK hP hD hS 0 rfl d_M_init_952 (fun st k => lv_bipush (v := 84) hx hb d_M_init_953 (by decide) k) (fun st k => lv_bipush (v := 97) hx hb d_M_init_955 (by decide) k) d_M_init_957 (by decide) (vq (by decide)) (by decide) (fun H locs hP hD hS => ?_)
  refine ba_step (i := 85) (x := 116) hx hb hK hP hD hS 0 rfl d_M_init_958 (fun st k => lv_bipush (v := 85) hx hb d_M_init_959 (by decide) k) (fun st k => lv_bipush (v := 116) hx hb d_M_init_961 (by decide) k) d_M_init_963 (by decide) (vq (by decide)) (by decide) (fun H locs hP hD hS => ?_)
  refine ba_step (i := 86) (x := 99) hx hb hK hP hD hS 0 rfl d_M_init_964 (fun st k => lv_bipush (v := 86) hx hb d_M_init_965 (by decide) k) (fun st k => lv_bipush (v := 99) hx hb d_M_init_967 (by decide) k) d_M_init_969 (by decide) (vq (by decide)) (by decide) (fun H locs hP hD hS => ?_)
  refine ba_step (i := 87) (x := 104) hx hb hK hP hD hS 0 rfl d_M_init_970 (fun st k => lv_bipush (v := 87) hx hb d_M_init_971 (by decide) k) (fun st k => lv_bipush (v := 104) hx hb d_M_init_973 (by decide) k) d_M_init_975 (by decide) (vq (by decide)) (by decide) (fun H locs hP hD hS => ?_)
  refine ba_step (i := 88) (x := 15) hx hb hK hP hD hS 0 rfl d_M_init_976 (fun st k => lv_bipush (v := 88) hx hb d_M_init_977 (by decide) k) (fun st k => lv_bipush (v := 15) hx hb d_M_init_979 (by decide) k) d_M_init_981 (by decide) (vq (by decide)) (by decide) (fun H locs hP hD hS => ?_)
  refine ba_step (i := 89) (x := 102) hx hb hK hP hD hS 0 rfl d_M_init_982 (fun st k => lv_bipush (v := 89) hx hb d_M_init_983 (by decide) k) (fun st k => lv_bipush (v := 102) hx hb d_M_init_985 (by decide) k) d_M_init_987 (by decide) (vq (by decide)) (by decide) (fun H locs hP hD hS => ?_)
  refine ba_step (i := 90) (x := 117) hx hb hK hP hD hS 0 rfl d_M_init_988 (fun st k => lv_bipush (v := 90) hx hb d_M_init_989 (by decide) k) (fun st k => lv_bipush (v := 117) hx hb d_M_init_991 (by decide) k) d_M_init_993 (by decide) (vq (by decide)) (by decide) (fun H locs hP hD hS => ?_)
  refine ba_step (i := 91) (x := 110) hx hb hK hP hD hS 0 rfl d_M_init_994 (fun st k => lv_bipush (v := 91) hx hb d_M_init_995 (by decide) k) (fun st k => lv_bipush (v := 110) hx hb d_M_init_997 (by decide) k) d_M_init_999 (by decide) (vq (by decide)) (by decide) (fun H locs hP hD hS => ?_)
  refine ba_step (i := 92) (x := 99) hx hb hK hP hD hS 0 rfl d_M_init_1000 (fun st k => lv_bipush (v := 92) hx hb d_M_init_1001 (by decide) k) (fun st k => lv_bipush (v := 99) hx hb d_M_init_1003 (by decide) k) d_M_init_1005 (by decide) (vq (by decide)) (by decide) (fun H locs hP hD hS => ?_)
  refine ba_step (i := 93) (x := 116) hx hb hK hP hD hS 0 rfl d_M_init_1006 (fun st k => lv_bipush (v := 93) hx hb d_M_init_1007 (by decide) k) (fun st k => lv_bipush (v := 116) hx hb d_M_init_1009 (by decide) k) d_M_init_1011 (by decide) (vq (by decide)) (by decide) (fun H locs hP hD hS => ?_)
  refine ba_step (i := 94) (x := 105) hx hb hK hP hD hS 0 rfl d_M_init_1012 (fun st k => lv_bipush (v := 94) hx hb d_M_init_1013 (by decide) k) (fun st k => lv_bipush (v := 105) hx hb d_M_init_1015 (by decide) k) d_M_init_1017 (by decide) (vq (by decide)) (by decide) (fun H locs hP hD hS => ?_)
  refine ba_step (i := 95) (x := 111) hx hb hK hP hD hS 0 rfl d_M_init_1018 (fun st k => lv_bipush (v := 95) hx hb d_M_init_1019 (by decide) k) (fun st k => lv_bipush (v := 111) hx hb d_M_init_1021 (by decide) k) d_M_init_1023 (by decide) (vq (by decide)) (by decide) (fun H locs hP hD hS => ?_)
  refine ba_step (i := 96) (x := 110) hx hb hK hP hD hS 0 rfl d_M_init_1024 (fun st k => lv_bipush (v := 96) hx hb d_M_init_1025 (by decide) k) (fun st k => lv_bipush (v := 110) hx hb d_M_init_1027 (by decide) k) d_M_init_1029 (by decide) (vq (by decide)) (by decide) (fun H locs hP hD hS => ?_)
  refine ba_step (i := 97) (x := 95) hx hb hK hP hD hS 0 rfl d_M_init_1030 (fun st k => lv_bipush (v := 97) hx hb d_M_init_1031 (by decide) k) (fun st k => lv_bipush (v := 95) hx hb d_M_init_1033 (by decide) k) d_M_init_1035 (by decide) (vq (by decide)) (by decide) (fun H locs hP hD hS => ?_)
  refine ba_step (i := 98) (x := 99) hx hb hK hP hD hS 0 rfl d_M_init_1036 (fun st k => lv_bipush (v := 98) hx hb d_M_init_1037 (by decide) k) (fun st k => lv_bipush (v := 99) hx hb d_M_init_1039 (by decide) k) d_M_init_1041 (by decide) (vq (by decide)) (by decide) (fun H locs hP hD hS => ?_)
  refine ba_step (i := 99) (x := 108) hx hb hK hP hD hS 0 rfl d_M_init_1042 (fun st k => lv_bipush (v := 99) hx hb d_M_init_1043 (by decide) k) (fun st k => lv_bipush (v := 108) hx hb d_M_init_1045 (by decide) k) d_M_init_1047 (by decide) (vq (by decide)) (by decide) (fun H locs hP hD hS => ?_)
  refine ba_step (i := 100) (x := 97) hx hb hK hP hD hS 0 rfl d_M_init_1048 (fun st k => lv_bipush (v := 100) hx hb d_M_init_1049 (by decide) k) (fun st k => lv_bipush (v := 97) hx hb d_M_init_1051 (by decide) k) d_M_init_1053 (by decide) (vq (by decide)) (by decide) (fun H locs hP hD hS => ?_)
  refine ba_step (i := 101) (x := 117) hx hb hK hP hD hS 0 rfl d_M_init_1054 (fun st k => lv_bipush (v := 101) hx hb d_M_init_1055 (by decide) k) (fun st k => lv_bipush (v := 117) hx hb d_M_init_1057 (by decide) k) d_M_init_1059 (by decide) (vq (by decide)) (by decide) (fun H locs hP hD hS => ?_)
  refine ba_step (i := 102) (x := 115) hx hb hK hP hD hS 0 rfl d_M_init_1060 (fun st k => lv_bipush (v := 102) hx hb d_M_init_1061 (by decide) k) (fun st k => lv_bipush (v := 115) hx hb d_M_init_1063 (by decide) k) d_M_init_1065 (by decide) (vq (by decide)) (by decide) (fun H locs hP hD hS => ?_)
  refine ba_step (i := 103) (x := 101) hx hb hK hP hD hS 0 rfl d_M_init_1066 (fun st k => lv_bipush (v := 103) hx hb d_M_init_1067 (by decide) k) (fun st k => lv_bipush (v := 101) hx hb d_M_init_1069 (by decide) k) d_M_init_1071 (by decide) (vq (by decide)) (by decide) (fun H locs hP hD hS => ?_)
  refine ba_step (i := 104) (x := 11) hx hb hK hP hD hS 0 rfl d_M_init_1072 (fun st k => lv_bipush (v := 104) hx hb d_M_init_1073 (by decide) k) (fun st k => lv_bipush (v := 11) hx hb d_M_init_1075 (by decide) k) d_M_init_1077 (by decide) (vq (by decide)) (by decide) (fun H locs hP hD hS => ?_)
  refine ba_step (i := 105) (x := 99) hx hb hK hP hD hS 0 rfl d_M_init_1078 (fun st k => lv_bipush (v := 105) hx hb d_M_init_1079 (by decide) k) (fun st k => lv_bipush (v := 99) hx hb d_M_init_1081 (by decide) k) d_M_init_1083 (by decide) (vq (by decide)) (by decide) (fun H locs hP hD hS => ?_)
  refine ba_step (i := 106) (x := 97) hx hb hK hP hD hS 0 rfl d_M_init_1084 (fun st k => lv_bipush (v := 106) hx hb d_M_init_1085 (by decide) k) (fun st k => lv_bipush (v := 97) hx hb d_M_init_1087 (by decide) k) d_M_init_1089 (by decide) (vq (by decide)) (by decide) (fun H locs hP hD hS => ?_)
  refine ba_step (i := 107) (x := 115) hx hb hK hP hD hS 0 rfl d_M_init_1090 (fun st k => lv_bipush (v := 107) hx hb d_M_init_1091 (by decide) k) (fun st k => lv_bipush (v := 115) hx hb d_M_init_1093 (by decide) k) d_M_init_1095 (by decide) (vq (by decide)) (by decide) (fun H locs hP hD hS => ?_)
  refine ba_step (i := 108) (x := 101) hx hb hK hP hD hS 0 rfl d_M_init_1096 (fun st k => lv_bipush (v := 108) hx hb d_M_init_1097 (by decide) k) (fun st k => lv_bipush (v := 101) hx hb d_M_init_1099 (by decide) k) d_M_init_1101 (by decide) (vq (by decide)) (by decide) (fun H locs hP hD hS => ?_)
  refine ba_step (i := 109) (x := 95) hx hb hK hP hD hS 0 rfl d_M_init_1102 (fun st k => lv_bipush (v := 109) hx hb d_M_init_1103 (by decide) k) (fun st k => lv_bipush (v := 95) hx hb d_M_init_1105 (by decide) k) d_M_init_1107 (by decide) (vq (by decide)) (by decide) (fun H locs hP hD hS => ?_)
  refine ba_step (i := 110) (x := 99) hx hb hK hP hD hS 0 rfl d_M_init_1108 (fun st k => lv_bipush (v := 110) hx hb d_M_init_1109 (by decide) k) (fun st k => lv_bipush (v := 99) hx hb d_M_init_1111 (by decide) k) d_M_init_1113 (by decide) (vq (by decide)) (by decide) (fun H locs hP hD hS => ?_)
  refine ba_step (i := 111) (x := 108) hx hb hK hP hD hS 0 rfl d_M_init_1114 (fun st k => lv_bipush (v := 111) hx hb d_M_init_1115 (by decide) k) (fun st k => lv_bipush (v := 108) hx hb d_M_init_1117 (by decide) k) d_M_init_1119 (by decide) (vq (by decide)) (by decide) (fun H locs hP hD hS => ?_)
  refine ba_step (i := 112) (x := 97) hx hb hK hP hD hS 0 rfl d_M_init_1120 (fun st k => lv_bipush (v := 112) hx hb d_M_init_1121 (by decide) k) (fun st k => lv_bipush (v := 97) hx hb d_M_init_1123 (by decide) k) d_M_init_1125 (by decide) (vq (by decide)) (by decide) (fun H locs hP hD hS => ?_)
  refine ba_step (i := 113) (x := 117) hx hb hK hP hD hS 0 rfl d_M_init_1126 (fun st k => lv_bipush (v := 113) hx hb d_M_init_1127 (by decide) k) (fun st k => lv_bipush (v := 117) hx hb d_M_init_1129 (by decide) k) d_M_init_1131 (by decide) (vq (by decide)) (by decide) (fun H locs hP hD hS => ?_)
  refine ba_step (i := 114) (x := 115) hx hb hK hP hD hS 0 rfl d_M_init_1132 (fun st k => lv_bipush (v := 114) hx hb d_M_init_1133 (by decide) k) (fun st k => lv_bipush (v := 115) hx hb d_M_init_1135 (by decide) k) d_M_init_1137 (by decide) (vq (by decide)) (by decide) (fun H locs hP hD hS => ?_)
  refine ba_step (i := 115) (x := 101) hx hb hK hP hD hS 0 rfl d_M_init_1138 (fun st k => lv_bipush (v := 115) hx hb d_M_init_1139 (by decide) k) (fun st k => lv_bipush (v := 101) hx hb d_M_init_1141 (by decide) k) d_M_init_1143 (by decide) (vq (by decide)) (by decide) (fun H locs hP hD hS => ?_)
  refine ba_step (i := 116) (x := 9) hx hb hK hP hD hS 0 rfl d_M_init_1144 (fun st k => lv_bipush (v := 116) hx hb d_M_init_1145 (by decide) k) (fun st k => lv_bipush (v := 9) hx hb d_M_init_1147 (by decide) k) d_M_init_1149 (by decide) (vq (by decide)) (by decide) (fun H locs hP hD hS => ?_)
  refine ba_step (i := 117) (x := 105) hx hb hK hP hD hS 0 rfl d_M_init_1150 (fun st k => lv_bipush (v := 117) hx hb d_M_init_1151 (by decide) k) (fun st k => lv_bipush (v := 105) hx hb d_M_init_1153 (by decide) k) d_M_init_1155 (by decide) (vq (by decide)) (by decide) (fun H locs hP hD hS => ?_)
  refine ba_step (i := 118) (x := 102) hx hb hK hP hD hS 0 rfl d_M_init_1156 (fun st k => lv_bipush (v := 118) hx hb d_M_init_1157 (by decide) k) (fun st k => lv_bipush (v := 102) hx hb d_M_init_1159 (by decide) k) d_M_init_1161 (by decide) (vq (by decide)) (by decide) (fun H locs hP hD hS => ?_)
  refine ba_step (i := 119) (x := 95) hx hb hK hP hD hS 0 rfl d_M_init_1162 (fun st k => lv_bipush (v := 119) hx hb d_M_init_1163 (by decide) k) (fun st k => lv_bipush (v := 95) hx hb d_M_init_1165 (by decide) k) d_M_init_1167 (by decide) (vq (by decide)) (by decide) (fun H locs hP hD hS => ?_)
  exact kk H locs hP hD hS
set_option maxRecDepth 100000 in
set_option maxHeartbeats 4000000 in
theorem sg_1_120 {p : Program} {l : Launch} {e : Env} {R : Room} {s : State} {m : MethodId} {args : Array Value} {below : List Frame} {meth : Method} {c : Code} {H : Heap} {locs : List Loc} {cells slots : Nat} {Q : State → Prop} {ls : Array Slot} {D : va_G} {cl : List vw_C} {cB cI cJ cZ cS : ClassId} {rst : va_W} {A : Nat → Prop} {H0 : Heap} {iM h0 : Nat} {ob : Nat × va_E} {q1 : Nat} (hx : p.tables.exec = Jvm.exec) (hb : c.code = b_M_init) (ht : ∀ w ∈ wd_tbl, w.before args s = true) (hown : s.vm.findClass R_M = some m.cls) (hM : cl[iM]? = some (R_M, F_M, 171)) (hin : meth.name = "<init>") (hK : va_K D cl (ty5 cB cI cJ cZ cS) s) (hA : ∀ q, H0.size ≤ q → A q) (hl : ls[0]? = some (.val (.ref h0))) (hP : va_P D cl (ob :: (q1, .inl (cB, 161, .inl (tk tb_1 120))) :: rst) H) (hD : va_D A (ob :: (q1, .inl (cB, 161, .inl (tk tb_1 120))) :: rst)) (hS : va_S A H0 H locs)
    (kk : ∀ (H1 : Heap) (locs1 : List Loc), va_P D cl (ob :: (q1, .inl (cB, 161, .inl (tk tb_1 160))) :: rst) H1 → va_D A (ob :: (q1, .inl (cB, 161, .inl (tk tb_1 160))) :: rst) → va_S A H0 H1 locs1 → W p l e R s m args below meth c H1 locs1 cells slots Q (F0 m 1438 ls [.ref q1, .ref h0])) :
    W p l e R s m args below meth c H locs cells slots Q (F0 m 1168 ls [.ref q1, .ref h0]) := by
  refine ba_step (i := 120) (x := 99) hx hb hK hP hD hS 0 rfl d_M_init_1168 (fun st k => lv_bipush (v := 120) hx hb d_M_init_1169 (by decide) k) (fun st k => lv_bipush (v := 99) hx hb d_M_init_1171 (by decide) k) d_M_init_1173 (by decide) (vq (by decide)) (by decide) (fun H locs hP hD hS => ?_)
  refine ba_step (i := 121) (x := 108) hx hb hK hP hD hS 0 rfl d_M_init_1174 (fun st k => lv_bipush (v := 121) hx hb d_M_init_1175 (by decide) k) (fun st k => lv_bipush (v := 108) hx hb d_M_init_1177 (by decide) k) d_M_init_1179 (by decide) (vq (by decide)) (by decide) (fun H locs hP hD hS => ?_)
  refine ba_step (i := 122) (x := 97) hx hb hK hP hD hS 0 rfl d_M_init_1180 (fun st k => lv_bipush (v := 122) hx hb d_M_init_1181 (by decide) k) (fun st k => lv_bipush (v := 97) hx hb d_M_init_1183 (by decide) k) d_M_init_1185 (by decide) (vq (by decide)) (by decide) (fun H locs hP hD hS => ?_)
  refine ba_step (i := 123) (x := 117) hx hb hK hP hD hS 0 rfl d_M_init_1186 (fun st k => lv_bipush (v := 123) hx hb d_M_init_1187 (by decide) k) (fun st k => lv_bipush (v := 117) hx hb d_M_init_1189 (by decide) k) d_M_init_1191 (by decide) (vq (by decide)) (by decide) (fun H locs hP hD hS => ?_)
  refine ba_step (i := 124) (x := 115) hx hb hK hP hD hS 0 rfl d_M_init_1192 (fun st k => lv_bipush (v := 124) hx hb d_M_init_1193 (by decide) k) (fun st k => lv_bipush (v := 115) hx hb d_M_init_1195 (by decide) k) d_M_init_1197 (by decide) (vq (by decide)) (by decide) (fun H locs hP hD hS => ?_)
  refine ba_step (i := 125) (x := 101) hx hb hK hP hD hS 0 rfl d_M_init_1198 (fun st k => lv_bipush (v := 125) hx hb d_M_init_1199 (by decide) k) (fun st k => lv_bipush (v := 101) hx hb d_M_init_1201 (by decide) k) d_M_init_1203 (by decide) (vq (by decide)) (by decide) (fun H locs hP hD hS => ?_)
  refine ba_step (i := 126) (x := 6) hx hb hK hP hD hS 0 rfl d_M_init_1204 (fun st k => lv_bipush (v := 126) hx hb d_M_init_1205 (by decide) k) (fun st k => lv_bipush (v := 6) hx hb d_M_init_1207 (by decide) k) d_M_init_1209 (by decide) (vq (by decide)) (by decide) (fun H locs hP hD hS => ?_)
  refine ba_step (i := 127) (x := 98) hx hb hK hP hD hS 0 rfl d_M_init_1210 (fun st k => lv_bipush (v := 127) hx hb d_M_init_1211 (by decide) k) (fun st k => lv_bipush (v := 98) hx hb d_M_init_1213 (by decide) k) d_M_init_1215 (by decide) (vq (by decide)) (by decide) (fun H locs hP hD hS => ?_)
  refine ba_step (i := 128) (x := 97) hx hb hK hP hD hS 0 rfl d_M_init_1216 (fun st k => lv_sipush (v := 128) hx hb d_M_init_1217 (by decide) k) (fun st k => lv_bipush (v := 97) hx hb d_M_init_1220 (by decide) k) d_M_init_1222 (by decide) (vq (by decide)) (by decide) (fun H locs hP hD hS => ?_)
  refine ba_step (i := 129) (x := 100) hx hb hK hP hD hS 0 rfl d_M_init_1223 (fun st k => lv_sipush (v := 129) hx hb d_M_init_1224 (by decide) k) (fun st k => lv_bipush (v := 100) hx hb d_M_init_1227 (by decide) k) d_M_init_1229 (by decide) (vq (by decide)) (by decide) (fun H locs hP hD hS => ?_)
  refine ba_step (i := 130) (x := 102) hx hb hK hP hD hS 0 rfl d_M_init_1230 (fun st k => lv_sipush (v := 130) hx hb d_M_init_1231 (by decide) k) (fun st k => lv_bipush (v := 102) hx hb d_M_init_1234 (by decide) k) d_M_init_1236 (by decide) (vq (by decide)) (by decide) (fun H locs hP hD hS => ?_)
  refine ba_step (i := 131) (x := 117) hx hb hK hP hD hS 0 rfl d_M_init_1237 (fun st k => lv_sipush (v := 131) hx hb d_M_init_1238 (by decide) k) (fun st k => lv_bipush (v := 117) hx hb d_M_init_1241 (by decide) k) d_M_init_1243 (by decide) (vq (by decide)) (by decide) (fun H locs hP hD hS => ?_)
  refine ba_step (i := 132) (x := 110) hx hb hK hP hD hS 0 rfl d_M_init_1244 (fun st k => lv_sipush (v := 132) hx hb d_M_init_1245 (by decide) k) (fun st k => lv_bipush (v := 110) hx hb d_M_init_1248 (by decide) k) d_M_init_1250 (by decide) (vq (by decide)) (by decide) (fun H locs hP hD hS => ?_)
  refine ba_step (i := 133) (x := 8) hx hb hK hP hD hS 0 rfl d_M_init_1251 (fun st k => lv_sipush (v := 133) hx hb d_M_init_1252 (by decide) k) (fun st k => lv_bipush (v := 8) hx hb d_M_init_1255 (by decide) k) d_M_init_1257 (by decide) (vq (by decide)) (by decide) (fun H locs hP hD hS => ?_)
  refine ba_step (i := 134) (x := 98) hx hb hK hP hD hS 0 rfl d_M_init_1258 (fun st k => lv_sipush (v := 134) hx hb d_M_init_1259 (by decide) k) (fun st k => lv_bipush (v := 98) hx hb d_M_init_1262 (by decide) k) d_M_init_1264 (by decide) (vq (by decide)) (by decide) (fun H locs hP hD hS => ?_)
  refine ba_step (i := 135) (x := 97) hx hb hK hP hD hS 0 rfl d_M_init_1265 (fun st k => lv_sipush (v := 135) hx hb d_M_init_1266 (by decide) k) (fun st k => lv_bipush (v := 97) hx hb d_M_init_1269 (by decide) k) d_M_init_1271 (by decide) (vq (by decide)) (by decide) (fun H locs hP hD hS => ?_)
  refine ba_step (i := 136) (x := 100) hx hb hK hP hD hS 0 rfl d_M_init_1272 (fun st k => lv_sipush (v := 136) hx hb d_M_init_1273 (by decide) k) (fun st k => lv_bipush (v := 100) hx hb d_M_init_1276 (by decide) k) d_M_init_1278 (by decide) (vq (by decide)) (by decide) (fun H locs hP hD hS => ?_)
  refine ba_step (i := 137) (x := 97) hx hb hK hP hD hS 0 rfl d_M_init_1279 (fun st k => lv_sipush (v := 137) hx hb d_M_init_1280 (by decide) k) (fun st k => lv_bipush (v := 97) hx hb d_M_init_1283 (by decide) k) d_M_init_1285 (by decide) (vq (by decide)) (by decide) (fun H locs hP hD hS => ?_)
  refine ba_step (i := 138) (x := 114) hx hb hK hP hD hS 0 rfl d_M_init_1286 (fun st k => lv_sipush (v := 138) hx hb d_M_init_1287 (by decide) k) (fun st k => lv_bipush (v := 114) hx hb d_M_init_1290 (by decide) k) d_M_init_1292 (by decide) (vq (by decide)) (by decide) (fun H locs hP hD hS => ?_)
  refine ba_step (i := 139) (x := 105) hx hb hK hP hD hS 0 rfl d_M_init_1293 (fun st k => lv_sipush (v := 139) hx hb d_M_init_1294 (by decide) k) (fun st k => lv_bipush (v := 105) hx hb d_M_init_1297 (by decide) k) d_M_init_1299 (by decide) (vq (by decide)) (by decide) (fun H locs hP hD hS => ?_)
  refine ba_step (i := 140) (x := 116) hx hb hK hP hD hS 0 rfl d_M_init_1300 (fun st k => lv_sipush (v := 140) hx hb d_M_init_1301 (by decide) k) (fun st k => lv_bipush (v := 116) hx hb d_M_init_1304 (by decide) k) d_M_init_1306 (by decide) (vq (by decide)) (by decide) (fun H locs hP hD hS => ?_)
  refine ba_step (i := 141) (x := 121) hx hb hK hP hD hS 0 rfl d_M_init_1307 (fun st k => lv_sipush (v := 141) hx hb d_M_init_1308 (by decide) k) (fun st k => lv_bipush (v := 121) hx hb d_M_init_1311 (by decide) k) d_M_init_1313 (by decide) (vq (by decide)) (by decide) (fun H locs hP hD hS => ?_)
  refine ba_step (i := 142) (x := 7) hx hb hK hP hD hS 0 rfl d_M_init_1314 (fun st k => lv_sipush (v := 142) hx hb d_M_init_1315 (by decide) k) (fun st k => lv_bipush (v := 7) hx hb d_M_init_1318 (by decide) k) d_M_init_1320 (by decide) (vq (by decide)) (by decide) (fun H locs hP hD hS => ?_)
  refine ba_step (i := 143) (x := 110) hx hb hK hP hD hS 0 rfl d_M_init_1321 (fun st k => lv_sipush (v := 143) hx hb d_M_init_1322 (by decide) k) (fun st k => lv_bipush (v := 110) hx hb d_M_init_1325 (by decide) k) d_M_init_1327 (by decide) (vq (by decide)) (by decide) (fun H locs hP hD hS => ?_)
  refine ba_step (i := 144) (x := 111) hx hb hK hP hD hS 0 rfl d_M_init_1328 (fun st k => lv_sipush (v := 144) hx hb d_M_init_1329 (by decide) k) (fun st k => lv_bipush (v := 111) hx hb d_M_init_1332 (by decide) k) d_M_init_1334 (by decide) (vq (by decide)) (by decide) (fun H locs hP hD hS => ?_)
  refine ba_step (i := 145) (x := 99) hx hb hK hP hD hS 0 rfl d_M_init_1335 (fun st k => lv_sipush (v := 145) hx hb d_M_init_1336 (by decide) k) (fun st k => lv_bipush (v := 99) hx hb d_M_init_1339 (by decide) k) d_M_init_1341 (by decide) (vq (by decide)) (by decide) (fun H locs hP hD hS => ?_)
  refine ba_step (i := 146) (x := 97) hx hb hK hP hD hS 0 rfl d_M_init_1342 (fun st k => lv_sipush (v := 146) hx hb d_M_init_1343 (by decide) k) (fun st k => lv_bipush (v := 97) hx hb d_M_init_1346 (by decide) k) d_M_init_1348 (by decide) (vq (by decide)) (by decide) (fun H locs hP hD hS => ?_)
  refine ba_step (i := 147) (x := 116) hx hb hK hP hD hS 0 rfl d_M_init_1349 (fun st k => lv_sipush (v := 147) hx hb d_M_init_1350 (by decide) k) (fun st k => lv_bipush (v := 116) hx hb d_M_init_1353 (by decide) k) d_M_init_1355 (by decide) (vq (by decide)) (by decide) (fun H locs hP hD hS => ?_)
  refine ba_step (i := 148) (x := 99) hx hb hK hP hD hS 0 rfl d_M_init_1356 (fun st k => lv_sipush (v := 148) hx hb d_M_init_1357 (by decide) k) (fun st k => lv_bipush (v := 99) hx hb d_M_init_1360 (by decide) k) d_M_init_1362 (by decide) (vq (by decide)) (by decide) (fun H locs hP hD hS => ?_)
  refine ba_step (i := 149) (x := 104) hx hb hK hP hD hS 0 rfl d_M_init_1363 (fun st k => lv_sipush (v := 149) hx hb d_M_init_1364 (by decide) k) (fun st k => lv_bipush (v := 104) hx hb d_M_init_1367 (by decide) k) d_M_init_1369 (by decide) (vq (by decide)) (by decide) (fun H locs hP hD hS => ?_)
  refine ba_step (i := 150) (x := 4) hx hb hK hP hD hS 0 rfl d_M_init_1370 (fun st k => lv_sipush (v := 150) hx hb d_M_init_1371 (by decide) k) (fun st k => lv_iconst (v := 4) hx hb d_M_init_1374 (by decide) k) d_M_init_1375 (by decide) (vq (by decide)) (by decide) (fun H locs hP hD hS => ?_)
  refine ba_step (i := 151) (x := 104) hx hb hK hP hD hS 0 rfl d_M_init_1376 (fun st k => lv_sipush (v := 151) hx hb d_M_init_1377 (by decide) k) (fun st k => lv_bipush (v := 104) hx hb d_M_init_1380 (by decide) k) d_M_init_1382 (by decide) (vq (by decide)) (by decide) (fun H locs hP hD hS => ?_)
  refine ba_step (i := 152) (x := 101) hx hb hK hP hD hS 0 rfl d_M_init_1383 (fun st k => lv_sipush (v := 152) hx hb d_M_init_1384 (by decide) k) (fun st k => lv_bipush (v := 101) hx hb d_M_init_1387 (by decide) k) d_M_init_1389 (by decide) (vq (by decide)) (by decide) (fun H locs hP hD hS => ?_)
  refine ba_step (i := 153) (x := 97) hx hb hK hP hD hS 0 rfl d_M_init_1390 (fun st k => lv_sipush (v := 153) hx hb d_M_init_1391 (by decide) k) (fun st k => lv_bipush (v := 97) hx hb d_M_init_1394 (by decide) k) d_M_init_1396 (by decide) (vq (by decide)) (by decide) (fun H locs hP hD hS => ?_)
  refine ba_step (i := 154) (x := 112) hx hb hK hP hD hS 0 rfl d_M_init_1397 (fun st k => lv_sipush (v := 154) hx hb d_M_init_1398 (by decide) k) (fun st k => lv_bipush (v := 112) hx hb d_M_init_1401 (by decide) k) d_M_init_1403 (by decide) (vq (by decide)) (by decide) (fun H locs hP hD hS => ?_)
  refine ba_step (i := 155) (x := 5) hx hb hK hP hD hS 0 rfl d_M_init_1404 (fun st k => lv_sipush (v := 155) hx hb d_M_init_1405 (by decide) k) (fun st k => lv_iconst (v := 5) hx hb d_M_init_1408 (by decide) k) d_M_init_1409 (by decide) (vq (by decide)) (by decide) (fun H locs hP hD hS => ?_)
  refine ba_step (i := 156) (x := 115) hx hb hK hP hD hS 0 rfl d_M_init_1410 (fun st k => lv_sipush (v := 156) hx hb d_M_init_1411 (by decide) k) (fun st k => lv_bipush (v := 115) hx hb d_M_init_1414 (by decide) k) d_M_init_1416 (by decide) (vq (by decide)) (by decide) (fun H locs hP hD hS => ?_)
  refine ba_step (i := 157) (x := 116) hx hb hK hP hD hS 0 rfl d_M_init_1417 (fun st k => lv_sipush (v := 157) hx hb d_M_init_1418 (by decide) k) (fun st k => lv_bipush (v := 116) hx hb d_M_init_1421 (by decide) k) d_M_init_1423 (by decide) (vq (by decide)) (by decide) (fun H locs hP hD hS => ?_)
  refine ba_step (i := 158) (x := 97) hx hb hK hP hD hS 0 rfl d_M_init_1424 (fun st k => lv_sipush (v := 158) hx hb d_M_init_1425 (by decide) k) (fun st k => lv_bipush (v := 97) hx hb d_M_init_1428 (by decide) k) d_M_init_1430 (by decide) (vq (by decide)) (by decide) (fun H locs hP hD hS => ?_)
  refine ba_step (i := 159) (x := 99) hx hb hK hP hD hS 0 rfl d_M_init_1431 (fun st k => lv_sipush (v := 159) hx hb d_M_init_1432 (by decide) k) (fun st k => lv_bipush (v := 99) hx hb d_M_init_1435 (by decide) k) d_M_init_1437 (by decide) (vq (by decide)) (by decide) (fun H locs hP hD hS => ?_)
  exact kk H locs hP hD hS
set_option maxRecDepth 100000 in
set_option maxHeartbeats 4000000 in
theorem sg_1_160 {p : Program} {l : Launch} {e : Env} {R : Room} {s : State} {m : MethodId} {args : Array Value} {below : List Frame} {meth : Method} {c : Code} {H : Heap} {locs : List Loc} {cells slots : Nat} {Q : State → Prop} {ls : Array Slot} {D : va_G} {cl : List vw_C} {cB cI cJ cZ cS : ClassId} {rst : va_W} {A : Nat → Prop} {H0 : Heap} {iM h0 : Nat} {ob : Nat × va_E} {q1 : Nat} (hx : p.tables.exec = Jvm.exec) (hb : c.code = b_M_init) (ht : ∀ w ∈ wd_tbl, w.before args s = true) (hown : s.vm.findClass R_M = some m.cls) (hM : cl[iM]? = some (R_M, F_M, 171)) (hin : meth.name = "<init>") (hK : va_K D cl (ty5 cB cI cJ cZ cS) s) (hA : ∀ q, H0.size ≤ q → A q) (hl : ls[0]? = some (.val (.ref h0))) (hP : va_P D cl (ob :: (q1, .inl (cB, 161, .inl (tk tb_1 160))) :: rst) H) (hD : va_D A (ob :: (q1, .inl (cB, 161, .inl (tk tb_1 160))) :: rst)) (hS : va_S A H0 H locs)
    (kk : ∀ (H1 : Heap) (locs1 : List Loc), va_P D cl (ob :: (q1, .inl (cB, 161, .inl (tk tb_1 161))) :: rst) H1 → va_D A (ob :: (q1, .inl (cB, 161, .inl (tk tb_1 161))) :: rst) → va_S A H0 H1 locs1 → W p l e R s m args below meth c H1 locs1 cells slots Q (F0 m 1445 ls [.ref q1, .ref h0])) :
    W p l e R s m args below meth c H locs cells slots Q (F0 m 1438 ls [.ref q1, .ref h0]) := by
  refine ba_step (i := 160) (x := 107) hx hb hK hP hD hS 0 rfl d_M_init_1438 (fun st k => lv_sipush (v := 160) hx hb d_M_init_1439 (by decide) k) (fun st k => lv_bipush (v := 107) hx hb d_M_init_1442 (by decide) k) d_M_init_1444 (by decide) (vq (by decide)) (by decide) (fun H locs hP hD hS => ?_)
  exact kk H locs hP hD hS
set_option maxRecDepth 100000 in
set_option maxHeartbeats 4000000 in
theorem sg_1 {p : Program} {l : Launch} {e : Env} {R : Room} {s : State} {m : MethodId} {args : Array Value} {below : List Frame} {meth : Method} {c : Code} {H : Heap} {locs : List Loc} {cells slots : Nat} {Q : State → Prop} {ls : Array Slot} {D : va_G} {cl : List vw_C} {cB cI cJ cZ cS : ClassId} {rst : va_W} {A : Nat → Prop} {H0 : Heap} {iM h0 : Nat} {V : Nat → Value} (hx : p.tables.exec = Jvm.exec) (hb : c.code = b_M_init) (ht : ∀ w ∈ wd_tbl, w.before args s = true) (hown : s.vm.findClass R_M = some m.cls) (hM : cl[iM]? = some (R_M, F_M, 171)) (hin : meth.name = "<init>") (hK : va_K D cl (ty5 cB cI cJ cZ cS) s) (hA : ∀ q, H0.size ≤ q → A q) (hl : ls[0]? = some (.val (.ref h0))) (hP : va_P D cl ((h0, .inr (iM, fl 171 V)) :: rst) H) (hD : va_D A ((h0, .inr (iM, fl 171 V)) :: rst)) (hS : va_S A H0 H locs) (hc : cells + 1 ≤ R.cells) (hs : slots + 161 ≤ R.slots)
    (kk : ∀ (q1 : Nat) (H1 : Heap) (locs1 : List Loc), va_P D cl ((h0, .inr (iM, fl 171 (va_up V 1 (.ref q1)))) :: (q1, .inl (cB, 161, .inl (tk tb_1 161))) :: rst) H1 → va_D A ((h0, .inr (iM, fl 171 (va_up V 1 (.ref q1)))) :: (q1, .inl (cB, 161, .inl (tk tb_1 161))) :: rst) → va_S A H0 H1 locs1 → W p l e R s m args below meth c H1 locs1 (cells + 1) (slots + 161) Q (F0 m 1448 ls [])) :
    W p l e R s m args below meth c H locs cells slots Q (F0 m 456 ls []) := by
  refine mk_open (n := 161) (N := 161) (a0 := (161, .inl (fun _ => 0))) (ty := .byte) hx hb hK hA hl hP hD hS d_M_init_456 (fun st k => lv_sipush (v := 161) hx hb d_M_init_457 (by decide) k) d_M_init_460 (ht _ ac_byte) rfl (fun _ h => by cases h) 0 rfl (fun _ => rfl) (by decide) (by decide) (by decide) (by omega) (by omega) (fun q1 H hP hD hS => ?_)
  rw [tk_0 tb_1] at hP hD
  refine sg_1_0 hx hb ht hown hM hin hK hA hl hP hD hS (fun H locs hP hD hS => ?_)
  refine sg_1_40 hx hb ht hown hM hin hK hA hl hP hD hS (fun H locs hP hD hS => ?_)
  refine sg_1_80 hx hb ht hown hM hin hK hA hl hP hD hS (fun H locs hP hD hS => ?_)
  refine sg_1_120 hx hb ht hown hM hin hK hA hl hP hD hS (fun H locs hP hD hS => ?_)
  refine sg_1_160 hx hb ht hown hM hin hK hA hl hP hD hS (fun H locs hP hD hS => ?_)
  refine mf_putF hx hb ht hown hM hK hP hD hS 0 rfl 1 (by decide) lk_M_1 rfl hin rfl rfl d_M_init_1445 (fun H locs hP hD hS => ?_)
  exact kk q1 H locs hP hD hS
def tb_2 : List Int32 := [0, 4, 115, 101, 108, 102, 1, 5, 115, 112, 97, 119, 110, 1, 4, 108, 105, 110, 107, 1, 6, 117, 110, 108, 105, 110, 107, 1, 5, 119, 97, 116, 99, 104, 1, 7, 117, 110, 119, 97, 116, 99, 104, 1, 4, 116, 114, 97, 112, 1, 4, 101, 120, 105, 116, 2, 4, 101, 120, 105, 116, 1, 5, 116, 104, 114, 111, 119, 1, 5, 101, 114, 114, 111, 114, 1, 5, 112, 114, 105, 110, 116, 0, 3, 114, 101, 102, 2, 4, 110, 97, 109, 101, 1, 6, 117, 110, 110, 97, 109, 101, 1, 5, 110, 97, 109, 101, 100, 1, 5, 97, 108, 105, 118, 101, 0, 3, 110, 111, 119, 1, 9, 105, 115, 95, 110, 117, 109, 98, 101, 114, 1, 7, 105, 115, 95, 97, 116, 111, 109, 1, 7, 105, 115, 95, 108, 105, 115, 116, 1, 8, 105, 115, 95, 116, 117, 112, 108, 101, 1, 6, 105, 115, 95, 102, 117, 110, 1, 10, 105, 115, 95, 112, 114, 111, 99, 101, 115, 115, 1, 6, 105, 115, 95, 114, 101, 102, 1, 2, 104, 100, 1, 2, 116, 108, 1, 6, 108, 101, 110, 103, 116, 104, 2, 7, 101, 108, 101, 109, 101, 110, 116, 1, 4, 115, 105, 122, 101]
set_option maxRecDepth 100000 in
set_option maxHeartbeats 4000000 in
theorem sg_2_0 {p : Program} {l : Launch} {e : Env} {R : Room} {s : State} {m : MethodId} {args : Array Value} {below : List Frame} {meth : Method} {c : Code} {H : Heap} {locs : List Loc} {cells slots : Nat} {Q : State → Prop} {ls : Array Slot} {D : va_G} {cl : List vw_C} {cB cI cJ cZ cS : ClassId} {rst : va_W} {A : Nat → Prop} {H0 : Heap} {iM h0 : Nat} {ob : Nat × va_E} {q2 : Nat} (hx : p.tables.exec = Jvm.exec) (hb : c.code = b_M_init) (ht : ∀ w ∈ wd_tbl, w.before args s = true) (hown : s.vm.findClass R_M = some m.cls) (hM : cl[iM]? = some (R_M, F_M, 171)) (hin : meth.name = "<init>") (hK : va_K D cl (ty5 cB cI cJ cZ cS) s) (hA : ∀ q, H0.size ≤ q → A q) (hl : ls[0]? = some (.val (.ref h0))) (hP : va_P D cl (ob :: (q2, .inl (cB, 218, .inl (tk tb_2 0))) :: rst) H) (hD : va_D A (ob :: (q2, .inl (cB, 218, .inl (tk tb_2 0))) :: rst)) (hS : va_S A H0 H locs)
    (kk : ∀ (H1 : Heap) (locs1 : List Loc), va_P D cl (ob :: (q2, .inl (cB, 218, .inl (tk tb_2 40))) :: rst) H1 → va_D A (ob :: (q2, .inl (cB, 218, .inl (tk tb_2 40))) :: rst) → va_S A H0 H1 locs1 → W p l e R s m args below meth c H1 locs1 cells slots Q (F0 m 1678 ls [.ref q2, .ref h0])) :
    W p l e R s m args below meth c H locs cells slots Q (F0 m 1454 ls [.ref q2, .ref h0]) := by
  refine ba_step (i := 0) (x := 0) hx hb hK hP hD hS 0 rfl d_M_init_1454 (fun st k => lv_iconst (v := 0) hx hb d_M_init_1455 (by decide) k) (fun st k => lv_iconst (v := 0) hx hb d_M_init_1456 (by decide) k) d_M_init_1457 (by decide) (vq (by decide)) (by decide) (fun H locs hP hD hS => ?_)
  refine ba_step (i := 1) (x := 4) hx hb hK hP hD hS 0 rfl d_M_init_1458 (fun st k => lv_iconst (v := 1) hx hb d_M_init_1459 (by decide) k) (fun st k => lv_iconst (v := 4) hx hb d_M_init_1460 (by decide) k) d_M_init_1461 (by decide) (vq (by decide)) (by decide) (fun H locs hP hD hS => ?_)
  refine ba_step (i := 2) (x := 115) hx hb hK hP hD hS 0 rfl d_M_init_1462 (fun st k => lv_iconst (v := 2) hx hb d_M_init_1463 (by decide) k) (fun st k => lv_bipush (v := 115) hx hb d_M_init_1464 (by decide) k) d_M_init_1466 (by decide) (vq (by decide)) (by decide) (fun H locs hP hD hS => ?_)
  refine ba_step (i := 3) (x := 101) hx hb hK hP hD hS 0 rfl d_M_init_1467 (fun st k => lv_iconst (v := 3) hx hb d_M_init_1468 (by decide) k) (fun st k => lv_bipush (v := 101) hx hb d_M_init_1469 (by decide) k) d_M_init_1471 (by decide) (vq (by decide)) (by decide) (fun H locs hP hD hS => ?_)
  refine ba_step (i := 4) (x := 108) hx hb hK hP hD hS 0 rfl d_M_init_1472 (fun st k => lv_iconst (v := 4) hx hb d_M_init_1473 (by decide) k) (fun st k => lv_bipush (v := 108) hx hb d_M_init_1474 (by decide) k) d_M_init_1476 (by decide) (vq (by decide)) (by decide) (fun H locs hP hD hS => ?_)
  refine ba_step (i := 5) (x := 102) hx hb hK hP hD hS 0 rfl d_M_init_1477 (fun st k => lv_iconst (v := 5) hx hb d_M_init_1478 (by decide) k) (fun st k => lv_bipush (v := 102) hx hb d_M_init_1479 (by decide) k) d_M_init_1481 (by decide) (vq (by decide)) (by decide) (fun H locs hP hD hS => ?_)
  refine ba_step (i := 6) (x := 1) hx hb hK hP hD hS 0 rfl d_M_init_1482 (fun st k => lv_bipush (v := 6) hx hb d_M_init_1483 (by decide) k) (fun st k => lv_iconst (v := 1) hx hb d_M_init_1485 (by decide) k) d_M_init_1486 (by decide) (vq (by decide)) (by decide) (fun H locs hP hD hS => ?_)
  refine ba_step (i := 7) (x := 5) hx hb hK hP hD hS 0 rfl d_M_init_1487 (fun st k => lv_bipush (v := 7) hx hb d_M_init_1488 (by decide) k) (fun st k => lv_iconst (v := 5) hx hb d_M_init_1490 (by decide) k) d_M_init_1491 (by decide) (vq (by decide)) (by decide) (fun H locs hP hD hS => ?_)
  refine ba_step (i := 8) (x := 115) hx hb hK hP hD hS 0 rfl d_M_init_1492 (fun st k => lv_bipush (v := 8) hx hb d_M_init_1493 (by decide) k) (fun st k => lv_bipush (v := 115) hx hb d_M_init_1495 (by decide) k) d_M_init_1497 (by decide) (vq (by decide)) (by decide) (fun H locs hP hD hS => ?_)
  refine ba_step (i := 9) (x := 112) hx hb hK hP hD hS 0 rfl d_M_init_1498 (fun st k => lv_bipush (v := 9) hx hb d_M_init_1499 (by decide) k) (fun st k => lv_bipush (v := 112) hx hb d_M_init_1501 (by decide) k) d_M_init_1503 (by decide) (vq (by decide)) (by decide) (fun H locs hP hD hS => ?_)
  refine ba_step (i := 10) (x := 97) hx hb hK hP hD hS 0 rfl d_M_init_1504 (fun st k => lv_bipush (v := 10) hx hb d_M_init_1505 (by decide) k) (fun st k => lv_bipush (v := 97) hx hb d_M_init_1507 (by decide) k) d_M_init_1509 (by decide) (vq (by decide)) (by decide) (fun H locs hP hD hS => ?_)
  refine ba_step (i := 11) (x := 119) hx hb hK hP hD hS 0 rfl d_M_init_1510 (fun st k => lv_bipush (v := 11) hx hb d_M_init_1511 (by decide) k) (fun st k => lv_bipush (v := 119) hx hb d_M_init_1513 (by decide) k) d_M_init_1515 (by decide) (vq (by decide)) (by decide) (fun H locs hP hD hS => ?_)
  refine ba_step (i := 12) (x := 110) hx hb hK hP hD hS 0 rfl d_M_init_1516 (fun st k => lv_bipush (v := 12) hx hb d_M_init_1517 (by decide) k) (fun st k => lv_bipush (v := 110) hx hb d_M_init_1519 (by decide) k) d_M_init_1521 (by decide) (vq (by decide)) (by decide) (fun H locs hP hD hS => ?_)
  refine ba_step (i := 13) (x := 1) hx hb hK hP hD hS 0 rfl d_M_init_1522 (fun st k => lv_bipush (v := 13) hx hb d_M_init_1523 (by decide) k) (fun st k => lv_iconst (v := 1) hx hb d_M_init_1525 (by decide) k) d_M_init_1526 (by decide) (vq (by decide)) (by decide) (fun H locs hP hD hS => ?_)
  refine ba_step (i := 14) (x := 4) hx hb hK hP hD hS 0 rfl d_M_init_1527 (fun st k => lv_bipush (v := 14) hx hb d_M_init_1528 (by decide) k) (fun st k => lv_iconst (v := 4) hx hb d_M_init_1530 (by decide) k) d_M_init_1531 (by decide) (vq (by decide)) (by decide) (fun H locs hP hD hS => ?_)
  refine ba_step (i := 15) (x := 108) hx hb hK hP hD hS 0 rfl d_M_init_1532 (fun st k => lv_bipush (v := 15) hx hb d_M_init_1533 (by decide) k) (fun st k => lv_bipush (v := 108) hx hb d_M_init_1535 (by decide) k) d_M_init_1537 (by decide) (vq (by decide)) (by decide) (fun H locs hP hD hS => ?_)
  refine ba_step (i := 16) (x := 105) hx hb hK hP hD hS 0 rfl d_M_init_1538 (fun st k => lv_bipush (v := 16) hx hb d_M_init_1539 (by decide) k) (fun st k => lv_bipush (v := 105) hx hb d_M_init_1541 (by decide) k) d_M_init_1543 (by decide) (vq (by decide)) (by decide) (fun H locs hP hD hS => ?_)
  refine ba_step (i := 17) (x := 110) hx hb hK hP hD hS 0 rfl d_M_init_1544 (fun st k => lv_bipush (v := 17) hx hb d_M_init_1545 (by decide) k) (fun st k => lv_bipush (v := 110) hx hb d_M_init_1547 (by decide) k) d_M_init_1549 (by decide) (vq (by decide)) (by decide) (fun H locs hP hD hS => ?_)
  refine ba_step (i := 18) (x := 107) hx hb hK hP hD hS 0 rfl d_M_init_1550 (fun st k => lv_bipush (v := 18) hx hb d_M_init_1551 (by decide) k) (fun st k => lv_bipush (v := 107) hx hb d_M_init_1553 (by decide) k) d_M_init_1555 (by decide) (vq (by decide)) (by decide) (fun H locs hP hD hS => ?_)
  refine ba_step (i := 19) (x := 1) hx hb hK hP hD hS 0 rfl d_M_init_1556 (fun st k => lv_bipush (v := 19) hx hb d_M_init_1557 (by decide) k) (fun st k => lv_iconst (v := 1) hx hb d_M_init_1559 (by decide) k) d_M_init_1560 (by decide) (vq (by decide)) (by decide) (fun H locs hP hD hS => ?_)
  refine ba_step (i := 20) (x := 6) hx hb hK hP hD hS 0 rfl d_M_init_1561 (fun st k => lv_bipush (v := 20) hx hb d_M_init_1562 (by decide) k) (fun st k => lv_bipush (v := 6) hx hb d_M_init_1564 (by decide) k) d_M_init_1566 (by decide) (vq (by decide)) (by decide) (fun H locs hP hD hS => ?_)
  refine ba_step (i := 21) (x := 117) hx hb hK hP hD hS 0 rfl d_M_init_1567 (fun st k => lv_bipush (v := 21) hx hb d_M_init_1568 (by decide) k) (fun st k => lv_bipush (v := 117) hx hb d_M_init_1570 (by decide) k) d_M_init_1572 (by decide) (vq (by decide)) (by decide) (fun H locs hP hD hS => ?_)
  refine ba_step (i := 22) (x := 110) hx hb hK hP hD hS 0 rfl d_M_init_1573 (fun st k => lv_bipush (v := 22) hx hb d_M_init_1574 (by decide) k) (fun st k => lv_bipush (v := 110) hx hb d_M_init_1576 (by decide) k) d_M_init_1578 (by decide) (vq (by decide)) (by decide) (fun H locs hP hD hS => ?_)
  refine ba_step (i := 23) (x := 108) hx hb hK hP hD hS 0 rfl d_M_init_1579 (fun st k => lv_bipush (v := 23) hx hb d_M_init_1580 (by decide) k) (fun st k => lv_bipush (v := 108) hx hb d_M_init_1582 (by decide) k) d_M_init_1584 (by decide) (vq (by decide)) (by decide) (fun H locs hP hD hS => ?_)
  refine ba_step (i := 24) (x := 105) hx hb hK hP hD hS 0 rfl d_M_init_1585 (fun st k => lv_bipush (v := 24) hx hb d_M_init_1586 (by decide) k) (fun st k => lv_bipush (v := 105) hx hb d_M_init_1588 (by decide) k) d_M_init_1590 (by decide) (vq (by decide)) (by decide) (fun H locs hP hD hS => ?_)
  refine ba_step (i := 25) (x := 110) hx hb hK hP hD hS 0 rfl d_M_init_1591 (fun st k => lv_bipush (v := 25) hx hb d_M_init_1592 (by decide) k) (fun st k => lv_bipush (v := 110) hx hb d_M_init_1594 (by decide) k) d_M_init_1596 (by decide) (vq (by decide)) (by decide) (fun H locs hP hD hS => ?_)
  refine ba_step (i := 26) (x := 107) hx hb hK hP hD hS 0 rfl d_M_init_1597 (fun st k => lv_bipush (v := 26) hx hb d_M_init_1598 (by decide) k) (fun st k => lv_bipush (v := 107) hx hb d_M_init_1600 (by decide) k) d_M_init_1602 (by decide) (vq (by decide)) (by decide) (fun H locs hP hD hS => ?_)
  refine ba_step (i := 27) (x := 1) hx hb hK hP hD hS 0 rfl d_M_init_1603 (fun st k => lv_bipush (v := 27) hx hb d_M_init_1604 (by decide) k) (fun st k => lv_iconst (v := 1) hx hb d_M_init_1606 (by decide) k) d_M_init_1607 (by decide) (vq (by decide)) (by decide) (fun H locs hP hD hS => ?_)
  refine ba_step (i := 28) (x := 5) hx hb hK hP hD hS 0 rfl d_M_init_1608 (fun st k => lv_bipush (v := 28) hx hb d_M_init_1609 (by decide) k) (fun st k => lv_iconst (v := 5) hx hb d_M_init_1611 (by decide) k) d_M_init_1612 (by decide) (vq (by decide)) (by decide) (fun H locs hP hD hS => ?_)
  refine ba_step (i := 29) (x := 119) hx hb hK hP hD hS 0 rfl d_M_init_1613 (fun st k => lv_bipush (v := 29) hx hb d_M_init_1614 (by decide) k) (fun st k => lv_bipush (v := 119) hx hb d_M_init_1616 (by decide) k) d_M_init_1618 (by decide) (vq (by decide)) (by decide) (fun H locs hP hD hS => ?_)
  refine ba_step (i := 30) (x := 97) hx hb hK hP hD hS 0 rfl d_M_init_1619 (fun st k => lv_bipush (v := 30) hx hb d_M_init_1620 (by decide) k) (fun st k => lv_bipush (v := 97) hx hb d_M_init_1622 (by decide) k) d_M_init_1624 (by decide) (vq (by decide)) (by decide) (fun H locs hP hD hS => ?_)
  refine ba_step (i := 31) (x := 116) hx hb hK hP hD hS 0 rfl d_M_init_1625 (fun st k => lv_bipush (v := 31) hx hb d_M_init_1626 (by decide) k) (fun st k => lv_bipush (v := 116) hx hb d_M_init_1628 (by decide) k) d_M_init_1630 (by decide) (vq (by decide)) (by decide) (fun H locs hP hD hS => ?_)
  refine ba_step (i := 32) (x := 99) hx hb hK hP hD hS 0 rfl d_M_init_1631 (fun st k => lv_bipush (v := 32) hx hb d_M_init_1632 (by decide) k) (fun st k => lv_bipush (v := 99) hx hb d_M_init_1634 (by decide) k) d_M_init_1636 (by decide) (vq (by decide)) (by decide) (fun H locs hP hD hS => ?_)
  refine ba_step (i := 33) (x := 104) hx hb hK hP hD hS 0 rfl d_M_init_1637 (fun st k => lv_bipush (v := 33) hx hb d_M_init_1638 (by decide) k) (fun st k => lv_bipush (v := 104) hx hb d_M_init_1640 (by decide) k) d_M_init_1642 (by decide) (vq (by decide)) (by decide) (fun H locs hP hD hS => ?_)
  refine ba_step (i := 34) (x := 1) hx hb hK hP hD hS 0 rfl d_M_init_1643 (fun st k => lv_bipush (v := 34) hx hb d_M_init_1644 (by decide) k) (fun st k => lv_iconst (v := 1) hx hb d_M_init_1646 (by decide) k) d_M_init_1647 (by decide) (vq (by decide)) (by decide) (fun H locs hP hD hS => ?_)
  refine ba_step (i := 35) (x := 7) hx hb hK hP hD hS 0 rfl d_M_init_1648 (fun st k => lv_bipush (v := 35) hx hb d_M_init_1649 (by decide) k) (fun st k => lv_bipush (v := 7) hx hb d_M_init_1651 (by decide) k) d_M_init_1653 (by decide) (vq (by decide)) (by decide) (fun H locs hP hD hS => ?_)
  refine ba_step (i := 36) (x := 117) hx hb hK hP hD hS 0 rfl d_M_init_1654 (fun st k => lv_bipush (v := 36) hx hb d_M_init_1655 (by decide) k) (fun st k => lv_bipush (v := 117) hx hb d_M_init_1657 (by decide) k) d_M_init_1659 (by decide) (vq (by decide)) (by decide) (fun H locs hP hD hS => ?_)
  refine ba_step (i := 37) (x := 110) hx hb hK hP hD hS 0 rfl d_M_init_1660 (fun st k => lv_bipush (v := 37) hx hb d_M_init_1661 (by decide) k) (fun st k => lv_bipush (v := 110) hx hb d_M_init_1663 (by decide) k) d_M_init_1665 (by decide) (vq (by decide)) (by decide) (fun H locs hP hD hS => ?_)
  refine ba_step (i := 38) (x := 119) hx hb hK hP hD hS 0 rfl d_M_init_1666 (fun st k => lv_bipush (v := 38) hx hb d_M_init_1667 (by decide) k) (fun st k => lv_bipush (v := 119) hx hb d_M_init_1669 (by decide) k) d_M_init_1671 (by decide) (vq (by decide)) (by decide) (fun H locs hP hD hS => ?_)
  refine ba_step (i := 39) (x := 97) hx hb hK hP hD hS 0 rfl d_M_init_1672 (fun st k => lv_bipush (v := 39) hx hb d_M_init_1673 (by decide) k) (fun st k => lv_bipush (v := 97) hx hb d_M_init_1675 (by decide) k) d_M_init_1677 (by decide) (vq (by decide)) (by decide) (fun H locs hP hD hS => ?_)
  exact kk H locs hP hD hS
set_option maxRecDepth 100000 in
set_option maxHeartbeats 4000000 in
theorem sg_2_40 {p : Program} {l : Launch} {e : Env} {R : Room} {s : State} {m : MethodId} {args : Array Value} {below : List Frame} {meth : Method} {c : Code} {H : Heap} {locs : List Loc} {cells slots : Nat} {Q : State → Prop} {ls : Array Slot} {D : va_G} {cl : List vw_C} {cB cI cJ cZ cS : ClassId} {rst : va_W} {A : Nat → Prop} {H0 : Heap} {iM h0 : Nat} {ob : Nat × va_E} {q2 : Nat} (hx : p.tables.exec = Jvm.exec) (hb : c.code = b_M_init) (ht : ∀ w ∈ wd_tbl, w.before args s = true) (hown : s.vm.findClass R_M = some m.cls) (hM : cl[iM]? = some (R_M, F_M, 171)) (hin : meth.name = "<init>") (hK : va_K D cl (ty5 cB cI cJ cZ cS) s) (hA : ∀ q, H0.size ≤ q → A q) (hl : ls[0]? = some (.val (.ref h0))) (hP : va_P D cl (ob :: (q2, .inl (cB, 218, .inl (tk tb_2 40))) :: rst) H) (hD : va_D A (ob :: (q2, .inl (cB, 218, .inl (tk tb_2 40))) :: rst)) (hS : va_S A H0 H locs)
    (kk : ∀ (H1 : Heap) (locs1 : List Loc), va_P D cl (ob :: (q2, .inl (cB, 218, .inl (tk tb_2 80))) :: rst) H1 → va_D A (ob :: (q2, .inl (cB, 218, .inl (tk tb_2 80))) :: rst) → va_S A H0 H1 locs1 → W p l e R s m args below meth c H1 locs1 cells slots Q (F0 m 1906 ls [.ref q2, .ref h0])) :
    W p l e R s m args below meth c H locs cells slots Q (F0 m 1678 ls [.ref q2, .ref h0]) := by
  refine ba_step (i := 40) (x := 116) hx hb hK hP hD hS 0 rfl d_M_init_1678 (fun st k => lv_bipush (v := 40) hx hb d_M_init_1679 (by decide) k) (fun st k => lv_bipush (v := 116) hx hb d_M_init_1681 (by decide) k) d_M_init_1683 (by decide) (vq (by decide)) (by decide) (fun H locs hP hD hS => ?_)
  refine ba_step (i := 41) (x := 99) hx hb hK hP hD hS 0 rfl d_M_init_1684 (fun st k => lv_bipush (v := 41) hx hb d_M_init_1685 (by decide) k) (fun st k => lv_bipush (v := 99) hx hb d_M_init_1687 (by decide) k) d_M_init_1689 (by decide) (vq (by decide)) (by decide) (fun H locs hP hD hS => ?_)
  refine ba_step (i := 42) (x := 104) hx hb hK hP hD hS 0 rfl d_M_init_1690 (fun st k => lv_bipush (v := 42) hx hb d_M_init_1691 (by decide) k) (fun st k => lv_bipush (v := 104) hx hb d_M_init_1693 (by decide) k) d_M_init_1695 (by decide) (vq (by decide)) (by decide) (fun H locs hP hD hS => ?_)
  refine ba_step (i := 43) (x := 1) hx hb hK hP hD hS 0 rfl d_M_init_1696 (fun st k => lv_bipush (v := 43) hx hb d_M_init_1697 (by decide) k) (fun st k => lv_iconst (v := 1) hx hb d_M_init_1699 (by decide) k) d_M_init_1700 (by decide) (vq (by decide)) (by decide) (fun H locs hP hD hS => ?_)
  refine ba_step (i := 44) (x := 4) hx hb hK hP hD hS 0 rfl d_M_init_1701 (fun st k => lv_bipush (v := 44) hx hb d_M_init_1702 (by decide) k) (fun st k => lv_iconst (v := 4) hx hb d_M_init_1704 (by decide) k) d_M_init_1705 (by decide) (vq (by decide)) (by decide) (fun H locs hP hD hS => ?_)
  refine ba_step (i := 45) (x := 116) hx hb hK hP hD hS 0 rfl d_M_init_1706 (fun st k => lv_bipush (v := 45) hx hb d_M_init_1707 (by decide) k) (fun st k => lv_bipush (v := 116) hx hb d_M_init_1709 (by decide) k) d_M_init_1711 (by decide) (vq (by decide)) (by decide) (fun H locs hP hD hS => ?_)
  refine ba_step (i := 46) (x := 114) hx hb hK hP hD hS 0 rfl d_M_init_1712 (fun st k => lv_bipush (v := 46) hx hb d_M_init_1713 (by decide) k) (fun st k => lv_bipush (v := 114) hx hb d_M_init_1715 (by decide) k) d_M_init_1717 (by decide) (vq (by decide)) (by decide) (fun H locs hP hD hS => ?_)
  refine ba_step (i := 47) (x := 97) hx hb hK hP hD hS 0 rfl d_M_init_1718 (fun st k => lv_bipush (v := 47) hx hb d_M_init_1719 (by decide) k) (fun st k => lv_bipush (v := 97) hx hb d_M_init_1721 (by decide) k) d_M_init_1723 (by decide) (vq (by decide)) (by decide) (fun H locs hP hD hS => ?_)
  refine ba_step (i := 48) (x := 112) hx hb hK hP hD hS 0 rfl d_M_init_1724 (fun st k => lv_bipush (v := 48) hx hb d_M_init_1725 (by decide) k) (fun st k => lv_bipush (v := 112) hx hb d_M_init_1727 (by decide) k) d_M_init_1729 (by decide) (vq (by decide)) (by decide) (fun H locs hP hD hS => ?_)
  refine ba_step (i := 49) (x := 1) hx hb hK hP hD hS 0 rfl d_M_init_1730 (fun st k => lv_bipush (v := 49) hx hb d_M_init_1731 (by decide) k) (fun st k => lv_iconst (v := 1) hx hb d_M_init_1733 (by decide) k) d_M_init_1734 (by decide) (vq (by decide)) (by decide) (fun H locs hP hD hS => ?_)
  refine ba_step (i := 50) (x := 4) hx hb hK hP hD hS 0 rfl d_M_init_1735 (fun st k => lv_bipush (v := 50) hx hb d_M_init_1736 (by decide) k) (fun st k => lv_iconst (v := 4) hx hb d_M_init_1738 (by decide) k) d_M_init_1739 (by decide) (vq (by decide)) (by decide) (fun H locs hP hD hS => ?_)
  refine ba_step (i := 51) (x := 101) hx hb hK hP hD hS 0 rfl d_M_init_1740 (fun st k => lv_bipush (v := 51) hx hb d_M_init_1741 (by decide) k) (fun st k => lv_bipush (v := 101) hx hb d_M_init_1743 (by decide) k) d_M_init_1745 (by decide) (vq (by decide)) (by decide) (fun H locs hP hD hS => ?_)
  refine ba_step (i := 52) (x := 120) hx hb hK hP hD hS 0 rfl d_M_init_1746 (fun st k => lv_bipush (v := 52) hx hb d_M_init_1747 (by decide) k) (fun st k => lv_bipush (v := 120) hx hb d_M_init_1749 (by decide) k) d_M_init_1751 (by decide) (vq (by decide)) (by decide) (fun H locs hP hD hS => ?_)
  refine ba_step (i := 53) (x := 105) hx hb hK hP hD hS 0 rfl d_M_init_1752 (fun st k => lv_bipush (v := 53) hx hb d_M_init_1753 (by decide) k) (fun st k => lv_bipush (v := 105) hx hb d_M_init_1755 (by decide) k) d_M_init_1757 (by decide) (vq (by decide)) (by decide) (fun H locs hP hD hS => ?_)
  refine ba_step (i := 54) (x := 116) hx hb hK hP hD hS 0 rfl d_M_init_1758 (fun st k => lv_bipush (v := 54) hx hb d_M_init_1759 (by decide) k) (fun st k => lv_bipush (v := 116) hx hb d_M_init_1761 (by decide) k) d_M_init_1763 (by decide) (vq (by decide)) (by decide) (fun H locs hP hD hS => ?_)
  refine ba_step (i := 55) (x := 2) hx hb hK hP hD hS 0 rfl d_M_init_1764 (fun st k => lv_bipush (v := 55) hx hb d_M_init_1765 (by decide) k) (fun st k => lv_iconst (v := 2) hx hb d_M_init_1767 (by decide) k) d_M_init_1768 (by decide) (vq (by decide)) (by decide) (fun H locs hP hD hS => ?_)
  refine ba_step (i := 56) (x := 4) hx hb hK hP hD hS 0 rfl d_M_init_1769 (fun st k => lv_bipush (v := 56) hx hb d_M_init_1770 (by decide) k) (fun st k => lv_iconst (v := 4) hx hb d_M_init_1772 (by decide) k) d_M_init_1773 (by decide) (vq (by decide)) (by decide) (fun H locs hP hD hS => ?_)
  refine ba_step (i := 57) (x := 101) hx hb hK hP hD hS 0 rfl d_M_init_1774 (fun st k => lv_bipush (v := 57) hx hb d_M_init_1775 (by decide) k) (fun st k => lv_bipush (v := 101) hx hb d_M_init_1777 (by decide) k) d_M_init_1779 (by decide) (vq (by decide)) (by decide) (fun H locs hP hD hS => ?_)
  refine ba_step (i := 58) (x := 120) hx hb hK hP hD hS 0 rfl d_M_init_1780 (fun st k => lv_bipush (v := 58) hx hb d_M_init_1781 (by decide) k) (fun st k => lv_bipush (v := 120) hx hb d_M_init_1783 (by decide) k) d_M_init_1785 (by decide) (vq (by decide)) (by decide) (fun H locs hP hD hS => ?_)
  refine ba_step (i := 59) (x := 105) hx hb hK hP hD hS 0 rfl d_M_init_1786 (fun st k => lv_bipush (v := 59) hx hb d_M_init_1787 (by decide) k) (fun st k => lv_bipush (v := 105) hx hb d_M_init_1789 (by decide) k) d_M_init_1791 (by decide) (vq (by decide)) (by decide) (fun H locs hP hD hS => ?_)
  refine ba_step (i := 60) (x := 116) hx hb hK hP hD hS 0 rfl d_M_init_1792 (fun st k => lv_bipush (v := 60) hx hb d_M_init_1793 (by decide) k) (fun st k => lv_bipush (v := 116) hx hb d_M_init_1795 (by decide) k) d_M_init_1797 (by decide) (vq (by decide)) (by decide) (fun H locs hP hD hS => ?_)
  refine ba_step (i := 61) (x := 1) hx hb hK hP hD hS 0 rfl d_M_init_1798 (fun st k => lv_bipush (v := 61) hx hb d_M_init_1799 (by decide) k) (fun st k => lv_iconst (v := 1) hx hb d_M_init_1801 (by decide) k) d_M_init_1802 (by decide) (vq (by decide)) (by decide) (fun H locs hP hD hS => ?_)
  refine ba_step (i := 62) (x := 5) hx hb hK hP hD hS 0 rfl d_M_init_1803 (fun st k => lv_bipush (v := 62) hx hb d_M_init_1804 (by decide) k) (fun st k => lv_iconst (v := 5) hx hb d_M_init_1806 (by decide) k) d_M_init_1807 (by decide) (vq (by decide)) (by decide) (fun H locs hP hD hS => ?_)
  refine ba_step (i := 63) (x := 116) hx hb hK hP hD hS 0 rfl d_M_init_1808 (fun st k => lv_bipush (v := 63) hx hb d_M_init_1809 (by decide) k) (fun st k => lv_bipush (v := 116) hx hb d_M_init_1811 (by decide) k) d_M_init_1813 (by decide) (vq (by decide)) (by decide) (fun H locs hP hD hS => ?_)
  refine ba_step (i := 64) (x := 104) hx hb hK hP hD hS 0 rfl d_M_init_1814 (fun st k => lv_bipush (v := 64) hx hb d_M_init_1815 (by decide) k) (fun st k => lv_bipush (v := 104) hx hb d_M_init_1817 (by decide) k) d_M_init_1819 (by decide) (vq (by decide)) (by decide) (fun H locs hP hD hS => ?_)
  refine ba_step (i := 65) (x := 114) hx hb hK hP hD hS 0 rfl d_M_init_1820 (fun st k => lv_bipush (v := 65) hx hb d_M_init_1821 (by decide) k) (fun st k => lv_bipush (v := 114) hx hb d_M_init_1823 (by decide) k) d_M_init_1825 (by decide) (vq (by decide)) (by decide) (fun H locs hP hD hS => ?_)
  refine ba_step (i := 66) (x := 111) hx hb hK hP hD hS 0 rfl d_M_init_1826 (fun st k => lv_bipush (v := 66) hx hb d_M_init_1827 (by decide) k) (fun st k => lv_bipush (v := 111) hx hb d_M_init_1829 (by decide) k) d_M_init_1831 (by decide) (vq (by decide)) (by decide) (fun H locs hP hD hS => ?_)
  refine ba_step (i := 67) (x := 119) hx hb hK hP hD hS 0 rfl d_M_init_1832 (fun st k => lv_bipush (v := 67) hx hb d_M_init_1833 (by decide) k) (fun st k => lv_bipush (v := 119) hx hb d_M_init_1835 (by decide) k) d_M_init_1837 (by decide) (vq (by decide)) (by decide) (fun H locs hP hD hS => ?_)
  refine ba_step (i := 68) (x := 1) hx hb hK hP hD hS 0 rfl d_M_init_1838 (fun st k => lv_bipush (v := 68) hx hb d_M_init_1839 (by decide) k) (fun st k => lv_iconst (v := 1) hx hb d_M_init_1841 (by decide) k) d_M_init_1842 (by decide) (vq (by decide)) (by decide) (fun H locs hP hD hS => ?_)
  refine ba_step (i := 69) (x := 5) hx hb hK hP hD hS 0 rfl d_M_init_1843 (fun st k => lv_bipush (v := 69) hx hb d_M_init_1844 (by decide) k) (fun st k => lv_iconst (v := 5) hx hb d_M_init_1846 (by decide) k) d_M_init_1847 (by decide) (vq (by decide)) (by decide) (fun H locs hP hD hS => ?_)
  refine ba_step (i := 70) (x := 101) hx hb hK hP hD hS 0 rfl d_M_init_1848 (fun st k => lv_bipush (v := 70) hx hb d_M_init_1849 (by decide) k) (fun st k => lv_bipush (v := 101) hx hb d_M_init_1851 (by decide) k) d_M_init_1853 (by decide) (vq (by decide)) (by decide) (fun H locs hP hD hS => ?_)
  refine ba_step (i := 71) (x := 114) hx hb hK hP hD hS 0 rfl d_M_init_1854 (fun st k => lv_bipush (v := 71) hx hb d_M_init_1855 (by decide) k) (fun st k => lv_bipush (v := 114) hx hb d_M_init_1857 (by decide) k) d_M_init_1859 (by decide) (vq (by decide)) (by decide) (fun H locs hP hD hS => ?_)
  refine ba_step (i := 72) (x := 114) hx hb hK hP hD hS 0 rfl d_M_init_1860 (fun st k => lv_bipush (v := 72) hx hb d_M_init_1861 (by decide) k) (fun st k => lv_bipush (v := 114) hx hb d_M_init_1863 (by decide) k) d_M_init_1865 (by decide) (vq (by decide)) (by decide) (fun H locs hP hD hS => ?_)
  refine ba_step (i := 73) (x := 111) hx hb hK hP hD hS 0 rfl d_M_init_1866 (fun st k => lv_bipush (v := 73) hx hb d_M_init_1867 (by decide) k) (fun st k => lv_bipush (v := 111) hx hb d_M_init_1869 (by decide) k) d_M_init_1871 (by decide) (vq (by decide)) (by decide) (fun H locs hP hD hS => ?_)
  refine ba_step (i := 74) (x := 114) hx hb hK hP hD hS 0 rfl d_M_init_1872 (fun st k => lv_bipush (v := 74) hx hb d_M_init_1873 (by decide) k) (fun st k => lv_bipush (v := 114) hx hb d_M_init_1875 (by decide) k) d_M_init_1877 (by decide) (vq (by decide)) (by decide) (fun H locs hP hD hS => ?_)
  refine ba_step (i := 75) (x := 1) hx hb hK hP hD hS 0 rfl d_M_init_1878 (fun st k => lv_bipush (v := 75) hx hb d_M_init_1879 (by decide) k) (fun st k => lv_iconst (v := 1) hx hb d_M_init_1881 (by decide) k) d_M_init_1882 (by decide) (vq (by decide)) (by decide) (fun H locs hP hD hS => ?_)
  refine ba_step (i := 76) (x := 5) hx hb hK hP hD hS 0 rfl d_M_init_1883 (fun st k => lv_bipush (v := 76) hx hb d_M_init_1884 (by decide) k) (fun st k => lv_iconst (v := 5) hx hb d_M_init_1886 (by decide) k) d_M_init_1887 (by decide) (vq (by decide)) (by decide) (fun H locs hP hD hS => ?_)
  refine ba_step (i := 77) (x := 112) hx hb hK hP hD hS 0 rfl d_M_init_1888 (fun st k => lv_bipush (v := 77) hx hb d_M_init_1889 (by decide) k) (fun st k => lv_bipush (v := 112) hx hb d_M_init_1891 (by decide) k) d_M_init_1893 (by decide) (vq (by decide)) (by decide) (fun H locs hP hD hS => ?_)
  refine ba_step (i := 78) (x := 114) hx hb hK hP hD hS 0 rfl d_M_init_1894 (fun st k => lv_bipush (v := 78) hx hb d_M_init_1895 (by decide) k) (fun st k => lv_bipush (v := 114) hx hb d_M_init_1897 (by decide) k) d_M_init_1899 (by decide) (vq (by decide)) (by decide) (fun H locs hP hD hS => ?_)
  refine ba_step (i := 79) (x := 105) hx hb hK hP hD hS 0 rfl d_M_init_1900 (fun st k => lv_bipush (v := 79) hx hb d_M_init_1901 (by decide) k) (fun st k => lv_bipush (v := 105) hx hb d_M_init_1903 (by decide) k) d_M_init_1905 (by decide) (vq (by decide)) (by decide) (fun H locs hP hD hS => ?_)
  exact kk H locs hP hD hS
set_option maxRecDepth 100000 in
set_option maxHeartbeats 4000000 in
theorem sg_2_80 {p : Program} {l : Launch} {e : Env} {R : Room} {s : State} {m : MethodId} {args : Array Value} {below : List Frame} {meth : Method} {c : Code} {H : Heap} {locs : List Loc} {cells slots : Nat} {Q : State → Prop} {ls : Array Slot} {D : va_G} {cl : List vw_C} {cB cI cJ cZ cS : ClassId} {rst : va_W} {A : Nat → Prop} {H0 : Heap} {iM h0 : Nat} {ob : Nat × va_E} {q2 : Nat} (hx : p.tables.exec = Jvm.exec) (hb : c.code = b_M_init) (ht : ∀ w ∈ wd_tbl, w.before args s = true) (hown : s.vm.findClass R_M = some m.cls) (hM : cl[iM]? = some (R_M, F_M, 171)) (hin : meth.name = "<init>") (hK : va_K D cl (ty5 cB cI cJ cZ cS) s) (hA : ∀ q, H0.size ≤ q → A q) (hl : ls[0]? = some (.val (.ref h0))) (hP : va_P D cl (ob :: (q2, .inl (cB, 218, .inl (tk tb_2 80))) :: rst) H) (hD : va_D A (ob :: (q2, .inl (cB, 218, .inl (tk tb_2 80))) :: rst)) (hS : va_S A H0 H locs)
    (kk : ∀ (H1 : Heap) (locs1 : List Loc), va_P D cl (ob :: (q2, .inl (cB, 218, .inl (tk tb_2 120))) :: rst) H1 → va_D A (ob :: (q2, .inl (cB, 218, .inl (tk tb_2 120))) :: rst) → va_S A H0 H1 locs1 → W p l e R s m args below meth c H1 locs1 cells slots Q (F0 m 2135 ls [.ref q2, .ref h0])) :
    W p l e R s m args below meth c H locs cells slots Q (F0 m 1906 ls [.ref q2, .ref h0]) := by
  refine ba_step (i := 80) (x := 110) hx hb hK hP hD hS 0 rfl d_M_init_1906 (fun st k => lv_bipush (v := 80) hx hb d_M_init_1907 (by decide) k) (fun st k => lv_bipush (v := 110) hx hb d_M_init_1909 (by decide) k) d_M_init_1911 (by decide) (vq (by decide)) (by decide) (fun H locs hP hD hS => ?_)
  refine ba_step (i := 81) (x := 116) hx hb hK hP hD hS 0 rfl d_M_init_1912 (fun st k => lv_bipush (v := 81) hx hb d_M_init_1913 (by decide) k) (fun st k => lv_bipush (v := 116) hx hb d_M_init_1915 (by decide) k) d_M_init_1917 (by decide) (vq (by decide)) (by decide) (fun H locs hP hD hS => ?_)
  refine ba_step (i := 82) (x := 0) hx hb hK hP hD hS 0 rfl d_M_init_1918 (fun st k => lv_bipush (v := 82) hx hb d_M_init_1919 (by decide) k) (fun st k => lv_iconst (v := 0) hx hb d_M_init_1921 (by decide) k) d_M_init_1922 (by decide) (vq (by decide)) (by decide) (fun H locs hP hD hS => ?_)
  refine ba_step (i := 83) (x := 3) hx hb hK hP hD hS 0 rfl d_M_init_1923 (fun st k => lv_bipush (v := 83) hx hb d_M_init_1924 (by decide) k) (fun st k => lv_iconst (v := 3) hx hb d_M_init_1926 (by decide) k) d_M_init_1927 (by decide) (vq (by decide)) (by decide) (fun H locs hP hD hS => ?_)
  refine ba_step (i := 84) (x := 114) hx hb hK hP hD hS 0 rfl d_M_init_1928 (fun st k => lv_bipush (v := 84) hx hb d_M_init_1929 (by decide) k) (fun st k => lv_bipush (v := 114) hx hb d_M_init_1931 (by decide) k) d_M_init_1933 (by decide) (vq (by decide)) (by decide) (fun H locs hP hD hS => ?_)
  refine ba_step (i := 85) (x := 101) hx hb hK hP hD hS 0 rfl d_M_init_1934 (fun st k => lv_bipush (v := 85) hx hb d_M_init_1935 (by decide) k) (fun st k => lv_bipush (v := 101) hx hb d_M_init_1937 (by decide) k) d_M_init_1939 (by decide) (vq (by decide)) (by decide) (fun H locs hP hD hS => ?_)
  refine ba_step (i := 86) (x := 102) hx hb hK hP hD hS 0 rfl d_M_init_1940 (fun st k => lv_bipush (v := 86) hx hb d_M_init_1941 (by decide) k) (fun st k => lv_bipush (v := 102) hx hb d_M_init_1943 (by decide) k) d_M_init_1945 (by decide) (vq (by decide)) (by decide) (fun H locs hP hD hS => ?_)
  refine ba_step (i := 87) (x := 2) hx hb hK hP hD hS 0 rfl d_M_init_1946 (fun st k => lv_bipush (v := 87) hx hb d_M_init_1947 (by decide) k) (fun st k => lv_iconst (v := 2) hx hb d_M_init_1949 (by decide) k) d_M_init_1950 (by decide) (vq (by decide)) (by decide) (fun H locs hP hD hS => ?_)
  refine ba_step (i := 88) (x := 4) hx hb hK hP hD hS 0 rfl d_M_init_1951 (fun st k => lv_bipush (v := 88) hx hb d_M_init_1952 (by decide) k) (fun st k => lv_iconst (v := 4) hx hb d_M_init_1954 (by decide) k) d_M_init_1955 (by decide) (vq (by decide)) (by decide) (fun H locs hP hD hS => ?_)
  refine ba_step (i := 89) (x := 110) hx hb hK hP hD hS 0 rfl d_M_init_1956 (fun st k => lv_bipush (v := 89) hx hb d_M_init_1957 (by decide) k) (fun st k => lv_bipush (v := 110) hx hb d_M_init_1959 (by decide) k) d_M_init_1961 (by decide) (vq (by decide)) (by decide) (fun H locs hP hD hS => ?_)
  refine ba_step (i := 90) (x := 97) hx hb hK hP hD hS 0 rfl d_M_init_1962 (fun st k => lv_bipush (v := 90) hx hb d_M_init_1963 (by decide) k) (fun st k => lv_bipush (v := 97) hx hb d_M_init_1965 (by decide) k) d_M_init_1967 (by decide) (vq (by decide)) (by decide) (fun H locs hP hD hS => ?_)
  refine ba_step (i := 91) (x := 109) hx hb hK hP hD hS 0 rfl d_M_init_1968 (fun st k => lv_bipush (v := 91) hx hb d_M_init_1969 (by decide) k) (fun st k => lv_bipush (v := 109) hx hb d_M_init_1971 (by decide) k) d_M_init_1973 (by decide) (vq (by decide)) (by decide) (fun H locs hP hD hS => ?_)
  refine ba_step (i := 92) (x := 101) hx hb hK hP hD hS 0 rfl d_M_init_1974 (fun st k => lv_bipush (v := 92) hx hb d_M_init_1975 (by decide) k) (fun st k => lv_bipush (v := 101) hx hb d_M_init_1977 (by decide) k) d_M_init_1979 (by decide) (vq (by decide)) (by decide) (fun H locs hP hD hS => ?_)
  refine ba_step (i := 93) (x := 1) hx hb hK hP hD hS 0 rfl d_M_init_1980 (fun st k => lv_bipush (v := 93) hx hb d_M_init_1981 (by decide) k) (fun st k => lv_iconst (v := 1) hx hb d_M_init_1983 (by decide) k) d_M_init_1984 (by decide) (vq (by decide)) (by decide) (fun H locs hP hD hS => ?_)
  refine ba_step (i := 94) (x := 6) hx hb hK hP hD hS 0 rfl d_M_init_1985 (fun st k => lv_bipush (v := 94) hx hb d_M_init_1986 (by decide) k) (fun st k => lv_bipush (v := 6) hx hb d_M_init_1988 (by decide) k) d_M_init_1990 (by decide) (vq (by decide)) (by decide) (fun H locs hP hD hS => ?_)
  refine ba_step (i := 95) (x := 117) hx hb hK hP hD hS 0 rfl d_M_init_1991 (fun st k => lv_bipush (v := 95) hx hb d_M_init_1992 (by decide) k) (fun st k => lv_bipush (v := 117) hx hb d_M_init_1994 (by decide) k) d_M_init_1996 (by decide) (vq (by decide)) (by decide) (fun H locs hP hD hS => ?_)
  refine ba_step (i := 96) (x := 110) hx hb hK hP hD hS 0 rfl d_M_init_1997 (fun st k => lv_bipush (v := 96) hx hb d_M_init_1998 (by decide) k) (fun st k => lv_bipush (v := 110) hx hb d_M_init_2000 (by decide) k) d_M_init_2002 (by decide) (vq (by decide)) (by decide) (fun H locs hP hD hS => ?_)
  refine ba_step (i := 97) (x := 110) hx hb hK hP hD hS 0 rfl d_M_init_2003 (fun st k => lv_bipush (v := 97) hx hb d_M_init_2004 (by decide) k) (fun st k => lv_bipush (v := 110) hx hb d_M_init_2006 (by decide) k) d_M_init_2008 (by decide) (vq (by decide)) (by decide) (fun H locs hP hD hS => ?_)
  refine ba_step (i := 98) (x := 97) hx hb hK hP hD hS 0 rfl d_M_init_2009 (fun st k => lv_bipush (v := 98) hx hb d_M_init_2010 (by decide) k) (fun st k => lv_bipush (v := 97) hx hb d_M_init_2012 (by decide) k) d_M_init_2014 (by decide) (vq (by decide)) (by decide) (fun H locs hP hD hS => ?_)
  refine ba_step (i := 99) (x := 109) hx hb hK hP hD hS 0 rfl d_M_init_2015 (fun st k => lv_bipush (v := 99) hx hb d_M_init_2016 (by decide) k) (fun st k => lv_bipush (v := 109) hx hb d_M_init_2018 (by decide) k) d_M_init_2020 (by decide) (vq (by decide)) (by decide) (fun H locs hP hD hS => ?_)
  refine ba_step (i := 100) (x := 101) hx hb hK hP hD hS 0 rfl d_M_init_2021 (fun st k => lv_bipush (v := 100) hx hb d_M_init_2022 (by decide) k) (fun st k => lv_bipush (v := 101) hx hb d_M_init_2024 (by decide) k) d_M_init_2026 (by decide) (vq (by decide)) (by decide) (fun H locs hP hD hS => ?_)
  refine ba_step (i := 101) (x := 1) hx hb hK hP hD hS 0 rfl d_M_init_2027 (fun st k => lv_bipush (v := 101) hx hb d_M_init_2028 (by decide) k) (fun st k => lv_iconst (v := 1) hx hb d_M_init_2030 (by decide) k) d_M_init_2031 (by decide) (vq (by decide)) (by decide) (fun H locs hP hD hS => ?_)
  refine ba_step (i := 102) (x := 5) hx hb hK hP hD hS 0 rfl d_M_init_2032 (fun st k => lv_bipush (v := 102) hx hb d_M_init_2033 (by decide) k) (fun st k => lv_iconst (v := 5) hx hb d_M_init_2035 (by decide) k) d_M_init_2036 (by decide) (vq (by decide)) (by decide) (fun H locs hP hD hS => ?_)
  refine ba_step (i := 103) (x := 110) hx hb hK hP hD hS 0 rfl d_M_init_2037 (fun st k => lv_bipush (v := 103) hx hb d_M_init_2038 (by decide) k) (fun st k => lv_bipush (v := 110) hx hb d_M_init_2040 (by decide) k) d_M_init_2042 (by decide) (vq (by decide)) (by decide) (fun H locs hP hD hS => ?_)
  refine ba_step (i := 104) (x := 97) hx hb hK hP hD hS 0 rfl d_M_init_2043 (fun st k => lv_bipush (v := 104) hx hb d_M_init_2044 (by decide) k) (fun st k => lv_bipush (v := 97) hx hb d_M_init_2046 (by decide) k) d_M_init_2048 (by decide) (vq (by decide)) (by decide) (fun H locs hP hD hS => ?_)
  refine ba_step (i := 105) (x := 109) hx hb hK hP hD hS 0 rfl d_M_init_2049 (fun st k => lv_bipush (v := 105) hx hb d_M_init_2050 (by decide) k) (fun st k => lv_bipush (v := 109) hx hb d_M_init_2052 (by decide) k) d_M_init_2054 (by decide) (vq (by decide)) (by decide) (fun H locs hP hD hS => ?_)
  refine ba_step (i := 106) (x := 101) hx hb hK hP hD hS 0 rfl d_M_init_2055 (fun st k => lv_bipush (v := 106) hx hb d_M_init_2056 (by decide) k) (fun st k => lv_bipush (v := 101) hx hb d_M_init_2058 (by decide) k) d_M_init_2060 (by decide) (vq (by decide)) (by decide) (fun H locs hP hD hS => ?_)
  refine ba_step (i := 107) (x := 100) hx hb hK hP hD hS 0 rfl d_M_init_2061 (fun st k => lv_bipush (v := 107) hx hb d_M_init_2062 (by decide) k) (fun st k => lv_bipush (v := 100) hx hb d_M_init_2064 (by decide) k) d_M_init_2066 (by decide) (vq (by decide)) (by decide) (fun H locs hP hD hS => ?_)
  refine ba_step (i := 108) (x := 1) hx hb hK hP hD hS 0 rfl d_M_init_2067 (fun st k => lv_bipush (v := 108) hx hb d_M_init_2068 (by decide) k) (fun st k => lv_iconst (v := 1) hx hb d_M_init_2070 (by decide) k) d_M_init_2071 (by decide) (vq (by decide)) (by decide) (fun H locs hP hD hS => ?_)
  refine ba_step (i := 109) (x := 5) hx hb hK hP hD hS 0 rfl d_M_init_2072 (fun st k => lv_bipush (v := 109) hx hb d_M_init_2073 (by decide) k) (fun st k => lv_iconst (v := 5) hx hb d_M_init_2075 (by decide) k) d_M_init_2076 (by decide) (vq (by decide)) (by decide) (fun H locs hP hD hS => ?_)
  refine ba_step (i := 110) (x := 97) hx hb hK hP hD hS 0 rfl d_M_init_2077 (fun st k => lv_bipush (v := 110) hx hb d_M_init_2078 (by decide) k) (fun st k => lv_bipush (v := 97) hx hb d_M_init_2080 (by decide) k) d_M_init_2082 (by decide) (vq (by decide)) (by decide) (fun H locs hP hD hS => ?_)
  refine ba_step (i := 111) (x := 108) hx hb hK hP hD hS 0 rfl d_M_init_2083 (fun st k => lv_bipush (v := 111) hx hb d_M_init_2084 (by decide) k) (fun st k => lv_bipush (v := 108) hx hb d_M_init_2086 (by decide) k) d_M_init_2088 (by decide) (vq (by decide)) (by decide) (fun H locs hP hD hS => ?_)
  refine ba_step (i := 112) (x := 105) hx hb hK hP hD hS 0 rfl d_M_init_2089 (fun st k => lv_bipush (v := 112) hx hb d_M_init_2090 (by decide) k) (fun st k => lv_bipush (v := 105) hx hb d_M_init_2092 (by decide) k) d_M_init_2094 (by decide) (vq (by decide)) (by decide) (fun H locs hP hD hS => ?_)
  refine ba_step (i := 113) (x := 118) hx hb hK hP hD hS 0 rfl d_M_init_2095 (fun st k => lv_bipush (v := 113) hx hb d_M_init_2096 (by decide) k) (fun st k => lv_bipush (v := 118) hx hb d_M_init_2098 (by decide) k) d_M_init_2100 (by decide) (vq (by decide)) (by decide) (fun H locs hP hD hS => ?_)
  refine ba_step (i := 114) (x := 101) hx hb hK hP hD hS 0 rfl d_M_init_2101 (fun st k => lv_bipush (v := 114) hx hb d_M_init_2102 (by decide) k) (fun st k => lv_bipush (v := 101) hx hb d_M_init_2104 (by decide) k) d_M_init_2106 (by decide) (vq (by decide)) (by decide) (fun H locs hP hD hS => ?_)
  refine ba_step (i := 115) (x := 0) hx hb hK hP hD hS 0 rfl d_M_init_2107 (fun st k => lv_bipush (v := 115) hx hb d_M_init_2108 (by decide) k) (fun st k => lv_iconst (v := 0) hx hb d_M_init_2110 (by decide) k) d_M_init_2111 (by decide) (vq (by decide)) (by decide) (fun H locs hP hD hS => ?_)
  refine ba_step (i := 116) (x := 3) hx hb hK hP hD hS 0 rfl d_M_init_2112 (fun st k => lv_bipush (v := 116) hx hb d_M_init_2113 (by decide) k) (fun st k => lv_iconst (v := 3) hx hb d_M_init_2115 (by decide) k) d_M_init_2116 (by decide) (vq (by decide)) (by decide) (fun H locs hP hD hS => ?_)
  refine ba_step (i := 117) (x := 110) hx hb hK hP hD hS 0 rfl d_M_init_2117 (fun st k => lv_bipush (v := 117) hx hb d_M_init_2118 (by decide) k) (fun st k => lv_bipush (v := 110) hx hb d_M_init_2120 (by decide) k) d_M_init_2122 (by decide) (vq (by decide)) (by decide) (fun H locs hP hD hS => ?_)
  refine ba_step (i := 118) (x := 111) hx hb hK hP hD hS 0 rfl d_M_init_2123 (fun st k => lv_bipush (v := 118) hx hb d_M_init_2124 (by decide) k) (fun st k => lv_bipush (v := 111) hx hb d_M_init_2126 (by decide) k) d_M_init_2128 (by decide) (vq (by decide)) (by decide) (fun H locs hP hD hS => ?_)
  refine ba_step (i := 119) (x := 119) hx hb hK hP hD hS 0 rfl d_M_init_2129 (fun st k => lv_bipush (v := 119) hx hb d_M_init_2130 (by decide) k) (fun st k => lv_bipush (v := 119) hx hb d_M_init_2132 (by decide) k) d_M_init_2134 (by decide) (vq (by decide)) (by decide) (fun H locs hP hD hS => ?_)
  exact kk H locs hP hD hS
set_option maxRecDepth 100000 in
set_option maxHeartbeats 4000000 in
theorem sg_2_120 {p : Program} {l : Launch} {e : Env} {R : Room} {s : State} {m : MethodId} {args : Array Value} {below : List Frame} {meth : Method} {c : Code} {H : Heap} {locs : List Loc} {cells slots : Nat} {Q : State → Prop} {ls : Array Slot} {D : va_G} {cl : List vw_C} {cB cI cJ cZ cS : ClassId} {rst : va_W} {A : Nat → Prop} {H0 : Heap} {iM h0 : Nat} {ob : Nat × va_E} {q2 : Nat} (hx : p.tables.exec = Jvm.exec) (hb : c.code = b_M_init) (ht : ∀ w ∈ wd_tbl, w.before args s = true) (hown : s.vm.findClass R_M = some m.cls) (hM : cl[iM]? = some (R_M, F_M, 171)) (hin : meth.name = "<init>") (hK : va_K D cl (ty5 cB cI cJ cZ cS) s) (hA : ∀ q, H0.size ≤ q → A q) (hl : ls[0]? = some (.val (.ref h0))) (hP : va_P D cl (ob :: (q2, .inl (cB, 218, .inl (tk tb_2 120))) :: rst) H) (hD : va_D A (ob :: (q2, .inl (cB, 218, .inl (tk tb_2 120))) :: rst)) (hS : va_S A H0 H locs)
    (kk : ∀ (H1 : Heap) (locs1 : List Loc), va_P D cl (ob :: (q2, .inl (cB, 218, .inl (tk tb_2 160))) :: rst) H1 → va_D A (ob :: (q2, .inl (cB, 218, .inl (tk tb_2 160))) :: rst) → va_S A H0 H1 locs1 → W p l e R s m args below meth c H1 locs1 cells slots Q (F0 m 2402 ls [.ref q2, .ref h0])) :
    W p l e R s m args below meth c H locs cells slots Q (F0 m 2135 ls [.ref q2, .ref h0]) := by
  refine ba_step (i := 120) (x := 1) hx hb hK hP hD hS 0 rfl d_M_init_2135 (fun st k => lv_bipush (v := 120) hx hb d_M_init_2136 (by decide) k) (fun st k => lv_iconst (v := 1) hx hb d_M_init_2138 (by decide) k) d_M_init_2139 (by decide) (vq (by decide)) (by decide) (fun H locs hP hD hS => ?_)
  refine ba_step (i := 121) (x := 9) hx hb hK hP hD hS 0 rfl d_M_init_2140 (fun st k => lv_bipush (v := 121) hx hb d_M_init_2141 (by decide) k) (fun st k => lv_bipush (v := 9) hx hb d_M_init_2143 (by decide) k) d_M_init_2145 (by decide) (vq (by decide)) (by decide) (fun H locs hP hD hS => ?_)
  refine ba_step (i := 122) (x := 105) hx hb hK hP hD hS 0 rfl d_M_init_2146 (fun st k => lv_bipush (v := 122) hx hb d_M_init_2147 (by decide) k) (fun st k => lv_bipush (v := 105) hx hb d_M_init_2149 (by decide) k) d_M_init_2151 (by decide) (vq (by decide)) (by decide) (fun H locs hP hD hS => ?_)
  refine ba_step (i := 123) (x := 115) hx hb hK hP hD hS 0 rfl d_M_init_2152 (fun st k => lv_bipush (v := 123) hx hb d_M_init_2153 (by decide) k) (fun st k => lv_bipush (v := 115) hx hb d_M_init_2155 (by decide) k) d_M_init_2157 (by decide) (vq (by decide)) (by decide) (fun H locs hP hD hS => ?_)
  refine ba_step (i := 124) (x := 95) hx hb hK hP hD hS 0 rfl d_M_init_2158 (fun st k => lv_bipush (v := 124) hx hb d_M_init_2159 (by decide) k) (fun st k => lv_bipush (v := 95) hx hb d_M_init_2161 (by decide) k) d_M_init_2163 (by decide) (vq (by decide)) (by decide) (fun H locs hP hD hS => ?_)
  refine ba_step (i := 125) (x := 110) hx hb hK hP hD hS 0 rfl d_M_init_2164 (fun st k => lv_bipush (v := 125) hx hb d_M_init_2165 (by decide) k) (fun st k => lv_bipush (v := 110) hx hb d_M_init_2167 (by decide) k) d_M_init_2169 (by decide) (vq (by decide)) (by decide) (fun H locs hP hD hS => ?_)
  refine ba_step (i := 126) (x := 117) hx hb hK hP hD hS 0 rfl d_M_init_2170 (fun st k => lv_bipush (v := 126) hx hb d_M_init_2171 (by decide) k) (fun st k => lv_bipush (v := 117) hx hb d_M_init_2173 (by decide) k) d_M_init_2175 (by decide) (vq (by decide)) (by decide) (fun H locs hP hD hS => ?_)
  refine ba_step (i := 127) (x := 109) hx hb hK hP hD hS 0 rfl d_M_init_2176 (fun st k => lv_bipush (v := 127) hx hb d_M_init_2177 (by decide) k) (fun st k => lv_bipush (v := 109) hx hb d_M_init_2179 (by decide) k) d_M_init_2181 (by decide) (vq (by decide)) (by decide) (fun H locs hP hD hS => ?_)
  refine ba_step (i := 128) (x := 98) hx hb hK hP hD hS 0 rfl d_M_init_2182 (fun st k => lv_sipush (v := 128) hx hb d_M_init_2183 (by decide) k) (fun st k => lv_bipush (v := 98) hx hb d_M_init_2186 (by decide) k) d_M_init_2188 (by decide) (vq (by decide)) (by decide) (fun H locs hP hD hS => ?_)
  refine ba_step (i := 129) (x := 101) hx hb hK hP hD hS 0 rfl d_M_init_2189 (fun st k => lv_sipush (v := 129) hx hb d_M_init_2190 (by decide) k) (fun st k => lv_bipush (v := 101) hx hb d_M_init_2193 (by decide) k) d_M_init_2195 (by decide) (vq (by decide)) (by decide) (fun H locs hP hD hS => ?_)
  refine ba_step (i := 130) (x := 114) hx hb hK hP hD hS 0 rfl d_M_init_2196 (fun st k => lv_sipush (v := 130) hx hb d_M_init_2197 (by decide) k) (fun st k => lv_bipush (v := 114) hx hb d_M_init_2200 (by decide) k) d_M_init_2202 (by decide) (vq (by decide)) (by decide) (fun H locs hP hD hS => ?_)
  refine ba_step (i := 131) (x := 1) hx hb hK hP hD hS 0 rfl d_M_init_2203 (fun st k => lv_sipush (v := 131) hx hb d_M_init_2204 (by decide) k) (fun st k => lv_iconst (v := 1) hx hb d_M_init_2207 (by decide) k) d_M_init_2208 (by decide) (vq (by decide)) (by decide) (fun H locs hP hD hS => ?_)
  refine ba_step (i := 132) (x := 7) hx hb hK hP hD hS 0 rfl d_M_init_2209 (fun st k => lv_sipush (v := 132) hx hb d_M_init_2210 (by decide) k) (fun st k => lv_bipush (v := 7) hx hb d_M_init_2213 (by decide) k) d_M_init_2215 (by decide) (vq (by decide)) (by decide) (fun H locs hP hD hS => ?_)
  refine ba_step (i := 133) (x := 105) hx hb hK hP hD hS 0 rfl d_M_init_2216 (fun st k => lv_sipush (v := 133) hx hb d_M_init_2217 (by decide) k) (fun st k => lv_bipush (v := 105) hx hb d_M_init_2220 (by decide) k) d_M_init_2222 (by decide) (vq (by decide)) (by decide) (fun H locs hP hD hS => ?_)
  refine ba_step (i := 134) (x := 115) hx hb hK hP hD hS 0 rfl d_M_init_2223 (fun st k => lv_sipush (v := 134) hx hb d_M_init_2224 (by decide) k) (fun st k => lv_bipush (v := 115) hx hb d_M_init_2227 (by decide) k) d_M_init_2229 (by decide) (vq (by decide)) (by decide) (fun H locs hP hD hS => ?_)
  refine ba_step (i := 135) (x := 95) hx hb hK hP hD hS 0 rfl d_M_init_2230 (fun st k => lv_sipush (v := 135) hx hb d_M_init_2231 (by decide) k) (fun st k => lv_bipush (v := 95) hx hb d_M_init_2234 (by decide) k) d_M_init_2236 (by decide) (vq (by decide)) (by decide) (fun H locs hP hD hS => ?_)
  refine ba_step (i := 136) (x := 97) hx hb hK hP hD hS 0 rfl d_M_init_2237 (fun st k => lv_sipush (v := 136) hx hb d_M_init_2238 (by decide) k) (fun st k => lv_bipush (v := 97) hx hb d_M_init_2241 (by decide) k) d_M_init_2243 (by decide) (vq (by decide)) (by decide) (fun H locs hP hD hS => ?_)
  refine ba_step (i := 137) (x := 116) hx hb hK hP hD hS 0 rfl d_M_init_2244 (fun st k => lv_sipush (v := 137) hx hb d_M_init_2245 (by decide) k) (fun st k => lv_bipush (v := 116) hx hb d_M_init_2248 (by decide) k) d_M_init_2250 (by decide) (vq (by decide)) (by decide) (fun H locs hP hD hS => ?_)
  refine ba_step (i := 138) (x := 111) hx hb hK hP hD hS 0 rfl d_M_init_2251 (fun st k => lv_sipush (v := 138) hx hb d_M_init_2252 (by decide) k) (fun st k => lv_bipush (v := 111) hx hb d_M_init_2255 (by decide) k) d_M_init_2257 (by decide) (vq (by decide)) (by decide) (fun H locs hP hD hS => ?_)
  refine ba_step (i := 139) (x := 109) hx hb hK hP hD hS 0 rfl d_M_init_2258 (fun st k => lv_sipush (v := 139) hx hb d_M_init_2259 (by decide) k) (fun st k => lv_bipush (v := 109) hx hb d_M_init_2262 (by decide) k) d_M_init_2264 (by decide) (vq (by decide)) (by decide) (fun H locs hP hD hS => ?_)
  refine ba_step (i := 140) (x := 1) hx hb hK hP hD hS 0 rfl d_M_init_2265 (fun st k => lv_sipush (v := 140) hx hb d_M_init_2266 (by decide) k) (fun st k => lv_iconst (v := 1) hx hb d_M_init_2269 (by decide) k) d_M_init_2270 (by decide) (vq (by decide)) (by decide) (fun H locs hP hD hS => ?_)
  refine ba_step (i := 141) (x := 7) hx hb hK hP hD hS 0 rfl d_M_init_2271 (fun st k => lv_sipush (v := 141) hx hb d_M_init_2272 (by decide) k) (fun st k => lv_bipush (v := 7) hx hb d_M_init_2275 (by decide) k) d_M_init_2277 (by decide) (vq (by decide)) (by decide) (fun H locs hP hD hS => ?_)
  refine ba_step (i := 142) (x := 105) hx hb hK hP hD hS 0 rfl d_M_init_2278 (fun st k => lv_sipush (v := 142) hx hb d_M_init_2279 (by decide) k) (fun st k => lv_bipush (v := 105) hx hb d_M_init_2282 (by decide) k) d_M_init_2284 (by decide) (vq (by decide)) (by decide) (fun H locs hP hD hS => ?_)
  refine ba_step (i := 143) (x := 115) hx hb hK hP hD hS 0 rfl d_M_init_2285 (fun st k => lv_sipush (v := 143) hx hb d_M_init_2286 (by decide) k) (fun st k => lv_bipush (v := 115) hx hb d_M_init_2289 (by decide) k) d_M_init_2291 (by decide) (vq (by decide)) (by decide) (fun H locs hP hD hS => ?_)
  refine ba_step (i := 144) (x := 95) hx hb hK hP hD hS 0 rfl d_M_init_2292 (fun st k => lv_sipush (v := 144) hx hb d_M_init_2293 (by decide) k) (fun st k => lv_bipush (v := 95) hx hb d_M_init_2296 (by decide) k) d_M_init_2298 (by decide) (vq (by decide)) (by decide) (fun H locs hP hD hS => ?_)
  refine ba_step (i := 145) (x := 108) hx hb hK hP hD hS 0 rfl d_M_init_2299 (fun st k => lv_sipush (v := 145) hx hb d_M_init_2300 (by decide) k) (fun st k => lv_bipush (v := 108) hx hb d_M_init_2303 (by decide) k) d_M_init_2305 (by decide) (vq (by decide)) (by decide) (fun H locs hP hD hS => ?_)
  refine ba_step (i := 146) (x := 105) hx hb hK hP hD hS 0 rfl d_M_init_2306 (fun st k => lv_sipush (v := 146) hx hb d_M_init_2307 (by decide) k) (fun st k => lv_bipush (v := 105) hx hb d_M_init_2310 (by decide) k) d_M_init_2312 (by decide) (vq (by decide)) (by decide) (fun H locs hP hD hS => ?_)
  refine ba_step (i := 147) (x := 115) hx hb hK hP hD hS 0 rfl d_M_init_2313 (fun st k => lv_sipush (v := 147) hx hb d_M_init_2314 (by decide) k) (fun st k => lv_bipush (v := 115) hx hb d_M_init_2317 (by decide) k) d_M_init_2319 (by decide) (vq (by decide)) (by decide) (fun H locs hP hD hS => ?_)
  refine ba_step (i := 148) (x := 116) hx hb hK hP hD hS 0 rfl d_M_init_2320 (fun st k => lv_sipush (v := 148) hx hb d_M_init_2321 (by decide) k) (fun st k => lv_bipush (v := 116) hx hb d_M_init_2324 (by decide) k) d_M_init_2326 (by decide) (vq (by decide)) (by decide) (fun H locs hP hD hS => ?_)
  refine ba_step (i := 149) (x := 1) hx hb hK hP hD hS 0 rfl d_M_init_2327 (fun st k => lv_sipush (v := 149) hx hb d_M_init_2328 (by decide) k) (fun st k => lv_iconst (v := 1) hx hb d_M_init_2331 (by decide) k) d_M_init_2332 (by decide) (vq (by decide)) (by decide) (fun H locs hP hD hS => ?_)
  refine ba_step (i := 150) (x := 8) hx hb hK hP hD hS 0 rfl d_M_init_2333 (fun st k => lv_sipush (v := 150) hx hb d_M_init_2334 (by decide) k) (fun st k => lv_bipush (v := 8) hx hb d_M_init_2337 (by decide) k) d_M_init_2339 (by decide) (vq (by decide)) (by decide) (fun H locs hP hD hS => ?_)
  refine ba_step (i := 151) (x := 105) hx hb hK hP hD hS 0 rfl d_M_init_2340 (fun st k => lv_sipush (v := 151) hx hb d_M_init_2341 (by decide) k) (fun st k => lv_bipush (v := 105) hx hb d_M_init_2344 (by decide) k) d_M_init_2346 (by decide) (vq (by decide)) (by decide) (fun H locs hP hD hS => ?_)
  refine ba_step (i := 152) (x := 115) hx hb hK hP hD hS 0 rfl d_M_init_2347 (fun st k => lv_sipush (v := 152) hx hb d_M_init_2348 (by decide) k) (fun st k => lv_bipush (v := 115) hx hb d_M_init_2351 (by decide) k) d_M_init_2353 (by decide) (vq (by decide)) (by decide) (fun H locs hP hD hS => ?_)
  refine ba_step (i := 153) (x := 95) hx hb hK hP hD hS 0 rfl d_M_init_2354 (fun st k => lv_sipush (v := 153) hx hb d_M_init_2355 (by decide) k) (fun st k => lv_bipush (v := 95) hx hb d_M_init_2358 (by decide) k) d_M_init_2360 (by decide) (vq (by decide)) (by decide) (fun H locs hP hD hS => ?_)
  refine ba_step (i := 154) (x := 116) hx hb hK hP hD hS 0 rfl d_M_init_2361 (fun st k => lv_sipush (v := 154) hx hb d_M_init_2362 (by decide) k) (fun st k => lv_bipush (v := 116) hx hb d_M_init_2365 (by decide) k) d_M_init_2367 (by decide) (vq (by decide)) (by decide) (fun H locs hP hD hS => ?_)
  refine ba_step (i := 155) (x := 117) hx hb hK hP hD hS 0 rfl d_M_init_2368 (fun st k => lv_sipush (v := 155) hx hb d_M_init_2369 (by decide) k) (fun st k => lv_bipush (v := 117) hx hb d_M_init_2372 (by decide) k) d_M_init_2374 (by decide) (vq (by decide)) (by decide) (fun H locs hP hD hS => ?_)
  refine ba_step (i := 156) (x := 112) hx hb hK hP hD hS 0 rfl d_M_init_2375 (fun st k => lv_sipush (v := 156) hx hb d_M_init_2376 (by decide) k) (fun st k => lv_bipush (v := 112) hx hb d_M_init_2379 (by decide) k) d_M_init_2381 (by decide) (vq (by decide)) (by decide) (fun H locs hP hD hS => ?_)
  refine ba_step (i := 157) (x := 108) hx hb hK hP hD hS 0 rfl d_M_init_2382 (fun st k => lv_sipush (v := 157) hx hb d_M_init_2383 (by decide) k) (fun st k => lv_bipush (v := 108) hx hb d_M_init_2386 (by decide) k) d_M_init_2388 (by decide) (vq (by decide)) (by decide) (fun H locs hP hD hS => ?_)
  refine ba_step (i := 158) (x := 101) hx hb hK hP hD hS 0 rfl d_M_init_2389 (fun st k => lv_sipush (v := 158) hx hb d_M_init_2390 (by decide) k) (fun st k => lv_bipush (v := 101) hx hb d_M_init_2393 (by decide) k) d_M_init_2395 (by decide) (vq (by decide)) (by decide) (fun H locs hP hD hS => ?_)
  refine ba_step (i := 159) (x := 1) hx hb hK hP hD hS 0 rfl d_M_init_2396 (fun st k => lv_sipush (v := 159) hx hb d_M_init_2397 (by decide) k) (fun st k => lv_iconst (v := 1) hx hb d_M_init_2400 (by decide) k) d_M_init_2401 (by decide) (vq (by decide)) (by decide) (fun H locs hP hD hS => ?_)
  exact kk H locs hP hD hS
set_option maxRecDepth 100000 in
set_option maxHeartbeats 4000000 in
theorem sg_2_160 {p : Program} {l : Launch} {e : Env} {R : Room} {s : State} {m : MethodId} {args : Array Value} {below : List Frame} {meth : Method} {c : Code} {H : Heap} {locs : List Loc} {cells slots : Nat} {Q : State → Prop} {ls : Array Slot} {D : va_G} {cl : List vw_C} {cB cI cJ cZ cS : ClassId} {rst : va_W} {A : Nat → Prop} {H0 : Heap} {iM h0 : Nat} {ob : Nat × va_E} {q2 : Nat} (hx : p.tables.exec = Jvm.exec) (hb : c.code = b_M_init) (ht : ∀ w ∈ wd_tbl, w.before args s = true) (hown : s.vm.findClass R_M = some m.cls) (hM : cl[iM]? = some (R_M, F_M, 171)) (hin : meth.name = "<init>") (hK : va_K D cl (ty5 cB cI cJ cZ cS) s) (hA : ∀ q, H0.size ≤ q → A q) (hl : ls[0]? = some (.val (.ref h0))) (hP : va_P D cl (ob :: (q2, .inl (cB, 218, .inl (tk tb_2 160))) :: rst) H) (hD : va_D A (ob :: (q2, .inl (cB, 218, .inl (tk tb_2 160))) :: rst)) (hS : va_S A H0 H locs)
    (kk : ∀ (H1 : Heap) (locs1 : List Loc), va_P D cl (ob :: (q2, .inl (cB, 218, .inl (tk tb_2 200))) :: rst) H1 → va_D A (ob :: (q2, .inl (cB, 218, .inl (tk tb_2 200))) :: rst) → va_S A H0 H1 locs1 → W p l e R s m args below meth c H1 locs1 cells slots Q (F0 m 2675 ls [.ref q2, .ref h0])) :
    W p l e R s m args below meth c H locs cells slots Q (F0 m 2402 ls [.ref q2, .ref h0]) := by
  refine ba_step (i := 160) (x := 6) hx hb hK hP hD hS 0 rfl d_M_init_2402 (fun st k => lv_sipush (v := 160) hx hb d_M_init_2403 (by decide) k) (fun st k => lv_bipush (v := 6) hx hb d_M_init_2406 (by decide) k) d_M_init_2408 (by decide) (vq (by decide)) (by decide) (fun H locs hP hD hS => ?_)
  refine ba_step (i := 161) (x := 105) hx hb hK hP hD hS 0 rfl d_M_init_2409 (fun st k => lv_sipush (v := 161) hx hb d_M_init_2410 (by decide) k) (fun st k => lv_bipush (v := 105) hx hb d_M_init_2413 (by decide) k) d_M_init_2415 (by decide) (vq (by decide)) (by decide) (fun H locs hP hD hS => ?_)
  refine ba_step (i := 162) (x := 115) hx hb hK hP hD hS 0 rfl d_M_init_2416 (fun st k => lv_sipush (v := 162) hx hb d_M_init_2417 (by decide) k) (fun st k => lv_bipush (v := 115) hx hb d_M_init_2420 (by decide) k) d_M_init_2422 (by decide) (vq (by decide)) (by decide) (fun H locs hP hD hS => ?_)
  refine ba_step (i := 163) (x := 95) hx hb hK hP hD hS 0 rfl d_M_init_2423 (fun st k => lv_sipush (v := 163) hx hb d_M_init_2424 (by decide) k) (fun st k => lv_bipush (v := 95) hx hb d_M_init_2427 (by decide) k) d_M_init_2429 (by decide) (vq (by decide)) (by decide) (fun H locs hP hD hS => ?_)
  refine ba_step (i := 164) (x := 102) hx hb hK hP hD hS 0 rfl d_M_init_2430 (fun st k => lv_sipush (v := 164) hx hb d_M_init_2431 (by decide) k) (fun st k => lv_bipush (v := 102) hx hb d_M_init_2434 (by decide) k) d_M_init_2436 (by decide) (vq (by decide)) (by decide) (fun H locs hP hD hS => ?_)
  refine ba_step (i := 165) (x := 117) hx hb hK hP hD hS 0 rfl d_M_init_2437 (fun st k => lv_sipush (v := 165) hx hb d_M_init_2438 (by decide) k) (fun st k => lv_bipush (v := 117) hx hb d_M_init_2441 (by decide) k) d_M_init_2443 (by decide) (vq (by decide)) (by decide) (fun H locs hP hD hS => ?_)
  refine ba_step (i := 166) (x := 110) hx hb hK hP hD hS 0 rfl d_M_init_2444 (fun st k => lv_sipush (v := 166) hx hb d_M_init_2445 (by decide) k) (fun st k => lv_bipush (v := 110) hx hb d_M_init_2448 (by decide) k) d_M_init_2450 (by decide) (vq (by decide)) (by decide) (fun H locs hP hD hS => ?_)
  refine ba_step (i := 167) (x := 1) hx hb hK hP hD hS 0 rfl d_M_init_2451 (fun st k => lv_sipush (v := 167) hx hb d_M_init_2452 (by decide) k) (fun st k => lv_iconst (v := 1) hx hb d_M_init_2455 (by decide) k) d_M_init_2456 (by decide) (vq (by decide)) (by decide) (fun H locs hP hD hS => ?_)
  refine ba_step (i := 168) (x := 10) hx hb hK hP hD hS 0 rfl d_M_init_2457 (fun st k => lv_sipush (v := 168) hx hb d_M_init_2458 (by decide) k) (fun st k => lv_bipush (v := 10) hx hb d_M_init_2461 (by decide) k) d_M_init_2463 (by decide) (vq (by decide)) (by decide) (fun H locs hP hD hS => ?_)
  refine ba_step (i := 169) (x := 105) hx hb hK hP hD hS 0 rfl d_M_init_2464 (fun st k => lv_sipush (v := 169) hx hb d_M_init_2465 (by decide) k) (fun st k => lv_bipush (v := 105) hx hb d_M_init_2468 (by decide) k) d_M_init_2470 (by decide) (vq (by decide)) (by decide) (fun H locs hP hD hS => ?_)
  refine ba_step (i := 170) (x := 115) hx hb hK hP hD hS 0 rfl d_M_init_2471 (fun st k => lv_sipush (v := 170) hx hb d_M_init_2472 (by decide) k) (fun st k => lv_bipush (v := 115) hx hb d_M_init_2475 (by decide) k) d_M_init_2477 (by decide) (vq (by decide)) (by decide) (fun H locs hP hD hS => ?_)
  refine ba_step (i := 171) (x := 95) hx hb hK hP hD hS 0 rfl d_M_init_2478 (fun st k => lv_sipush (v := 171) hx hb d_M_init_2479 (by decide) k) (fun st k => lv_bipush (v := 95) hx hb d_M_init_2482 (by decide) k) d_M_init_2484 (by decide) (vq (by decide)) (by decide) (fun H locs hP hD hS => ?_)
  refine ba_step (i := 172) (x := 112) hx hb hK hP hD hS 0 rfl d_M_init_2485 (fun st k => lv_sipush (v := 172) hx hb d_M_init_2486 (by decide) k) (fun st k => lv_bipush (v := 112) hx hb d_M_init_2489 (by decide) k) d_M_init_2491 (by decide) (vq (by decide)) (by decide) (fun H locs hP hD hS => ?_)
  refine ba_step (i := 173) (x := 114) hx hb hK hP hD hS 0 rfl d_M_init_2492 (fun st k => lv_sipush (v := 173) hx hb d_M_init_2493 (by decide) k) (fun st k => lv_bipush (v := 114) hx hb d_M_init_2496 (by decide) k) d_M_init_2498 (by decide) (vq (by decide)) (by decide) (fun H locs hP hD hS => ?_)
  refine ba_step (i := 174) (x := 111) hx hb hK hP hD hS 0 rfl d_M_init_2499 (fun st k => lv_sipush (v := 174) hx hb d_M_init_2500 (by decide) k) (fun st k => lv_bipush (v := 111) hx hb d_M_init_2503 (by decide) k) d_M_init_2505 (by decide) (vq (by decide)) (by decide) (fun H locs hP hD hS => ?_)
  refine ba_step (i := 175) (x := 99) hx hb hK hP hD hS 0 rfl d_M_init_2506 (fun st k => lv_sipush (v := 175) hx hb d_M_init_2507 (by decide) k) (fun st k => lv_bipush (v := 99) hx hb d_M_init_2510 (by decide) k) d_M_init_2512 (by decide) (vq (by decide)) (by decide) (fun H locs hP hD hS => ?_)
  refine ba_step (i := 176) (x := 101) hx hb hK hP hD hS 0 rfl d_M_init_2513 (fun st k => lv_sipush (v := 176) hx hb d_M_init_2514 (by decide) k) (fun st k => lv_bipush (v := 101) hx hb d_M_init_2517 (by decide) k) d_M_init_2519 (by decide) (vq (by decide)) (by decide) (fun H locs hP hD hS => ?_)
  refine ba_step (i := 177) (x := 115) hx hb hK hP hD hS 0 rfl d_M_init_2520 (fun st k => lv_sipush (v := 177) hx hb d_M_init_2521 (by decide) k) (fun st k => lv_bipush (v := 115) hx hb d_M_init_2524 (by decide) k) d_M_init_2526 (by decide) (vq (by decide)) (by decide) (fun H locs hP hD hS => ?_)
  refine ba_step (i := 178) (x := 115) hx hb hK hP hD hS 0 rfl d_M_init_2527 (fun st k => lv_sipush (v := 178) hx hb d_M_init_2528 (by decide) k) (fun st k => lv_bipush (v := 115) hx hb d_M_init_2531 (by decide) k) d_M_init_2533 (by decide) (vq (by decide)) (by decide) (fun H locs hP hD hS => ?_)
  refine ba_step (i := 179) (x := 1) hx hb hK hP hD hS 0 rfl d_M_init_2534 (fun st k => lv_sipush (v := 179) hx hb d_M_init_2535 (by decide) k) (fun st k => lv_iconst (v := 1) hx hb d_M_init_2538 (by decide) k) d_M_init_2539 (by decide) (vq (by decide)) (by decide) (fun H locs hP hD hS => ?_)
  refine ba_step (i := 180) (x := 6) hx hb hK hP hD hS 0 rfl d_M_init_2540 (fun st k => lv_sipush (v := 180) hx hb d_M_init_2541 (by decide) k) (fun st k => lv_bipush (v := 6) hx hb d_M_init_2544 (by decide) k) d_M_init_2546 (by decide) (vq (by decide)) (by decide) (fun H locs hP hD hS => ?_)
  refine ba_step (i := 181) (x := 105) hx hb hK hP hD hS 0 rfl d_M_init_2547 (fun st k => lv_sipush (v := 181) hx hb d_M_init_2548 (by decide) k) (fun st k => lv_bipush (v := 105) hx hb d_M_init_2551 (by decide) k) d_M_init_2553 (by decide) (vq (by decide)) (by decide) (fun H locs hP hD hS => ?_)
  refine ba_step (i := 182) (x := 115) hx hb hK hP hD hS 0 rfl d_M_init_2554 (fun st k => lv_sipush (v := 182) hx hb d_M_init_2555 (by decide) k) (fun st k => lv_bipush (v := 115) hx hb d_M_init_2558 (by decide) k) d_M_init_2560 (by decide) (vq (by decide)) (by decide) (fun H locs hP hD hS => ?_)
  refine ba_step (i := 183) (x := 95) hx hb hK hP hD hS 0 rfl d_M_init_2561 (fun st k => lv_sipush (v := 183) hx hb d_M_init_2562 (by decide) k) (fun st k => lv_bipush (v := 95) hx hb d_M_init_2565 (by decide) k) d_M_init_2567 (by decide) (vq (by decide)) (by decide) (fun H locs hP hD hS => ?_)
  refine ba_step (i := 184) (x := 114) hx hb hK hP hD hS 0 rfl d_M_init_2568 (fun st k => lv_sipush (v := 184) hx hb d_M_init_2569 (by decide) k) (fun st k => lv_bipush (v := 114) hx hb d_M_init_2572 (by decide) k) d_M_init_2574 (by decide) (vq (by decide)) (by decide) (fun H locs hP hD hS => ?_)
  refine ba_step (i := 185) (x := 101) hx hb hK hP hD hS 0 rfl d_M_init_2575 (fun st k => lv_sipush (v := 185) hx hb d_M_init_2576 (by decide) k) (fun st k => lv_bipush (v := 101) hx hb d_M_init_2579 (by decide) k) d_M_init_2581 (by decide) (vq (by decide)) (by decide) (fun H locs hP hD hS => ?_)
  refine ba_step (i := 186) (x := 102) hx hb hK hP hD hS 0 rfl d_M_init_2582 (fun st k => lv_sipush (v := 186) hx hb d_M_init_2583 (by decide) k) (fun st k => lv_bipush (v := 102) hx hb d_M_init_2586 (by decide) k) d_M_init_2588 (by decide) (vq (by decide)) (by decide) (fun H locs hP hD hS => ?_)
  refine ba_step (i := 187) (x := 1) hx hb hK hP hD hS 0 rfl d_M_init_2589 (fun st k => lv_sipush (v := 187) hx hb d_M_init_2590 (by decide) k) (fun st k => lv_iconst (v := 1) hx hb d_M_init_2593 (by decide) k) d_M_init_2594 (by decide) (vq (by decide)) (by decide) (fun H locs hP hD hS => ?_)
  refine ba_step (i := 188) (x := 2) hx hb hK hP hD hS 0 rfl d_M_init_2595 (fun st k => lv_sipush (v := 188) hx hb d_M_init_2596 (by decide) k) (fun st k => lv_iconst (v := 2) hx hb d_M_init_2599 (by decide) k) d_M_init_2600 (by decide) (vq (by decide)) (by decide) (fun H locs hP hD hS => ?_)
  refine ba_step (i := 189) (x := 104) hx hb hK hP hD hS 0 rfl d_M_init_2601 (fun st k => lv_sipush (v := 189) hx hb d_M_init_2602 (by decide) k) (fun st k => lv_bipush (v := 104) hx hb d_M_init_2605 (by decide) k) d_M_init_2607 (by decide) (vq (by decide)) (by decide) (fun H locs hP hD hS => ?_)
  refine ba_step (i := 190) (x := 100) hx hb hK hP hD hS 0 rfl d_M_init_2608 (fun st k => lv_sipush (v := 190) hx hb d_M_init_2609 (by decide) k) (fun st k => lv_bipush (v := 100) hx hb d_M_init_2612 (by decide) k) d_M_init_2614 (by decide) (vq (by decide)) (by decide) (fun H locs hP hD hS => ?_)
  refine ba_step (i := 191) (x := 1) hx hb hK hP hD hS 0 rfl d_M_init_2615 (fun st k => lv_sipush (v := 191) hx hb d_M_init_2616 (by decide) k) (fun st k => lv_iconst (v := 1) hx hb d_M_init_2619 (by decide) k) d_M_init_2620 (by decide) (vq (by decide)) (by decide) (fun H locs hP hD hS => ?_)
  refine ba_step (i := 192) (x := 2) hx hb hK hP hD hS 0 rfl d_M_init_2621 (fun st k => lv_sipush (v := 192) hx hb d_M_init_2622 (by decide) k) (fun st k => lv_iconst (v := 2) hx hb d_M_init_2625 (by decide) k) d_M_init_2626 (by decide) (vq (by decide)) (by decide) (fun H locs hP hD hS => ?_)
  refine ba_step (i := 193) (x := 116) hx hb hK hP hD hS 0 rfl d_M_init_2627 (fun st k => lv_sipush (v := 193) hx hb d_M_init_2628 (by decide) k) (fun st k => lv_bipush (v := 116) hx hb d_M_init_2631 (by decide) k) d_M_init_2633 (by decide) (vq (by decide)) (by decide) (fun H locs hP hD hS => ?_)
  refine ba_step (i := 194) (x := 108) hx hb hK hP hD hS 0 rfl d_M_init_2634 (fun st k => lv_sipush (v := 194) hx hb d_M_init_2635 (by decide) k) (fun st k => lv_bipush (v := 108) hx hb d_M_init_2638 (by decide) k) d_M_init_2640 (by decide) (vq (by decide)) (by decide) (fun H locs hP hD hS => ?_)
  refine ba_step (i := 195) (x := 1) hx hb hK hP hD hS 0 rfl d_M_init_2641 (fun st k => lv_sipush (v := 195) hx hb d_M_init_2642 (by decide) k) (fun st k => lv_iconst (v := 1) hx hb d_M_init_2645 (by decide) k) d_M_init_2646 (by decide) (vq (by decide)) (by decide) (fun H locs hP hD hS => ?_)
  refine ba_step (i := 196) (x := 6) hx hb hK hP hD hS 0 rfl d_M_init_2647 (fun st k => lv_sipush (v := 196) hx hb d_M_init_2648 (by decide) k) (fun st k => lv_bipush (v := 6) hx hb d_M_init_2651 (by decide) k) d_M_init_2653 (by decide) (vq (by decide)) (by decide) (fun H locs hP hD hS => ?_)
  refine ba_step (i := 197) (x := 108) hx hb hK hP hD hS 0 rfl d_M_init_2654 (fun st k => lv_sipush (v := 197) hx hb d_M_init_2655 (by decide) k) (fun st k => lv_bipush (v := 108) hx hb d_M_init_2658 (by decide) k) d_M_init_2660 (by decide) (vq (by decide)) (by decide) (fun H locs hP hD hS => ?_)
  refine ba_step (i := 198) (x := 101) hx hb hK hP hD hS 0 rfl d_M_init_2661 (fun st k => lv_sipush (v := 198) hx hb d_M_init_2662 (by decide) k) (fun st k => lv_bipush (v := 101) hx hb d_M_init_2665 (by decide) k) d_M_init_2667 (by decide) (vq (by decide)) (by decide) (fun H locs hP hD hS => ?_)
  refine ba_step (i := 199) (x := 110) hx hb hK hP hD hS 0 rfl d_M_init_2668 (fun st k => lv_sipush (v := 199) hx hb d_M_init_2669 (by decide) k) (fun st k => lv_bipush (v := 110) hx hb d_M_init_2672 (by decide) k) d_M_init_2674 (by decide) (vq (by decide)) (by decide) (fun H locs hP hD hS => ?_)
  exact kk H locs hP hD hS
set_option maxRecDepth 100000 in
set_option maxHeartbeats 4000000 in
theorem sg_2_200 {p : Program} {l : Launch} {e : Env} {R : Room} {s : State} {m : MethodId} {args : Array Value} {below : List Frame} {meth : Method} {c : Code} {H : Heap} {locs : List Loc} {cells slots : Nat} {Q : State → Prop} {ls : Array Slot} {D : va_G} {cl : List vw_C} {cB cI cJ cZ cS : ClassId} {rst : va_W} {A : Nat → Prop} {H0 : Heap} {iM h0 : Nat} {ob : Nat × va_E} {q2 : Nat} (hx : p.tables.exec = Jvm.exec) (hb : c.code = b_M_init) (ht : ∀ w ∈ wd_tbl, w.before args s = true) (hown : s.vm.findClass R_M = some m.cls) (hM : cl[iM]? = some (R_M, F_M, 171)) (hin : meth.name = "<init>") (hK : va_K D cl (ty5 cB cI cJ cZ cS) s) (hA : ∀ q, H0.size ≤ q → A q) (hl : ls[0]? = some (.val (.ref h0))) (hP : va_P D cl (ob :: (q2, .inl (cB, 218, .inl (tk tb_2 200))) :: rst) H) (hD : va_D A (ob :: (q2, .inl (cB, 218, .inl (tk tb_2 200))) :: rst)) (hS : va_S A H0 H locs)
    (kk : ∀ (H1 : Heap) (locs1 : List Loc), va_P D cl (ob :: (q2, .inl (cB, 218, .inl (tk tb_2 218))) :: rst) H1 → va_D A (ob :: (q2, .inl (cB, 218, .inl (tk tb_2 218))) :: rst) → va_S A H0 H1 locs1 → W p l e R s m args below meth c H1 locs1 cells slots Q (F0 m 2798 ls [.ref q2, .ref h0])) :
    W p l e R s m args below meth c H locs cells slots Q (F0 m 2675 ls [.ref q2, .ref h0]) := by
  refine ba_step (i := 200) (x := 103) hx hb hK hP hD hS 0 rfl d_M_init_2675 (fun st k => lv_sipush (v := 200) hx hb d_M_init_2676 (by decide) k) (fun st k => lv_bipush (v := 103) hx hb d_M_init_2679 (by decide) k) d_M_init_2681 (by decide) (vq (by decide)) (by decide) (fun H locs hP hD hS => ?_)
  refine ba_step (i := 201) (x := 116) hx hb hK hP hD hS 0 rfl d_M_init_2682 (fun st k => lv_sipush (v := 201) hx hb d_M_init_2683 (by decide) k) (fun st k => lv_bipush (v := 116) hx hb d_M_init_2686 (by decide) k) d_M_init_2688 (by decide) (vq (by decide)) (by decide) (fun H locs hP hD hS => ?_)
  refine ba_step (i := 202) (x := 104) hx hb hK hP hD hS 0 rfl d_M_init_2689 (fun st k => lv_sipush (v := 202) hx hb d_M_init_2690 (by decide) k) (fun st k => lv_bipush (v := 104) hx hb d_M_init_2693 (by decide) k) d_M_init_2695 (by decide) (vq (by decide)) (by decide) (fun H locs hP hD hS => ?_)
  refine ba_step (i := 203) (x := 2) hx hb hK hP hD hS 0 rfl d_M_init_2696 (fun st k => lv_sipush (v := 203) hx hb d_M_init_2697 (by decide) k) (fun st k => lv_iconst (v := 2) hx hb d_M_init_2700 (by decide) k) d_M_init_2701 (by decide) (vq (by decide)) (by decide) (fun H locs hP hD hS => ?_)
  refine ba_step (i := 204) (x := 7) hx hb hK hP hD hS 0 rfl d_M_init_2702 (fun st k => lv_sipush (v := 204) hx hb d_M_init_2703 (by decide) k) (fun st k => lv_bipush (v := 7) hx hb d_M_init_2706 (by decide) k) d_M_init_2708 (by decide) (vq (by decide)) (by decide) (fun H locs hP hD hS => ?_)
  refine ba_step (i := 205) (x := 101) hx hb hK hP hD hS 0 rfl d_M_init_2709 (fun st k => lv_sipush (v := 205) hx hb d_M_init_2710 (by decide) k) (fun st k => lv_bipush (v := 101) hx hb d_M_init_2713 (by decide) k) d_M_init_2715 (by decide) (vq (by decide)) (by decide) (fun H locs hP hD hS => ?_)
  refine ba_step (i := 206) (x := 108) hx hb hK hP hD hS 0 rfl d_M_init_2716 (fun st k => lv_sipush (v := 206) hx hb d_M_init_2717 (by decide) k) (fun st k => lv_bipush (v := 108) hx hb d_M_init_2720 (by decide) k) d_M_init_2722 (by decide) (vq (by decide)) (by decide) (fun H locs hP hD hS => ?_)
  refine ba_step (i := 207) (x := 101) hx hb hK hP hD hS 0 rfl d_M_init_2723 (fun st k => lv_sipush (v := 207) hx hb d_M_init_2724 (by decide) k) (fun st k => lv_bipush (v := 101) hx hb d_M_init_2727 (by decide) k) d_M_init_2729 (by decide) (vq (by decide)) (by decide) (fun H locs hP hD hS => ?_)
  refine ba_step (i := 208) (x := 109) hx hb hK hP hD hS 0 rfl d_M_init_2730 (fun st k => lv_sipush (v := 208) hx hb d_M_init_2731 (by decide) k) (fun st k => lv_bipush (v := 109) hx hb d_M_init_2734 (by decide) k) d_M_init_2736 (by decide) (vq (by decide)) (by decide) (fun H locs hP hD hS => ?_)
  refine ba_step (i := 209) (x := 101) hx hb hK hP hD hS 0 rfl d_M_init_2737 (fun st k => lv_sipush (v := 209) hx hb d_M_init_2738 (by decide) k) (fun st k => lv_bipush (v := 101) hx hb d_M_init_2741 (by decide) k) d_M_init_2743 (by decide) (vq (by decide)) (by decide) (fun H locs hP hD hS => ?_)
  refine ba_step (i := 210) (x := 110) hx hb hK hP hD hS 0 rfl d_M_init_2744 (fun st k => lv_sipush (v := 210) hx hb d_M_init_2745 (by decide) k) (fun st k => lv_bipush (v := 110) hx hb d_M_init_2748 (by decide) k) d_M_init_2750 (by decide) (vq (by decide)) (by decide) (fun H locs hP hD hS => ?_)
  refine ba_step (i := 211) (x := 116) hx hb hK hP hD hS 0 rfl d_M_init_2751 (fun st k => lv_sipush (v := 211) hx hb d_M_init_2752 (by decide) k) (fun st k => lv_bipush (v := 116) hx hb d_M_init_2755 (by decide) k) d_M_init_2757 (by decide) (vq (by decide)) (by decide) (fun H locs hP hD hS => ?_)
  refine ba_step (i := 212) (x := 1) hx hb hK hP hD hS 0 rfl d_M_init_2758 (fun st k => lv_sipush (v := 212) hx hb d_M_init_2759 (by decide) k) (fun st k => lv_iconst (v := 1) hx hb d_M_init_2762 (by decide) k) d_M_init_2763 (by decide) (vq (by decide)) (by decide) (fun H locs hP hD hS => ?_)
  refine ba_step (i := 213) (x := 4) hx hb hK hP hD hS 0 rfl d_M_init_2764 (fun st k => lv_sipush (v := 213) hx hb d_M_init_2765 (by decide) k) (fun st k => lv_iconst (v := 4) hx hb d_M_init_2768 (by decide) k) d_M_init_2769 (by decide) (vq (by decide)) (by decide) (fun H locs hP hD hS => ?_)
  refine ba_step (i := 214) (x := 115) hx hb hK hP hD hS 0 rfl d_M_init_2770 (fun st k => lv_sipush (v := 214) hx hb d_M_init_2771 (by decide) k) (fun st k => lv_bipush (v := 115) hx hb d_M_init_2774 (by decide) k) d_M_init_2776 (by decide) (vq (by decide)) (by decide) (fun H locs hP hD hS => ?_)
  refine ba_step (i := 215) (x := 105) hx hb hK hP hD hS 0 rfl d_M_init_2777 (fun st k => lv_sipush (v := 215) hx hb d_M_init_2778 (by decide) k) (fun st k => lv_bipush (v := 105) hx hb d_M_init_2781 (by decide) k) d_M_init_2783 (by decide) (vq (by decide)) (by decide) (fun H locs hP hD hS => ?_)
  refine ba_step (i := 216) (x := 122) hx hb hK hP hD hS 0 rfl d_M_init_2784 (fun st k => lv_sipush (v := 216) hx hb d_M_init_2785 (by decide) k) (fun st k => lv_bipush (v := 122) hx hb d_M_init_2788 (by decide) k) d_M_init_2790 (by decide) (vq (by decide)) (by decide) (fun H locs hP hD hS => ?_)
  refine ba_step (i := 217) (x := 101) hx hb hK hP hD hS 0 rfl d_M_init_2791 (fun st k => lv_sipush (v := 217) hx hb d_M_init_2792 (by decide) k) (fun st k => lv_bipush (v := 101) hx hb d_M_init_2795 (by decide) k) d_M_init_2797 (by decide) (vq (by decide)) (by decide) (fun H locs hP hD hS => ?_)
  exact kk H locs hP hD hS
set_option maxRecDepth 100000 in
set_option maxHeartbeats 4000000 in
theorem sg_2 {p : Program} {l : Launch} {e : Env} {R : Room} {s : State} {m : MethodId} {args : Array Value} {below : List Frame} {meth : Method} {c : Code} {H : Heap} {locs : List Loc} {cells slots : Nat} {Q : State → Prop} {ls : Array Slot} {D : va_G} {cl : List vw_C} {cB cI cJ cZ cS : ClassId} {rst : va_W} {A : Nat → Prop} {H0 : Heap} {iM h0 : Nat} {V : Nat → Value} (hx : p.tables.exec = Jvm.exec) (hb : c.code = b_M_init) (ht : ∀ w ∈ wd_tbl, w.before args s = true) (hown : s.vm.findClass R_M = some m.cls) (hM : cl[iM]? = some (R_M, F_M, 171)) (hin : meth.name = "<init>") (hK : va_K D cl (ty5 cB cI cJ cZ cS) s) (hA : ∀ q, H0.size ≤ q → A q) (hl : ls[0]? = some (.val (.ref h0))) (hP : va_P D cl ((h0, .inr (iM, fl 171 V)) :: rst) H) (hD : va_D A ((h0, .inr (iM, fl 171 V)) :: rst)) (hS : va_S A H0 H locs) (hc : cells + 1 ≤ R.cells) (hs : slots + 218 ≤ R.slots)
    (kk : ∀ (q2 : Nat) (H1 : Heap) (locs1 : List Loc), va_P D cl ((h0, .inr (iM, fl 171 (va_up V 2 (.ref q2)))) :: (q2, .inl (cB, 218, .inl (tk tb_2 218))) :: rst) H1 → va_D A ((h0, .inr (iM, fl 171 (va_up V 2 (.ref q2)))) :: (q2, .inl (cB, 218, .inl (tk tb_2 218))) :: rst) → va_S A H0 H1 locs1 → W p l e R s m args below meth c H1 locs1 (cells + 1) (slots + 218) Q (F0 m 2801 ls [])) :
    W p l e R s m args below meth c H locs cells slots Q (F0 m 1448 ls []) := by
  refine mk_open (n := 218) (N := 218) (a0 := (218, .inl (fun _ => 0))) (ty := .byte) hx hb hK hA hl hP hD hS d_M_init_1448 (fun st k => lv_sipush (v := 218) hx hb d_M_init_1449 (by decide) k) d_M_init_1452 (ht _ ac_byte) rfl (fun _ h => by cases h) 0 rfl (fun _ => rfl) (by decide) (by decide) (by decide) (by omega) (by omega) (fun q2 H hP hD hS => ?_)
  rw [tk_0 tb_2] at hP hD
  refine sg_2_0 hx hb ht hown hM hin hK hA hl hP hD hS (fun H locs hP hD hS => ?_)
  refine sg_2_40 hx hb ht hown hM hin hK hA hl hP hD hS (fun H locs hP hD hS => ?_)
  refine sg_2_80 hx hb ht hown hM hin hK hA hl hP hD hS (fun H locs hP hD hS => ?_)
  refine sg_2_120 hx hb ht hown hM hin hK hA hl hP hD hS (fun H locs hP hD hS => ?_)
  refine sg_2_160 hx hb ht hown hM hin hK hA hl hP hD hS (fun H locs hP hD hS => ?_)
  refine sg_2_200 hx hb ht hown hM hin hK hA hl hP hD hS (fun H locs hP hD hS => ?_)
  refine mf_putF hx hb ht hown hM hK hP hD hS 0 rfl 2 (by decide) lk_M_2 rfl hin rfl rfl d_M_init_2798 (fun H locs hP hD hS => ?_)
  exact kk q2 H locs hP hD hS
set_option maxRecDepth 100000 in
set_option maxHeartbeats 4000000 in
theorem sg_3 {p : Program} {l : Launch} {e : Env} {R : Room} {s : State} {m : MethodId} {args : Array Value} {below : List Frame} {meth : Method} {c : Code} {H : Heap} {locs : List Loc} {cells slots : Nat} {Q : State → Prop} {ls : Array Slot} {D : va_G} {cl : List vw_C} {cB cI cJ cZ cS : ClassId} {rst : va_W} {A : Nat → Prop} {H0 : Heap} {iM h0 : Nat} {V : Nat → Value} (hx : p.tables.exec = Jvm.exec) (hb : c.code = b_M_init) (ht : ∀ w ∈ wd_tbl, w.before args s = true) (hown : s.vm.findClass R_M = some m.cls) (hM : cl[iM]? = some (R_M, F_M, 171)) (hin : meth.name = "<init>") (hK : va_K D cl (ty5 cB cI cJ cZ cS) s) (hA : ∀ q, H0.size ≤ q → A q) (hl : ls[0]? = some (.val (.ref h0))) (hP : va_P D cl ((h0, .inr (iM, fl 171 V)) :: rst) H) (hD : va_D A ((h0, .inr (iM, fl 171 V)) :: rst)) (hS : va_S A H0 H locs) (hc : cells + 10 ≤ R.cells) (hs : slots + 36410 ≤ R.slots)
    (kk : ∀ (q4 q6 q7 q8 q12 q13 q15 q16 q18 q19 : Nat) (H1 : Heap) (locs1 : List Loc), va_P D cl ((h0, .inr (iM, fl 171 (va_up (va_up (va_up (va_up (va_up (va_up (va_up (va_up (va_up (va_up V 4 (.ref q4)) 6 (.ref q6)) 7 (.ref q7)) 8 (.ref q8)) 12 (.ref q12)) 13 (.ref q13)) 15 (.ref q15)) 16 (.ref q16)) 18 (.ref q18)) 19 (.ref q19)))) :: ((q19, .inl (cI, (2002, .inl (fun _ => 0)))) :: ((q18, .inl (cB, (4002, .inl (fun _ => 0)))) :: ((q16, .inl (cI, (2200, .inl (fun _ => 0)))) :: ((q15, .inl (cB, (5000, .inl (fun _ => 0)))) :: ((q13, .inl (cI, (2200, .inl (fun _ => 0)))) :: ((q12, .inl (cB, (5000, .inl (fun _ => 0)))) :: ((q8, .inl (cI, (4002, .inl (fun _ => 0)))) :: ((q7, .inl (cI, (4002, .inl (fun _ => 0)))) :: ((q6, .inl (cB, (4002, .inl (fun _ => 0)))) :: ((q4, .inl (cB, (4000, .inl (fun _ => 0)))) :: rst))))))))))) H1 → va_D A ((h0, .inr (iM, fl 171 (va_up (va_up (va_up (va_up (va_up (va_up (va_up (va_up (va_up (va_up V 4 (.ref q4)) 6 (.ref q6)) 7 (.ref q7)) 8 (.ref q8)) 12 (.ref q12)) 13 (.ref q13)) 15 (.ref q15)) 16 (.ref q16)) 18 (.ref q18)) 19 (.ref q19)))) :: ((q19, .inl (cI, (2002, .inl (fun _ => 0)))) :: ((q18, .inl (cB, (4002, .inl (fun _ => 0)))) :: ((q16, .inl (cI, (2200, .inl (fun _ => 0)))) :: ((q15, .inl (cB, (5000, .inl (fun _ => 0)))) :: ((q13, .inl (cI, (2200, .inl (fun _ => 0)))) :: ((q12, .inl (cB, (5000, .inl (fun _ => 0)))) :: ((q8, .inl (cI, (4002, .inl (fun _ => 0)))) :: ((q7, .inl (cI, (4002, .inl (fun _ => 0)))) :: ((q6, .inl (cB, (4002, .inl (fun _ => 0)))) :: ((q4, .inl (cB, (4000, .inl (fun _ => 0)))) :: rst))))))))))) → va_S A H0 H1 locs1 → W p l e R s m args below meth c H1 locs1 (cells + 10) (slots + 36410) Q (F0 m 2891 ls [])) :
    W p l e R s m args below meth c H locs cells slots Q (F0 m 2801 ls []) := by
  refine mk_arr (n := 4000) (N := 4000) (a0 := (4000, .inl (fun _ => 0))) (ty := .byte) hx hb ht hown hM hin hK hA hl hP hD hS d_M_init_2801 (fun st k => lv_sipush (v := 4000) hx hb d_M_init_2802 (by decide) k) d_M_init_2805 d_M_init_2807 ac_byte rfl (fun _ h => by cases h) 0 rfl (fun _ => rfl) (by decide) (by decide) (by decide) (by omega) (by omega) 4 (by decide) lk_M_4 rfl (fun _ => rfl) (fun _ => rfl) (fun q4 H locs hP hD hS => ?_)
  refine mk_arr (n := 4002) (N := 4002) (a0 := (4002, .inl (fun _ => 0))) (ty := .byte) hx hb ht hown hM hin hK hA hl hP hD hS d_M_init_2810 (fun st k => lv_sipush (v := 4002) hx hb d_M_init_2811 (by decide) k) d_M_init_2814 d_M_init_2816 ac_byte rfl (fun _ h => by cases h) 0 rfl (fun _ => rfl) (by decide) (by decide) (by decide) (by omega) (by omega) 6 (by decide) lk_M_6 rfl (fun _ => rfl) (fun _ => rfl) (fun q6 H locs hP hD hS => ?_)
  refine mk_arr (n := 4002) (N := 4002) (a0 := (4002, .inl (fun _ => 0))) (ty := .int) hx hb ht hown hM hin hK hA hl hP hD hS d_M_init_2819 (fun st k => lv_sipush (v := 4002) hx hb d_M_init_2820 (by decide) k) d_M_init_2823 d_M_init_2825 ac_int rfl (fun _ h => by cases h) 1 rfl (fun _ => rfl) (by decide) (by decide) (by decide) (by omega) (by omega) 7 (by decide) lk_M_7 rfl (fun _ => rfl) (fun _ => rfl) (fun q7 H locs hP hD hS => ?_)
  refine mk_arr (n := 4002) (N := 4002) (a0 := (4002, .inl (fun _ => 0))) (ty := .int) hx hb ht hown hM hin hK hA hl hP hD hS d_M_init_2828 (fun st k => lv_sipush (v := 4002) hx hb d_M_init_2829 (by decide) k) d_M_init_2832 d_M_init_2834 ac_int rfl (fun _ h => by cases h) 1 rfl (fun _ => rfl) (by decide) (by decide) (by decide) (by omega) (by omega) 8 (by decide) lk_M_8 rfl (fun _ => rfl) (fun _ => rfl) (fun q8 H locs hP hD hS => ?_)
  refine mk_arr (n := 5000) (N := 5000) (a0 := (5000, .inl (fun _ => 0))) (ty := .byte) hx hb ht hown hM hin hK hA hl hP hD hS d_M_init_2837 (fun st k => lv_sipush (v := 5000) hx hb d_M_init_2838 (by decide) k) d_M_init_2841 d_M_init_2843 ac_byte rfl (fun _ h => by cases h) 0 rfl (fun _ => rfl) (by decide) (by decide) (by decide) (by omega) (by omega) 12 (by decide) lk_M_12 rfl (fun _ => rfl) (fun _ => rfl) (fun q12 H locs hP hD hS => ?_)
  refine mk_arr (n := 2200) (N := 2200) (a0 := (2200, .inl (fun _ => 0))) (ty := .int) hx hb ht hown hM hin hK hA hl hP hD hS d_M_init_2846 (fun st k => lv_sipush (v := 2200) hx hb d_M_init_2847 (by decide) k) d_M_init_2850 d_M_init_2852 ac_int rfl (fun _ h => by cases h) 1 rfl (fun _ => rfl) (by decide) (by decide) (by decide) (by omega) (by omega) 13 (by decide) lk_M_13 rfl (fun _ => rfl) (fun _ => rfl) (fun q13 H locs hP hD hS => ?_)
  refine mk_arr (n := 5000) (N := 5000) (a0 := (5000, .inl (fun _ => 0))) (ty := .byte) hx hb ht hown hM hin hK hA hl hP hD hS d_M_init_2855 (fun st k => lv_sipush (v := 5000) hx hb d_M_init_2856 (by decide) k) d_M_init_2859 d_M_init_2861 ac_byte rfl (fun _ h => by cases h) 0 rfl (fun _ => rfl) (by decide) (by decide) (by decide) (by omega) (by omega) 15 (by decide) lk_M_15 rfl (fun _ => rfl) (fun _ => rfl) (fun q15 H locs hP hD hS => ?_)
  refine mk_arr (n := 2200) (N := 2200) (a0 := (2200, .inl (fun _ => 0))) (ty := .int) hx hb ht hown hM hin hK hA hl hP hD hS d_M_init_2864 (fun st k => lv_sipush (v := 2200) hx hb d_M_init_2865 (by decide) k) d_M_init_2868 d_M_init_2870 ac_int rfl (fun _ h => by cases h) 1 rfl (fun _ => rfl) (by decide) (by decide) (by decide) (by omega) (by omega) 16 (by decide) lk_M_16 rfl (fun _ => rfl) (fun _ => rfl) (fun q16 H locs hP hD hS => ?_)
  refine mk_arr (n := 4002) (N := 4002) (a0 := (4002, .inl (fun _ => 0))) (ty := .byte) hx hb ht hown hM hin hK hA hl hP hD hS d_M_init_2873 (fun st k => lv_sipush (v := 4002) hx hb d_M_init_2874 (by decide) k) d_M_init_2877 d_M_init_2879 ac_byte rfl (fun _ h => by cases h) 0 rfl (fun _ => rfl) (by decide) (by decide) (by decide) (by omega) (by omega) 18 (by decide) lk_M_18 rfl (fun _ => rfl) (fun _ => rfl) (fun q18 H locs hP hD hS => ?_)
  refine mk_arr (n := 2002) (N := 2002) (a0 := (2002, .inl (fun _ => 0))) (ty := .int) hx hb ht hown hM hin hK hA hl hP hD hS d_M_init_2882 (fun st k => lv_sipush (v := 2002) hx hb d_M_init_2883 (by decide) k) d_M_init_2886 d_M_init_2888 ac_int rfl (fun _ h => by cases h) 1 rfl (fun _ => rfl) (by decide) (by decide) (by decide) (by omega) (by omega) 19 (by decide) lk_M_19 rfl (fun _ => rfl) (fun _ => rfl) (fun q19 H locs hP hD hS => ?_)
  refine W.widen (k := cells + 10) (n := slots + 36410) (by omega) (by omega) ?_
  exact kk q4 q6 q7 q8 q12 q13 q15 q16 q18 q19 H locs hP hD hS
def tb_21 : List Int32 := [45, 62, 10, 61, 61, 12, 47, 61, 13, 61, 60, 15, 62, 61, 17, 43, 43, 22, 45, 45, 23]
set_option maxRecDepth 100000 in
set_option maxHeartbeats 4000000 in
theorem sg_4_0 {p : Program} {l : Launch} {e : Env} {R : Room} {s : State} {m : MethodId} {args : Array Value} {below : List Frame} {meth : Method} {c : Code} {H : Heap} {locs : List Loc} {cells slots : Nat} {Q : State → Prop} {ls : Array Slot} {D : va_G} {cl : List vw_C} {cB cI cJ cZ cS : ClassId} {rst : va_W} {A : Nat → Prop} {H0 : Heap} {iM h0 : Nat} {ob : Nat × va_E} {q21 : Nat} (hx : p.tables.exec = Jvm.exec) (hb : c.code = b_M_init) (ht : ∀ w ∈ wd_tbl, w.before args s = true) (hown : s.vm.findClass R_M = some m.cls) (hM : cl[iM]? = some (R_M, F_M, 171)) (hin : meth.name = "<init>") (hK : va_K D cl (ty5 cB cI cJ cZ cS) s) (hA : ∀ q, H0.size ≤ q → A q) (hl : ls[0]? = some (.val (.ref h0))) (hP : va_P D cl (ob :: (q21, .inl (cB, 21, .inl (tk tb_21 0))) :: rst) H) (hD : va_D A (ob :: (q21, .inl (cB, 21, .inl (tk tb_21 0))) :: rst)) (hS : va_S A H0 H locs)
    (kk : ∀ (H1 : Heap) (locs1 : List Loc), va_P D cl (ob :: (q21, .inl (cB, 21, .inl (tk tb_21 21))) :: rst) H1 → va_D A (ob :: (q21, .inl (cB, 21, .inl (tk tb_21 21))) :: rst) → va_S A H0 H1 locs1 → W p l e R s m args below meth c H1 locs1 cells slots Q (F0 m 3016 ls [.ref q21, .ref h0])) :
    W p l e R s m args below meth c H locs cells slots Q (F0 m 2896 ls [.ref q21, .ref h0]) := by
  refine ba_step (i := 0) (x := 45) hx hb hK hP hD hS 0 rfl d_M_init_2896 (fun st k => lv_iconst (v := 0) hx hb d_M_init_2897 (by decide) k) (fun st k => lv_bipush (v := 45) hx hb d_M_init_2898 (by decide) k) d_M_init_2900 (by decide) (vq (by decide)) (by decide) (fun H locs hP hD hS => ?_)
  refine ba_step (i := 1) (x := 62) hx hb hK hP hD hS 0 rfl d_M_init_2901 (fun st k => lv_iconst (v := 1) hx hb d_M_init_2902 (by decide) k) (fun st k => lv_bipush (v := 62) hx hb d_M_init_2903 (by decide) k) d_M_init_2905 (by decide) (vq (by decide)) (by decide) (fun H locs hP hD hS => ?_)
  refine ba_step (i := 2) (x := 10) hx hb hK hP hD hS 0 rfl d_M_init_2906 (fun st k => lv_iconst (v := 2) hx hb d_M_init_2907 (by decide) k) (fun st k => lv_bipush (v := 10) hx hb d_M_init_2908 (by decide) k) d_M_init_2910 (by decide) (vq (by decide)) (by decide) (fun H locs hP hD hS => ?_)
  refine ba_step (i := 3) (x := 61) hx hb hK hP hD hS 0 rfl d_M_init_2911 (fun st k => lv_iconst (v := 3) hx hb d_M_init_2912 (by decide) k) (fun st k => lv_bipush (v := 61) hx hb d_M_init_2913 (by decide) k) d_M_init_2915 (by decide) (vq (by decide)) (by decide) (fun H locs hP hD hS => ?_)
  refine ba_step (i := 4) (x := 61) hx hb hK hP hD hS 0 rfl d_M_init_2916 (fun st k => lv_iconst (v := 4) hx hb d_M_init_2917 (by decide) k) (fun st k => lv_bipush (v := 61) hx hb d_M_init_2918 (by decide) k) d_M_init_2920 (by decide) (vq (by decide)) (by decide) (fun H locs hP hD hS => ?_)
  refine ba_step (i := 5) (x := 12) hx hb hK hP hD hS 0 rfl d_M_init_2921 (fun st k => lv_iconst (v := 5) hx hb d_M_init_2922 (by decide) k) (fun st k => lv_bipush (v := 12) hx hb d_M_init_2923 (by decide) k) d_M_init_2925 (by decide) (vq (by decide)) (by decide) (fun H locs hP hD hS => ?_)
  refine ba_step (i := 6) (x := 47) hx hb hK hP hD hS 0 rfl d_M_init_2926 (fun st k => lv_bipush (v := 6) hx hb d_M_init_2927 (by decide) k) (fun st k => lv_bipush (v := 47) hx hb d_M_init_2929 (by decide) k) d_M_init_2931 (by decide) (vq (by decide)) (by decide) (fun H locs hP hD hS => ?_)
  refine ba_step (i := 7) (x := 61) hx hb hK hP hD hS 0 rfl d_M_init_2932 (fun st k => lv_bipush (v := 7) hx hb d_M_init_2933 (by decide) k) (fun st k => lv_bipush (v := 61) hx hb d_M_init_2935 (by decide) k) d_M_init_2937 (by decide) (vq (by decide)) (by decide) (fun H locs hP hD hS => ?_)
  refine ba_step (i := 8) (x := 13) hx hb hK hP hD hS 0 rfl d_M_init_2938 (fun st k => lv_bipush (v := 8) hx hb d_M_init_2939 (by decide) k) (fun st k => lv_bipush (v := 13) hx hb d_M_init_2941 (by decide) k) d_M_init_2943 (by decide) (vq (by decide)) (by decide) (fun H locs hP hD hS => ?_)
  refine ba_step (i := 9) (x := 61) hx hb hK hP hD hS 0 rfl d_M_init_2944 (fun st k => lv_bipush (v := 9) hx hb d_M_init_2945 (by decide) k) (fun st k => lv_bipush (v := 61) hx hb d_M_init_2947 (by decide) k) d_M_init_2949 (by decide) (vq (by decide)) (by decide) (fun H locs hP hD hS => ?_)
  refine ba_step (i := 10) (x := 60) hx hb hK hP hD hS 0 rfl d_M_init_2950 (fun st k => lv_bipush (v := 10) hx hb d_M_init_2951 (by decide) k) (fun st k => lv_bipush (v := 60) hx hb d_M_init_2953 (by decide) k) d_M_init_2955 (by decide) (vq (by decide)) (by decide) (fun H locs hP hD hS => ?_)
  refine ba_step (i := 11) (x := 15) hx hb hK hP hD hS 0 rfl d_M_init_2956 (fun st k => lv_bipush (v := 11) hx hb d_M_init_2957 (by decide) k) (fun st k => lv_bipush (v := 15) hx hb d_M_init_2959 (by decide) k) d_M_init_2961 (by decide) (vq (by decide)) (by decide) (fun H locs hP hD hS => ?_)
  refine ba_step (i := 12) (x := 62) hx hb hK hP hD hS 0 rfl d_M_init_2962 (fun st k => lv_bipush (v := 12) hx hb d_M_init_2963 (by decide) k) (fun st k => lv_bipush (v := 62) hx hb d_M_init_2965 (by decide) k) d_M_init_2967 (by decide) (vq (by decide)) (by decide) (fun H locs hP hD hS => ?_)
  refine ba_step (i := 13) (x := 61) hx hb hK hP hD hS 0 rfl d_M_init_2968 (fun st k => lv_bipush (v := 13) hx hb d_M_init_2969 (by decide) k) (fun st k => lv_bipush (v := 61) hx hb d_M_init_2971 (by decide) k) d_M_init_2973 (by decide) (vq (by decide)) (by decide) (fun H locs hP hD hS => ?_)
  refine ba_step (i := 14) (x := 17) hx hb hK hP hD hS 0 rfl d_M_init_2974 (fun st k => lv_bipush (v := 14) hx hb d_M_init_2975 (by decide) k) (fun st k => lv_bipush (v := 17) hx hb d_M_init_2977 (by decide) k) d_M_init_2979 (by decide) (vq (by decide)) (by decide) (fun H locs hP hD hS => ?_)
  refine ba_step (i := 15) (x := 43) hx hb hK hP hD hS 0 rfl d_M_init_2980 (fun st k => lv_bipush (v := 15) hx hb d_M_init_2981 (by decide) k) (fun st k => lv_bipush (v := 43) hx hb d_M_init_2983 (by decide) k) d_M_init_2985 (by decide) (vq (by decide)) (by decide) (fun H locs hP hD hS => ?_)
  refine ba_step (i := 16) (x := 43) hx hb hK hP hD hS 0 rfl d_M_init_2986 (fun st k => lv_bipush (v := 16) hx hb d_M_init_2987 (by decide) k) (fun st k => lv_bipush (v := 43) hx hb d_M_init_2989 (by decide) k) d_M_init_2991 (by decide) (vq (by decide)) (by decide) (fun H locs hP hD hS => ?_)
  refine ba_step (i := 17) (x := 22) hx hb hK hP hD hS 0 rfl d_M_init_2992 (fun st k => lv_bipush (v := 17) hx hb d_M_init_2993 (by decide) k) (fun st k => lv_bipush (v := 22) hx hb d_M_init_2995 (by decide) k) d_M_init_2997 (by decide) (vq (by decide)) (by decide) (fun H locs hP hD hS => ?_)
  refine ba_step (i := 18) (x := 45) hx hb hK hP hD hS 0 rfl d_M_init_2998 (fun st k => lv_bipush (v := 18) hx hb d_M_init_2999 (by decide) k) (fun st k => lv_bipush (v := 45) hx hb d_M_init_3001 (by decide) k) d_M_init_3003 (by decide) (vq (by decide)) (by decide) (fun H locs hP hD hS => ?_)
  refine ba_step (i := 19) (x := 45) hx hb hK hP hD hS 0 rfl d_M_init_3004 (fun st k => lv_bipush (v := 19) hx hb d_M_init_3005 (by decide) k) (fun st k => lv_bipush (v := 45) hx hb d_M_init_3007 (by decide) k) d_M_init_3009 (by decide) (vq (by decide)) (by decide) (fun H locs hP hD hS => ?_)
  refine ba_step (i := 20) (x := 23) hx hb hK hP hD hS 0 rfl d_M_init_3010 (fun st k => lv_bipush (v := 20) hx hb d_M_init_3011 (by decide) k) (fun st k => lv_bipush (v := 23) hx hb d_M_init_3013 (by decide) k) d_M_init_3015 (by decide) (vq (by decide)) (by decide) (fun H locs hP hD hS => ?_)
  exact kk H locs hP hD hS
set_option maxRecDepth 100000 in
set_option maxHeartbeats 4000000 in
theorem sg_4 {p : Program} {l : Launch} {e : Env} {R : Room} {s : State} {m : MethodId} {args : Array Value} {below : List Frame} {meth : Method} {c : Code} {H : Heap} {locs : List Loc} {cells slots : Nat} {Q : State → Prop} {ls : Array Slot} {D : va_G} {cl : List vw_C} {cB cI cJ cZ cS : ClassId} {rst : va_W} {A : Nat → Prop} {H0 : Heap} {iM h0 : Nat} {V : Nat → Value} (hx : p.tables.exec = Jvm.exec) (hb : c.code = b_M_init) (ht : ∀ w ∈ wd_tbl, w.before args s = true) (hown : s.vm.findClass R_M = some m.cls) (hM : cl[iM]? = some (R_M, F_M, 171)) (hin : meth.name = "<init>") (hK : va_K D cl (ty5 cB cI cJ cZ cS) s) (hA : ∀ q, H0.size ≤ q → A q) (hl : ls[0]? = some (.val (.ref h0))) (hP : va_P D cl ((h0, .inr (iM, fl 171 V)) :: rst) H) (hD : va_D A ((h0, .inr (iM, fl 171 V)) :: rst)) (hS : va_S A H0 H locs) (hc : cells + 1 ≤ R.cells) (hs : slots + 21 ≤ R.slots)
    (kk : ∀ (q21 : Nat) (H1 : Heap) (locs1 : List Loc), va_P D cl ((h0, .inr (iM, fl 171 (va_up V 21 (.ref q21)))) :: (q21, .inl (cB, 21, .inl (tk tb_21 21))) :: rst) H1 → va_D A ((h0, .inr (iM, fl 171 (va_up V 21 (.ref q21)))) :: (q21, .inl (cB, 21, .inl (tk tb_21 21))) :: rst) → va_S A H0 H1 locs1 → W p l e R s m args below meth c H1 locs1 (cells + 1) (slots + 21) Q (F0 m 3019 ls [])) :
    W p l e R s m args below meth c H locs cells slots Q (F0 m 2891 ls []) := by
  refine mk_open (n := 21) (N := 21) (a0 := (21, .inl (fun _ => 0))) (ty := .byte) hx hb hK hA hl hP hD hS d_M_init_2891 (fun st k => lv_bipush (v := 21) hx hb d_M_init_2892 (by decide) k) d_M_init_2894 (ht _ ac_byte) rfl (fun _ h => by cases h) 0 rfl (fun _ => rfl) (by decide) (by decide) (by decide) (by omega) (by omega) (fun q21 H hP hD hS => ?_)
  rw [tk_0 tb_21] at hP hD
  refine sg_4_0 hx hb ht hown hM hin hK hA hl hP hD hS (fun H locs hP hD hS => ?_)
  refine mf_putF hx hb ht hown hM hK hP hD hS 0 rfl 21 (by decide) lk_M_21 rfl hin rfl rfl d_M_init_3016 (fun H locs hP hD hS => ?_)
  exact kk q21 H locs hP hD hS
def tb_22 : List Int32 := [40, 0, 41, 1, 123, 2, 125, 3, 91, 4, 93, 5, 44, 6, 59, 7, 46, 8, 124, 9, 61, 11, 60, 14, 62, 16, 43, 18, 45, 19, 42, 20, 33, 21, 47, 24]
set_option maxRecDepth 100000 in
set_option maxHeartbeats 4000000 in
theorem sg_5_0 {p : Program} {l : Launch} {e : Env} {R : Room} {s : State} {m : MethodId} {args : Array Value} {below : List Frame} {meth : Method} {c : Code} {H : Heap} {locs : List Loc} {cells slots : Nat} {Q : State → Prop} {ls : Array Slot} {D : va_G} {cl : List vw_C} {cB cI cJ cZ cS : ClassId} {rst : va_W} {A : Nat → Prop} {H0 : Heap} {iM h0 : Nat} {ob : Nat × va_E} {q22 : Nat} (hx : p.tables.exec = Jvm.exec) (hb : c.code = b_M_init) (ht : ∀ w ∈ wd_tbl, w.before args s = true) (hown : s.vm.findClass R_M = some m.cls) (hM : cl[iM]? = some (R_M, F_M, 171)) (hin : meth.name = "<init>") (hK : va_K D cl (ty5 cB cI cJ cZ cS) s) (hA : ∀ q, H0.size ≤ q → A q) (hl : ls[0]? = some (.val (.ref h0))) (hP : va_P D cl (ob :: (q22, .inl (cB, 36, .inl (tk tb_22 0))) :: rst) H) (hD : va_D A (ob :: (q22, .inl (cB, 36, .inl (tk tb_22 0))) :: rst)) (hS : va_S A H0 H locs)
    (kk : ∀ (H1 : Heap) (locs1 : List Loc), va_P D cl (ob :: (q22, .inl (cB, 36, .inl (tk tb_22 36))) :: rst) H1 → va_D A (ob :: (q22, .inl (cB, 36, .inl (tk tb_22 36))) :: rst) → va_S A H0 H1 locs1 → W p l e R s m args below meth c H1 locs1 cells slots Q (F0 m 3228 ls [.ref q22, .ref h0])) :
    W p l e R s m args below meth c H locs cells slots Q (F0 m 3024 ls [.ref q22, .ref h0]) := by
  refine ba_step (i := 0) (x := 40) hx hb hK hP hD hS 0 rfl d_M_init_3024 (fun st k => lv_iconst (v := 0) hx hb d_M_init_3025 (by decide) k) (fun st k => lv_bipush (v := 40) hx hb d_M_init_3026 (by decide) k) d_M_init_3028 (by decide) (vq (by decide)) (by decide) (fun H locs hP hD hS => ?_)
  refine ba_step (i := 1) (x := 0) hx hb hK hP hD hS 0 rfl d_M_init_3029 (fun st k => lv_iconst (v := 1) hx hb d_M_init_3030 (by decide) k) (fun st k => lv_iconst (v := 0) hx hb d_M_init_3031 (by decide) k) d_M_init_3032 (by decide) (vq (by decide)) (by decide) (fun H locs hP hD hS => ?_)
  refine ba_step (i := 2) (x := 41) hx hb hK hP hD hS 0 rfl d_M_init_3033 (fun st k => lv_iconst (v := 2) hx hb d_M_init_3034 (by decide) k) (fun st k => lv_bipush (v := 41) hx hb d_M_init_3035 (by decide) k) d_M_init_3037 (by decide) (vq (by decide)) (by decide) (fun H locs hP hD hS => ?_)
  refine ba_step (i := 3) (x := 1) hx hb hK hP hD hS 0 rfl d_M_init_3038 (fun st k => lv_iconst (v := 3) hx hb d_M_init_3039 (by decide) k) (fun st k => lv_iconst (v := 1) hx hb d_M_init_3040 (by decide) k) d_M_init_3041 (by decide) (vq (by decide)) (by decide) (fun H locs hP hD hS => ?_)
  refine ba_step (i := 4) (x := 123) hx hb hK hP hD hS 0 rfl d_M_init_3042 (fun st k => lv_iconst (v := 4) hx hb d_M_init_3043 (by decide) k) (fun st k => lv_bipush (v := 123) hx hb d_M_init_3044 (by decide) k) d_M_init_3046 (by decide) (vq (by decide)) (by decide) (fun H locs hP hD hS => ?_)
  refine ba_step (i := 5) (x := 2) hx hb hK hP hD hS 0 rfl d_M_init_3047 (fun st k => lv_iconst (v := 5) hx hb d_M_init_3048 (by decide) k) (fun st k => lv_iconst (v := 2) hx hb d_M_init_3049 (by decide) k) d_M_init_3050 (by decide) (vq (by decide)) (by decide) (fun H locs hP hD hS => ?_)
  refine ba_step (i := 6) (x := 125) hx hb hK hP hD hS 0 rfl d_M_init_3051 (fun st k => lv_bipush (v := 6) hx hb d_M_init_3052 (by decide) k) (fun st k => lv_bipush (v := 125) hx hb d_M_init_3054 (by decide) k) d_M_init_3056 (by decide) (vq (by decide)) (by decide) (fun H locs hP hD hS => ?_)
  refine ba_step (i := 7) (x := 3) hx hb hK hP hD hS 0 rfl d_M_init_3057 (fun st k => lv_bipush (v := 7) hx hb d_M_init_3058 (by decide) k) (fun st k => lv_iconst (v := 3) hx hb d_M_init_3060 (by decide) k) d_M_init_3061 (by decide) (vq (by decide)) (by decide) (fun H locs hP hD hS => ?_)
  refine ba_step (i := 8) (x := 91) hx hb hK hP hD hS 0 rfl d_M_init_3062 (fun st k => lv_bipush (v := 8) hx hb d_M_init_3063 (by decide) k) (fun st k => lv_bipush (v := 91) hx hb d_M_init_3065 (by decide) k) d_M_init_3067 (by decide) (vq (by decide)) (by decide) (fun H locs hP hD hS => ?_)
  refine ba_step (i := 9) (x := 4) hx hb hK hP hD hS 0 rfl d_M_init_3068 (fun st k => lv_bipush (v := 9) hx hb d_M_init_3069 (by decide) k) (fun st k => lv_iconst (v := 4) hx hb d_M_init_3071 (by decide) k) d_M_init_3072 (by decide) (vq (by decide)) (by decide) (fun H locs hP hD hS => ?_)
  refine ba_step (i := 10) (x := 93) hx hb hK hP hD hS 0 rfl d_M_init_3073 (fun st k => lv_bipush (v := 10) hx hb d_M_init_3074 (by decide) k) (fun st k => lv_bipush (v := 93) hx hb d_M_init_3076 (by decide) k) d_M_init_3078 (by decide) (vq (by decide)) (by decide) (fun H locs hP hD hS => ?_)
  refine ba_step (i := 11) (x := 5) hx hb hK hP hD hS 0 rfl d_M_init_3079 (fun st k => lv_bipush (v := 11) hx hb d_M_init_3080 (by decide) k) (fun st k => lv_iconst (v := 5) hx hb d_M_init_3082 (by decide) k) d_M_init_3083 (by decide) (vq (by decide)) (by decide) (fun H locs hP hD hS => ?_)
  refine ba_step (i := 12) (x := 44) hx hb hK hP hD hS 0 rfl d_M_init_3084 (fun st k => lv_bipush (v := 12) hx hb d_M_init_3085 (by decide) k) (fun st k => lv_bipush (v := 44) hx hb d_M_init_3087 (by decide) k) d_M_init_3089 (by decide) (vq (by decide)) (by decide) (fun H locs hP hD hS => ?_)
  refine ba_step (i := 13) (x := 6) hx hb hK hP hD hS 0 rfl d_M_init_3090 (fun st k => lv_bipush (v := 13) hx hb d_M_init_3091 (by decide) k) (fun st k => lv_bipush (v := 6) hx hb d_M_init_3093 (by decide) k) d_M_init_3095 (by decide) (vq (by decide)) (by decide) (fun H locs hP hD hS => ?_)
  refine ba_step (i := 14) (x := 59) hx hb hK hP hD hS 0 rfl d_M_init_3096 (fun st k => lv_bipush (v := 14) hx hb d_M_init_3097 (by decide) k) (fun st k => lv_bipush (v := 59) hx hb d_M_init_3099 (by decide) k) d_M_init_3101 (by decide) (vq (by decide)) (by decide) (fun H locs hP hD hS => ?_)
  refine ba_step (i := 15) (x := 7) hx hb hK hP hD hS 0 rfl d_M_init_3102 (fun st k => lv_bipush (v := 15) hx hb d_M_init_3103 (by decide) k) (fun st k => lv_bipush (v := 7) hx hb d_M_init_3105 (by decide) k) d_M_init_3107 (by decide) (vq (by decide)) (by decide) (fun H locs hP hD hS => ?_)
  refine ba_step (i := 16) (x := 46) hx hb hK hP hD hS 0 rfl d_M_init_3108 (fun st k => lv_bipush (v := 16) hx hb d_M_init_3109 (by decide) k) (fun st k => lv_bipush (v := 46) hx hb d_M_init_3111 (by decide) k) d_M_init_3113 (by decide) (vq (by decide)) (by decide) (fun H locs hP hD hS => ?_)
  refine ba_step (i := 17) (x := 8) hx hb hK hP hD hS 0 rfl d_M_init_3114 (fun st k => lv_bipush (v := 17) hx hb d_M_init_3115 (by decide) k) (fun st k => lv_bipush (v := 8) hx hb d_M_init_3117 (by decide) k) d_M_init_3119 (by decide) (vq (by decide)) (by decide) (fun H locs hP hD hS => ?_)
  refine ba_step (i := 18) (x := 124) hx hb hK hP hD hS 0 rfl d_M_init_3120 (fun st k => lv_bipush (v := 18) hx hb d_M_init_3121 (by decide) k) (fun st k => lv_bipush (v := 124) hx hb d_M_init_3123 (by decide) k) d_M_init_3125 (by decide) (vq (by decide)) (by decide) (fun H locs hP hD hS => ?_)
  refine ba_step (i := 19) (x := 9) hx hb hK hP hD hS 0 rfl d_M_init_3126 (fun st k => lv_bipush (v := 19) hx hb d_M_init_3127 (by decide) k) (fun st k => lv_bipush (v := 9) hx hb d_M_init_3129 (by decide) k) d_M_init_3131 (by decide) (vq (by decide)) (by decide) (fun H locs hP hD hS => ?_)
  refine ba_step (i := 20) (x := 61) hx hb hK hP hD hS 0 rfl d_M_init_3132 (fun st k => lv_bipush (v := 20) hx hb d_M_init_3133 (by decide) k) (fun st k => lv_bipush (v := 61) hx hb d_M_init_3135 (by decide) k) d_M_init_3137 (by decide) (vq (by decide)) (by decide) (fun H locs hP hD hS => ?_)
  refine ba_step (i := 21) (x := 11) hx hb hK hP hD hS 0 rfl d_M_init_3138 (fun st k => lv_bipush (v := 21) hx hb d_M_init_3139 (by decide) k) (fun st k => lv_bipush (v := 11) hx hb d_M_init_3141 (by decide) k) d_M_init_3143 (by decide) (vq (by decide)) (by decide) (fun H locs hP hD hS => ?_)
  refine ba_step (i := 22) (x := 60) hx hb hK hP hD hS 0 rfl d_M_init_3144 (fun st k => lv_bipush (v := 22) hx hb d_M_init_3145 (by decide) k) (fun st k => lv_bipush (v := 60) hx hb d_M_init_3147 (by decide) k) d_M_init_3149 (by decide) (vq (by decide)) (by decide) (fun H locs hP hD hS => ?_)
  refine ba_step (i := 23) (x := 14) hx hb hK hP hD hS 0 rfl d_M_init_3150 (fun st k => lv_bipush (v := 23) hx hb d_M_init_3151 (by decide) k) (fun st k => lv_bipush (v := 14) hx hb d_M_init_3153 (by decide) k) d_M_init_3155 (by decide) (vq (by decide)) (by decide) (fun H locs hP hD hS => ?_)
  refine ba_step (i := 24) (x := 62) hx hb hK hP hD hS 0 rfl d_M_init_3156 (fun st k => lv_bipush (v := 24) hx hb d_M_init_3157 (by decide) k) (fun st k => lv_bipush (v := 62) hx hb d_M_init_3159 (by decide) k) d_M_init_3161 (by decide) (vq (by decide)) (by decide) (fun H locs hP hD hS => ?_)
  refine ba_step (i := 25) (x := 16) hx hb hK hP hD hS 0 rfl d_M_init_3162 (fun st k => lv_bipush (v := 25) hx hb d_M_init_3163 (by decide) k) (fun st k => lv_bipush (v := 16) hx hb d_M_init_3165 (by decide) k) d_M_init_3167 (by decide) (vq (by decide)) (by decide) (fun H locs hP hD hS => ?_)
  refine ba_step (i := 26) (x := 43) hx hb hK hP hD hS 0 rfl d_M_init_3168 (fun st k => lv_bipush (v := 26) hx hb d_M_init_3169 (by decide) k) (fun st k => lv_bipush (v := 43) hx hb d_M_init_3171 (by decide) k) d_M_init_3173 (by decide) (vq (by decide)) (by decide) (fun H locs hP hD hS => ?_)
  refine ba_step (i := 27) (x := 18) hx hb hK hP hD hS 0 rfl d_M_init_3174 (fun st k => lv_bipush (v := 27) hx hb d_M_init_3175 (by decide) k) (fun st k => lv_bipush (v := 18) hx hb d_M_init_3177 (by decide) k) d_M_init_3179 (by decide) (vq (by decide)) (by decide) (fun H locs hP hD hS => ?_)
  refine ba_step (i := 28) (x := 45) hx hb hK hP hD hS 0 rfl d_M_init_3180 (fun st k => lv_bipush (v := 28) hx hb d_M_init_3181 (by decide) k) (fun st k => lv_bipush (v := 45) hx hb d_M_init_3183 (by decide) k) d_M_init_3185 (by decide) (vq (by decide)) (by decide) (fun H locs hP hD hS => ?_)
  refine ba_step (i := 29) (x := 19) hx hb hK hP hD hS 0 rfl d_M_init_3186 (fun st k => lv_bipush (v := 29) hx hb d_M_init_3187 (by decide) k) (fun st k => lv_bipush (v := 19) hx hb d_M_init_3189 (by decide) k) d_M_init_3191 (by decide) (vq (by decide)) (by decide) (fun H locs hP hD hS => ?_)
  refine ba_step (i := 30) (x := 42) hx hb hK hP hD hS 0 rfl d_M_init_3192 (fun st k => lv_bipush (v := 30) hx hb d_M_init_3193 (by decide) k) (fun st k => lv_bipush (v := 42) hx hb d_M_init_3195 (by decide) k) d_M_init_3197 (by decide) (vq (by decide)) (by decide) (fun H locs hP hD hS => ?_)
  refine ba_step (i := 31) (x := 20) hx hb hK hP hD hS 0 rfl d_M_init_3198 (fun st k => lv_bipush (v := 31) hx hb d_M_init_3199 (by decide) k) (fun st k => lv_bipush (v := 20) hx hb d_M_init_3201 (by decide) k) d_M_init_3203 (by decide) (vq (by decide)) (by decide) (fun H locs hP hD hS => ?_)
  refine ba_step (i := 32) (x := 33) hx hb hK hP hD hS 0 rfl d_M_init_3204 (fun st k => lv_bipush (v := 32) hx hb d_M_init_3205 (by decide) k) (fun st k => lv_bipush (v := 33) hx hb d_M_init_3207 (by decide) k) d_M_init_3209 (by decide) (vq (by decide)) (by decide) (fun H locs hP hD hS => ?_)
  refine ba_step (i := 33) (x := 21) hx hb hK hP hD hS 0 rfl d_M_init_3210 (fun st k => lv_bipush (v := 33) hx hb d_M_init_3211 (by decide) k) (fun st k => lv_bipush (v := 21) hx hb d_M_init_3213 (by decide) k) d_M_init_3215 (by decide) (vq (by decide)) (by decide) (fun H locs hP hD hS => ?_)
  refine ba_step (i := 34) (x := 47) hx hb hK hP hD hS 0 rfl d_M_init_3216 (fun st k => lv_bipush (v := 34) hx hb d_M_init_3217 (by decide) k) (fun st k => lv_bipush (v := 47) hx hb d_M_init_3219 (by decide) k) d_M_init_3221 (by decide) (vq (by decide)) (by decide) (fun H locs hP hD hS => ?_)
  refine ba_step (i := 35) (x := 24) hx hb hK hP hD hS 0 rfl d_M_init_3222 (fun st k => lv_bipush (v := 35) hx hb d_M_init_3223 (by decide) k) (fun st k => lv_bipush (v := 24) hx hb d_M_init_3225 (by decide) k) d_M_init_3227 (by decide) (vq (by decide)) (by decide) (fun H locs hP hD hS => ?_)
  exact kk H locs hP hD hS
set_option maxRecDepth 100000 in
set_option maxHeartbeats 4000000 in
theorem sg_5 {p : Program} {l : Launch} {e : Env} {R : Room} {s : State} {m : MethodId} {args : Array Value} {below : List Frame} {meth : Method} {c : Code} {H : Heap} {locs : List Loc} {cells slots : Nat} {Q : State → Prop} {ls : Array Slot} {D : va_G} {cl : List vw_C} {cB cI cJ cZ cS : ClassId} {rst : va_W} {A : Nat → Prop} {H0 : Heap} {iM h0 : Nat} {V : Nat → Value} (hx : p.tables.exec = Jvm.exec) (hb : c.code = b_M_init) (ht : ∀ w ∈ wd_tbl, w.before args s = true) (hown : s.vm.findClass R_M = some m.cls) (hM : cl[iM]? = some (R_M, F_M, 171)) (hin : meth.name = "<init>") (hK : va_K D cl (ty5 cB cI cJ cZ cS) s) (hA : ∀ q, H0.size ≤ q → A q) (hl : ls[0]? = some (.val (.ref h0))) (hP : va_P D cl ((h0, .inr (iM, fl 171 V)) :: rst) H) (hD : va_D A ((h0, .inr (iM, fl 171 V)) :: rst)) (hS : va_S A H0 H locs) (hc : cells + 1 ≤ R.cells) (hs : slots + 36 ≤ R.slots)
    (kk : ∀ (q22 : Nat) (H1 : Heap) (locs1 : List Loc), va_P D cl ((h0, .inr (iM, fl 171 (va_up V 22 (.ref q22)))) :: (q22, .inl (cB, 36, .inl (tk tb_22 36))) :: rst) H1 → va_D A ((h0, .inr (iM, fl 171 (va_up V 22 (.ref q22)))) :: (q22, .inl (cB, 36, .inl (tk tb_22 36))) :: rst) → va_S A H0 H1 locs1 → W p l e R s m args below meth c H1 locs1 (cells + 1) (slots + 36) Q (F0 m 3231 ls [])) :
    W p l e R s m args below meth c H locs cells slots Q (F0 m 3019 ls []) := by
  refine mk_open (n := 36) (N := 36) (a0 := (36, .inl (fun _ => 0))) (ty := .byte) hx hb hK hA hl hP hD hS d_M_init_3019 (fun st k => lv_bipush (v := 36) hx hb d_M_init_3020 (by decide) k) d_M_init_3022 (ht _ ac_byte) rfl (fun _ h => by cases h) 0 rfl (fun _ => rfl) (by decide) (by decide) (by decide) (by omega) (by omega) (fun q22 H hP hD hS => ?_)
  rw [tk_0 tb_22] at hP hD
  refine sg_5_0 hx hb ht hown hM hin hK hA hl hP hD hS (fun H locs hP hD hS => ?_)
  refine mf_putF hx hb ht hown hM hK hP hD hS 0 rfl 22 (by decide) lk_M_22 rfl hin rfl rfl d_M_init_3228 (fun H locs hP hD hS => ?_)
  exact kk q22 H locs hP hD hS
set_option maxRecDepth 100000 in
set_option maxHeartbeats 4000000 in
theorem sg_6 {p : Program} {l : Launch} {e : Env} {R : Room} {s : State} {m : MethodId} {args : Array Value} {below : List Frame} {meth : Method} {c : Code} {H : Heap} {locs : List Loc} {cells slots : Nat} {Q : State → Prop} {ls : Array Slot} {D : va_G} {cl : List vw_C} {cB cI cJ cZ cS : ClassId} {rst : va_W} {A : Nat → Prop} {H0 : Heap} {iM h0 : Nat} {V : Nat → Value} (hx : p.tables.exec = Jvm.exec) (hb : c.code = b_M_init) (ht : ∀ w ∈ wd_tbl, w.before args s = true) (hown : s.vm.findClass R_M = some m.cls) (hM : cl[iM]? = some (R_M, F_M, 171)) (hin : meth.name = "<init>") (hK : va_K D cl (ty5 cB cI cJ cZ cS) s) (hA : ∀ q, H0.size ≤ q → A q) (hl : ls[0]? = some (.val (.ref h0))) (hP : va_P D cl ((h0, .inr (iM, fl 171 V)) :: rst) H) (hD : va_D A ((h0, .inr (iM, fl 171 V)) :: rst)) (hS : va_S A H0 H locs) (hc : cells + 16 ≤ R.cells) (hs : slots + 175400 ≤ R.slots)
    (kk : ∀ (q23 q24 q25 q26 q27 q28 q29 q30 q31 q33 q34 q35 q36 q37 q38 q40 : Nat) (H1 : Heap) (locs1 : List Loc), va_P D cl ((h0, .inr (iM, fl 171 (va_up (va_up (va_up (va_up (va_up (va_up (va_up (va_up (va_up (va_up (va_up (va_up (va_up (va_up (va_up (va_up V 23 (.ref q23)) 24 (.ref q24)) 25 (.ref q25)) 26 (.ref q26)) 27 (.ref q27)) 28 (.ref q28)) 29 (.ref q29)) 30 (.ref q30)) 31 (.ref q31)) 33 (.ref q33)) 34 (.ref q34)) 35 (.ref q35)) 36 (.ref q36)) 37 (.ref q37)) 38 (.ref q38)) 40 (.ref q40)))) :: ((q40, .inl (cI, (1400, .inl (fun _ => 0)))) :: ((q38, .inl (cZ, (5000, .inl (fun _ => 0)))) :: ((q37, .inl (cI, (5000, .inl (fun _ => 0)))) :: ((q36, .inl (cI, (5000, .inl (fun _ => 0)))) :: ((q35, .inl (cI, (5000, .inl (fun _ => 0)))) :: ((q34, .inl (cJ, (5000, .inr (.inl (fun _ => 0))))) :: ((q33, .inl (cB, (5000, .inl (fun _ => 0)))) :: ((q31, .inl (cI, (16000, .inl (fun _ => 0)))) :: ((q30, .inl (cZ, (16000, .inl (fun _ => 0)))) :: ((q29, .inl (cI, (16000, .inl (fun _ => 0)))) :: ((q28, .inl (cI, (16000, .inl (fun _ => 0)))) :: ((q27, .inl (cI, (16000, .inl (fun _ => 0)))) :: ((q26, .inl (cI, (16000, .inl (fun _ => 0)))) :: ((q25, .inl (cI, (16000, .inl (fun _ => 0)))) :: ((q24, .inl (cS, (16000, .inl (fun _ => 0)))) :: ((q23, .inl (cB, (16000, .inl (fun _ => 0)))) :: rst))))))))))))))))) H1 → va_D A ((h0, .inr (iM, fl 171 (va_up (va_up (va_up (va_up (va_up (va_up (va_up (va_up (va_up (va_up (va_up (va_up (va_up (va_up (va_up (va_up V 23 (.ref q23)) 24 (.ref q24)) 25 (.ref q25)) 26 (.ref q26)) 27 (.ref q27)) 28 (.ref q28)) 29 (.ref q29)) 30 (.ref q30)) 31 (.ref q31)) 33 (.ref q33)) 34 (.ref q34)) 35 (.ref q35)) 36 (.ref q36)) 37 (.ref q37)) 38 (.ref q38)) 40 (.ref q40)))) :: ((q40, .inl (cI, (1400, .inl (fun _ => 0)))) :: ((q38, .inl (cZ, (5000, .inl (fun _ => 0)))) :: ((q37, .inl (cI, (5000, .inl (fun _ => 0)))) :: ((q36, .inl (cI, (5000, .inl (fun _ => 0)))) :: ((q35, .inl (cI, (5000, .inl (fun _ => 0)))) :: ((q34, .inl (cJ, (5000, .inr (.inl (fun _ => 0))))) :: ((q33, .inl (cB, (5000, .inl (fun _ => 0)))) :: ((q31, .inl (cI, (16000, .inl (fun _ => 0)))) :: ((q30, .inl (cZ, (16000, .inl (fun _ => 0)))) :: ((q29, .inl (cI, (16000, .inl (fun _ => 0)))) :: ((q28, .inl (cI, (16000, .inl (fun _ => 0)))) :: ((q27, .inl (cI, (16000, .inl (fun _ => 0)))) :: ((q26, .inl (cI, (16000, .inl (fun _ => 0)))) :: ((q25, .inl (cI, (16000, .inl (fun _ => 0)))) :: ((q24, .inl (cS, (16000, .inl (fun _ => 0)))) :: ((q23, .inl (cB, (16000, .inl (fun _ => 0)))) :: rst))))))))))))))))) → va_S A H0 H1 locs1 → W p l e R s m args below meth c H1 locs1 (cells + 16) (slots + 175400) Q (F0 m 3375 ls [])) :
    W p l e R s m args below meth c H locs cells slots Q (F0 m 3231 ls []) := by
  refine mk_arr (n := 16000) (N := 16000) (a0 := (16000, .inl (fun _ => 0))) (ty := .byte) hx hb ht hown hM hin hK hA hl hP hD hS d_M_init_3231 (fun st k => lv_sipush (v := 16000) hx hb d_M_init_3232 (by decide) k) d_M_init_3235 d_M_init_3237 ac_byte rfl (fun _ h => by cases h) 0 rfl (fun _ => rfl) (by decide) (by decide) (by decide) (by omega) (by omega) 23 (by decide) lk_M_23 rfl (fun _ => rfl) (fun _ => rfl) (fun q23 H locs hP hD hS => ?_)
  refine mk_arr (n := 16000) (N := 16000) (a0 := (16000, .inl (fun _ => 0))) (ty := .short) hx hb ht hown hM hin hK hA hl hP hD hS d_M_init_3240 (fun st k => lv_sipush (v := 16000) hx hb d_M_init_3241 (by decide) k) d_M_init_3244 d_M_init_3246 ac_short rfl (fun _ h => by cases h) 4 rfl (fun _ => rfl) (by decide) (by decide) (by decide) (by omega) (by omega) 24 (by decide) lk_M_24 rfl (fun _ => rfl) (fun _ => rfl) (fun q24 H locs hP hD hS => ?_)
  refine mk_arr (n := 16000) (N := 16000) (a0 := (16000, .inl (fun _ => 0))) (ty := .int) hx hb ht hown hM hin hK hA hl hP hD hS d_M_init_3249 (fun st k => lv_sipush (v := 16000) hx hb d_M_init_3250 (by decide) k) d_M_init_3253 d_M_init_3255 ac_int rfl (fun _ h => by cases h) 1 rfl (fun _ => rfl) (by decide) (by decide) (by decide) (by omega) (by omega) 25 (by decide) lk_M_25 rfl (fun _ => rfl) (fun _ => rfl) (fun q25 H locs hP hD hS => ?_)
  refine mk_arr (n := 16000) (N := 16000) (a0 := (16000, .inl (fun _ => 0))) (ty := .int) hx hb ht hown hM hin hK hA hl hP hD hS d_M_init_3258 (fun st k => lv_sipush (v := 16000) hx hb d_M_init_3259 (by decide) k) d_M_init_3262 d_M_init_3264 ac_int rfl (fun _ h => by cases h) 1 rfl (fun _ => rfl) (by decide) (by decide) (by decide) (by omega) (by omega) 26 (by decide) lk_M_26 rfl (fun _ => rfl) (fun _ => rfl) (fun q26 H locs hP hD hS => ?_)
  refine mk_arr (n := 16000) (N := 16000) (a0 := (16000, .inl (fun _ => 0))) (ty := .int) hx hb ht hown hM hin hK hA hl hP hD hS d_M_init_3267 (fun st k => lv_sipush (v := 16000) hx hb d_M_init_3268 (by decide) k) d_M_init_3271 d_M_init_3273 ac_int rfl (fun _ h => by cases h) 1 rfl (fun _ => rfl) (by decide) (by decide) (by decide) (by omega) (by omega) 27 (by decide) lk_M_27 rfl (fun _ => rfl) (fun _ => rfl) (fun q27 H locs hP hD hS => ?_)
  refine mk_arr (n := 16000) (N := 16000) (a0 := (16000, .inl (fun _ => 0))) (ty := .int) hx hb ht hown hM hin hK hA hl hP hD hS d_M_init_3276 (fun st k => lv_sipush (v := 16000) hx hb d_M_init_3277 (by decide) k) d_M_init_3280 d_M_init_3282 ac_int rfl (fun _ h => by cases h) 1 rfl (fun _ => rfl) (by decide) (by decide) (by decide) (by omega) (by omega) 28 (by decide) lk_M_28 rfl (fun _ => rfl) (fun _ => rfl) (fun q28 H locs hP hD hS => ?_)
  refine mk_arr (n := 16000) (N := 16000) (a0 := (16000, .inl (fun _ => 0))) (ty := .int) hx hb ht hown hM hin hK hA hl hP hD hS d_M_init_3285 (fun st k => lv_sipush (v := 16000) hx hb d_M_init_3286 (by decide) k) d_M_init_3289 d_M_init_3291 ac_int rfl (fun _ h => by cases h) 1 rfl (fun _ => rfl) (by decide) (by decide) (by decide) (by omega) (by omega) 29 (by decide) lk_M_29 rfl (fun _ => rfl) (fun _ => rfl) (fun q29 H locs hP hD hS => ?_)
  refine mk_arr (n := 16000) (N := 16000) (a0 := (16000, .inl (fun _ => 0))) (ty := .boolean) hx hb ht hown hM hin hK hA hl hP hD hS d_M_init_3294 (fun st k => lv_sipush (v := 16000) hx hb d_M_init_3295 (by decide) k) d_M_init_3298 d_M_init_3300 ac_boolean rfl (fun _ h => by cases h) 3 rfl (fun _ => rfl) (by decide) (by decide) (by decide) (by omega) (by omega) 30 (by decide) lk_M_30 rfl (fun _ => rfl) (fun _ => rfl) (fun q30 H locs hP hD hS => ?_)
  refine mk_arr (n := 16000) (N := 16000) (a0 := (16000, .inl (fun _ => 0))) (ty := .int) hx hb ht hown hM hin hK hA hl hP hD hS d_M_init_3303 (fun st k => lv_sipush (v := 16000) hx hb d_M_init_3304 (by decide) k) d_M_init_3307 d_M_init_3309 ac_int rfl (fun _ h => by cases h) 1 rfl (fun _ => rfl) (by decide) (by decide) (by decide) (by omega) (by omega) 31 (by decide) lk_M_31 rfl (fun _ => rfl) (fun _ => rfl) (fun q31 H locs hP hD hS => ?_)
  refine mk_arr (n := 5000) (N := 5000) (a0 := (5000, .inl (fun _ => 0))) (ty := .byte) hx hb ht hown hM hin hK hA hl hP hD hS d_M_init_3312 (fun st k => lv_sipush (v := 5000) hx hb d_M_init_3313 (by decide) k) d_M_init_3316 d_M_init_3318 ac_byte rfl (fun _ h => by cases h) 0 rfl (fun _ => rfl) (by decide) (by decide) (by decide) (by omega) (by omega) 33 (by decide) lk_M_33 rfl (fun _ => rfl) (fun _ => rfl) (fun q33 H locs hP hD hS => ?_)
  refine mk_arr (n := 5000) (N := 5000) (a0 := (5000, .inr (.inl (fun _ => 0)))) (ty := .long) hx hb ht hown hM hin hK hA hl hP hD hS d_M_init_3321 (fun st k => lv_sipush (v := 5000) hx hb d_M_init_3322 (by decide) k) d_M_init_3325 d_M_init_3327 ac_long rfl (fun _ h => by cases h) 2 rfl (fun _ => rfl) (by decide) (by decide) (by decide) (by omega) (by omega) 34 (by decide) lk_M_34 rfl (fun _ => rfl) (fun _ => rfl) (fun q34 H locs hP hD hS => ?_)
  refine mk_arr (n := 5000) (N := 5000) (a0 := (5000, .inl (fun _ => 0))) (ty := .int) hx hb ht hown hM hin hK hA hl hP hD hS d_M_init_3330 (fun st k => lv_sipush (v := 5000) hx hb d_M_init_3331 (by decide) k) d_M_init_3334 d_M_init_3336 ac_int rfl (fun _ h => by cases h) 1 rfl (fun _ => rfl) (by decide) (by decide) (by decide) (by omega) (by omega) 35 (by decide) lk_M_35 rfl (fun _ => rfl) (fun _ => rfl) (fun q35 H locs hP hD hS => ?_)
  refine mk_arr (n := 5000) (N := 5000) (a0 := (5000, .inl (fun _ => 0))) (ty := .int) hx hb ht hown hM hin hK hA hl hP hD hS d_M_init_3339 (fun st k => lv_sipush (v := 5000) hx hb d_M_init_3340 (by decide) k) d_M_init_3343 d_M_init_3345 ac_int rfl (fun _ h => by cases h) 1 rfl (fun _ => rfl) (by decide) (by decide) (by decide) (by omega) (by omega) 36 (by decide) lk_M_36 rfl (fun _ => rfl) (fun _ => rfl) (fun q36 H locs hP hD hS => ?_)
  refine mk_arr (n := 5000) (N := 5000) (a0 := (5000, .inl (fun _ => 0))) (ty := .int) hx hb ht hown hM hin hK hA hl hP hD hS d_M_init_3348 (fun st k => lv_sipush (v := 5000) hx hb d_M_init_3349 (by decide) k) d_M_init_3352 d_M_init_3354 ac_int rfl (fun _ h => by cases h) 1 rfl (fun _ => rfl) (by decide) (by decide) (by decide) (by omega) (by omega) 37 (by decide) lk_M_37 rfl (fun _ => rfl) (fun _ => rfl) (fun q37 H locs hP hD hS => ?_)
  refine mk_arr (n := 5000) (N := 5000) (a0 := (5000, .inl (fun _ => 0))) (ty := .boolean) hx hb ht hown hM hin hK hA hl hP hD hS d_M_init_3357 (fun st k => lv_sipush (v := 5000) hx hb d_M_init_3358 (by decide) k) d_M_init_3361 d_M_init_3363 ac_boolean rfl (fun _ h => by cases h) 3 rfl (fun _ => rfl) (by decide) (by decide) (by decide) (by omega) (by omega) 38 (by decide) lk_M_38 rfl (fun _ => rfl) (fun _ => rfl) (fun q38 H locs hP hD hS => ?_)
  refine mk_arr (n := 1400) (N := 1400) (a0 := (1400, .inl (fun _ => 0))) (ty := .int) hx hb ht hown hM hin hK hA hl hP hD hS d_M_init_3366 (fun st k => lv_sipush (v := 1400) hx hb d_M_init_3367 (by decide) k) d_M_init_3370 d_M_init_3372 ac_int rfl (fun _ h => by cases h) 1 rfl (fun _ => rfl) (by decide) (by decide) (by decide) (by omega) (by omega) 40 (by decide) lk_M_40 rfl (fun _ => rfl) (fun _ => rfl) (fun q40 H locs hP hD hS => ?_)
  refine W.widen (k := cells + 16) (n := slots + 175400) (by omega) (by omega) ?_
  exact kk q23 q24 q25 q26 q27 q28 q29 q30 q31 q33 q34 q35 q36 q37 q38 q40 H locs hP hD hS
set_option maxRecDepth 100000 in
set_option maxHeartbeats 4000000 in
theorem sg_7 {p : Program} {l : Launch} {e : Env} {R : Room} {s : State} {m : MethodId} {args : Array Value} {below : List Frame} {meth : Method} {c : Code} {H : Heap} {locs : List Loc} {cells slots : Nat} {Q : State → Prop} {ls : Array Slot} {D : va_G} {cl : List vw_C} {cB cI cJ cZ cS : ClassId} {rst : va_W} {A : Nat → Prop} {H0 : Heap} {iM h0 : Nat} {V : Nat → Value} (hx : p.tables.exec = Jvm.exec) (hb : c.code = b_M_init) (ht : ∀ w ∈ wd_tbl, w.before args s = true) (hown : s.vm.findClass R_M = some m.cls) (hM : cl[iM]? = some (R_M, F_M, 171)) (hin : meth.name = "<init>") (hK : va_K D cl (ty5 cB cI cJ cZ cS) s) (hA : ∀ q, H0.size ≤ q → A q) (hl : ls[0]? = some (.val (.ref h0))) (hP : va_P D cl ((h0, .inr (iM, fl 171 V)) :: rst) H) (hD : va_D A ((h0, .inr (iM, fl 171 V)) :: rst)) (hS : va_S A H0 H locs) (hc : cells + 16 ≤ R.cells) (hs : slots + 78027 ≤ R.slots)
    (kk : ∀ (q41 q42 q43 q44 q45 q47 q48 q49 q50 q51 q53 q54 q55 q57 q59 q60 : Nat) (H1 : Heap) (locs1 : List Loc), va_P D cl ((h0, .inr (iM, fl 171 (va_up (va_up (va_up (va_up (va_up (va_up (va_up (va_up (va_up (va_up (va_up (va_up (va_up (va_up (va_up (va_up V 41 (.ref q41)) 42 (.ref q42)) 43 (.ref q43)) 44 (.ref q44)) 45 (.ref q45)) 47 (.ref q47)) 48 (.ref q48)) 49 (.ref q49)) 50 (.ref q50)) 51 (.ref q51)) 53 (.ref q53)) 54 (.ref q54)) 55 (.ref q55)) 57 (.ref q57)) 59 (.ref q59)) 60 (.ref q60)))) :: ((q60, .inl (cI, (27, .inl (fun _ => 0)))) :: ((q59, .inl (cI, (37800, .inl (fun _ => 0)))) :: ((q57, .inl (cI, (24000, .inl (fun _ => 0)))) :: ((q55, .inl (cI, (1400, .inl (fun _ => 0)))) :: ((q54, .inl (cI, (1400, .inl (fun _ => 0)))) :: ((q53, .inl (cI, (1400, .inl (fun _ => 0)))) :: ((q51, .inl (cI, (1000, .inl (fun _ => 0)))) :: ((q50, .inl (cI, (1000, .inl (fun _ => 0)))) :: ((q49, .inl (cI, (1000, .inl (fun _ => 0)))) :: ((q48, .inl (cI, (1000, .inl (fun _ => 0)))) :: ((q47, .inl (cI, (1000, .inl (fun _ => 0)))) :: ((q45, .inl (cI, (1400, .inl (fun _ => 0)))) :: ((q44, .inl (cI, (1400, .inl (fun _ => 0)))) :: ((q43, .inl (cI, (1400, .inl (fun _ => 0)))) :: ((q42, .inl (cI, (1400, .inl (fun _ => 0)))) :: ((q41, .inl (cI, (1400, .inl (fun _ => 0)))) :: rst))))))))))))))))) H1 → va_D A ((h0, .inr (iM, fl 171 (va_up (va_up (va_up (va_up (va_up (va_up (va_up (va_up (va_up (va_up (va_up (va_up (va_up (va_up (va_up (va_up V 41 (.ref q41)) 42 (.ref q42)) 43 (.ref q43)) 44 (.ref q44)) 45 (.ref q45)) 47 (.ref q47)) 48 (.ref q48)) 49 (.ref q49)) 50 (.ref q50)) 51 (.ref q51)) 53 (.ref q53)) 54 (.ref q54)) 55 (.ref q55)) 57 (.ref q57)) 59 (.ref q59)) 60 (.ref q60)))) :: ((q60, .inl (cI, (27, .inl (fun _ => 0)))) :: ((q59, .inl (cI, (37800, .inl (fun _ => 0)))) :: ((q57, .inl (cI, (24000, .inl (fun _ => 0)))) :: ((q55, .inl (cI, (1400, .inl (fun _ => 0)))) :: ((q54, .inl (cI, (1400, .inl (fun _ => 0)))) :: ((q53, .inl (cI, (1400, .inl (fun _ => 0)))) :: ((q51, .inl (cI, (1000, .inl (fun _ => 0)))) :: ((q50, .inl (cI, (1000, .inl (fun _ => 0)))) :: ((q49, .inl (cI, (1000, .inl (fun _ => 0)))) :: ((q48, .inl (cI, (1000, .inl (fun _ => 0)))) :: ((q47, .inl (cI, (1000, .inl (fun _ => 0)))) :: ((q45, .inl (cI, (1400, .inl (fun _ => 0)))) :: ((q44, .inl (cI, (1400, .inl (fun _ => 0)))) :: ((q43, .inl (cI, (1400, .inl (fun _ => 0)))) :: ((q42, .inl (cI, (1400, .inl (fun _ => 0)))) :: ((q41, .inl (cI, (1400, .inl (fun _ => 0)))) :: rst))))))))))))))))) → va_S A H0 H1 locs1 → W p l e R s m args below meth c H1 locs1 (cells + 16) (slots + 78027) Q (F0 m 3517 ls [])) :
    W p l e R s m args below meth c H locs cells slots Q (F0 m 3375 ls []) := by
  refine mk_arr (n := 1400) (N := 1400) (a0 := (1400, .inl (fun _ => 0))) (ty := .int) hx hb ht hown hM hin hK hA hl hP hD hS d_M_init_3375 (fun st k => lv_sipush (v := 1400) hx hb d_M_init_3376 (by decide) k) d_M_init_3379 d_M_init_3381 ac_int rfl (fun _ h => by cases h) 1 rfl (fun _ => rfl) (by decide) (by decide) (by decide) (by omega) (by omega) 41 (by decide) lk_M_41 rfl (fun _ => rfl) (fun _ => rfl) (fun q41 H locs hP hD hS => ?_)
  refine mk_arr (n := 1400) (N := 1400) (a0 := (1400, .inl (fun _ => 0))) (ty := .int) hx hb ht hown hM hin hK hA hl hP hD hS d_M_init_3384 (fun st k => lv_sipush (v := 1400) hx hb d_M_init_3385 (by decide) k) d_M_init_3388 d_M_init_3390 ac_int rfl (fun _ h => by cases h) 1 rfl (fun _ => rfl) (by decide) (by decide) (by decide) (by omega) (by omega) 42 (by decide) lk_M_42 rfl (fun _ => rfl) (fun _ => rfl) (fun q42 H locs hP hD hS => ?_)
  refine mk_arr (n := 1400) (N := 1400) (a0 := (1400, .inl (fun _ => 0))) (ty := .int) hx hb ht hown hM hin hK hA hl hP hD hS d_M_init_3393 (fun st k => lv_sipush (v := 1400) hx hb d_M_init_3394 (by decide) k) d_M_init_3397 d_M_init_3399 ac_int rfl (fun _ h => by cases h) 1 rfl (fun _ => rfl) (by decide) (by decide) (by decide) (by omega) (by omega) 43 (by decide) lk_M_43 rfl (fun _ => rfl) (fun _ => rfl) (fun q43 H locs hP hD hS => ?_)
  refine mk_arr (n := 1400) (N := 1400) (a0 := (1400, .inl (fun _ => 0))) (ty := .int) hx hb ht hown hM hin hK hA hl hP hD hS d_M_init_3402 (fun st k => lv_sipush (v := 1400) hx hb d_M_init_3403 (by decide) k) d_M_init_3406 d_M_init_3408 ac_int rfl (fun _ h => by cases h) 1 rfl (fun _ => rfl) (by decide) (by decide) (by decide) (by omega) (by omega) 44 (by decide) lk_M_44 rfl (fun _ => rfl) (fun _ => rfl) (fun q44 H locs hP hD hS => ?_)
  refine mk_arr (n := 1400) (N := 1400) (a0 := (1400, .inl (fun _ => 0))) (ty := .int) hx hb ht hown hM hin hK hA hl hP hD hS d_M_init_3411 (fun st k => lv_sipush (v := 1400) hx hb d_M_init_3412 (by decide) k) d_M_init_3415 d_M_init_3417 ac_int rfl (fun _ h => by cases h) 1 rfl (fun _ => rfl) (by decide) (by decide) (by decide) (by omega) (by omega) 45 (by decide) lk_M_45 rfl (fun _ => rfl) (fun _ => rfl) (fun q45 H locs hP hD hS => ?_)
  refine mk_arr (n := 1000) (N := 1000) (a0 := (1000, .inl (fun _ => 0))) (ty := .int) hx hb ht hown hM hin hK hA hl hP hD hS d_M_init_3420 (fun st k => lv_sipush (v := 1000) hx hb d_M_init_3421 (by decide) k) d_M_init_3424 d_M_init_3426 ac_int rfl (fun _ h => by cases h) 1 rfl (fun _ => rfl) (by decide) (by decide) (by decide) (by omega) (by omega) 47 (by decide) lk_M_47 rfl (fun _ => rfl) (fun _ => rfl) (fun q47 H locs hP hD hS => ?_)
  refine mk_arr (n := 1000) (N := 1000) (a0 := (1000, .inl (fun _ => 0))) (ty := .int) hx hb ht hown hM hin hK hA hl hP hD hS d_M_init_3429 (fun st k => lv_sipush (v := 1000) hx hb d_M_init_3430 (by decide) k) d_M_init_3433 d_M_init_3435 ac_int rfl (fun _ h => by cases h) 1 rfl (fun _ => rfl) (by decide) (by decide) (by decide) (by omega) (by omega) 48 (by decide) lk_M_48 rfl (fun _ => rfl) (fun _ => rfl) (fun q48 H locs hP hD hS => ?_)
  refine mk_arr (n := 1000) (N := 1000) (a0 := (1000, .inl (fun _ => 0))) (ty := .int) hx hb ht hown hM hin hK hA hl hP hD hS d_M_init_3438 (fun st k => lv_sipush (v := 1000) hx hb d_M_init_3439 (by decide) k) d_M_init_3442 d_M_init_3444 ac_int rfl (fun _ h => by cases h) 1 rfl (fun _ => rfl) (by decide) (by decide) (by decide) (by omega) (by omega) 49 (by decide) lk_M_49 rfl (fun _ => rfl) (fun _ => rfl) (fun q49 H locs hP hD hS => ?_)
  refine mk_arr (n := 1000) (N := 1000) (a0 := (1000, .inl (fun _ => 0))) (ty := .int) hx hb ht hown hM hin hK hA hl hP hD hS d_M_init_3447 (fun st k => lv_sipush (v := 1000) hx hb d_M_init_3448 (by decide) k) d_M_init_3451 d_M_init_3453 ac_int rfl (fun _ h => by cases h) 1 rfl (fun _ => rfl) (by decide) (by decide) (by decide) (by omega) (by omega) 50 (by decide) lk_M_50 rfl (fun _ => rfl) (fun _ => rfl) (fun q50 H locs hP hD hS => ?_)
  refine mk_arr (n := 1000) (N := 1000) (a0 := (1000, .inl (fun _ => 0))) (ty := .int) hx hb ht hown hM hin hK hA hl hP hD hS d_M_init_3456 (fun st k => lv_sipush (v := 1000) hx hb d_M_init_3457 (by decide) k) d_M_init_3460 d_M_init_3462 ac_int rfl (fun _ h => by cases h) 1 rfl (fun _ => rfl) (by decide) (by decide) (by decide) (by omega) (by omega) 51 (by decide) lk_M_51 rfl (fun _ => rfl) (fun _ => rfl) (fun q51 H locs hP hD hS => ?_)
  refine mk_arr (n := 1400) (N := 1400) (a0 := (1400, .inl (fun _ => 0))) (ty := .int) hx hb ht hown hM hin hK hA hl hP hD hS d_M_init_3465 (fun st k => lv_sipush (v := 1400) hx hb d_M_init_3466 (by decide) k) d_M_init_3469 d_M_init_3471 ac_int rfl (fun _ h => by cases h) 1 rfl (fun _ => rfl) (by decide) (by decide) (by decide) (by omega) (by omega) 53 (by decide) lk_M_53 rfl (fun _ => rfl) (fun _ => rfl) (fun q53 H locs hP hD hS => ?_)
  refine mk_arr (n := 1400) (N := 1400) (a0 := (1400, .inl (fun _ => 0))) (ty := .int) hx hb ht hown hM hin hK hA hl hP hD hS d_M_init_3474 (fun st k => lv_sipush (v := 1400) hx hb d_M_init_3475 (by decide) k) d_M_init_3478 d_M_init_3480 ac_int rfl (fun _ h => by cases h) 1 rfl (fun _ => rfl) (by decide) (by decide) (by decide) (by omega) (by omega) 54 (by decide) lk_M_54 rfl (fun _ => rfl) (fun _ => rfl) (fun q54 H locs hP hD hS => ?_)
  refine mk_arr (n := 1400) (N := 1400) (a0 := (1400, .inl (fun _ => 0))) (ty := .int) hx hb ht hown hM hin hK hA hl hP hD hS d_M_init_3483 (fun st k => lv_sipush (v := 1400) hx hb d_M_init_3484 (by decide) k) d_M_init_3487 d_M_init_3489 ac_int rfl (fun _ h => by cases h) 1 rfl (fun _ => rfl) (by decide) (by decide) (by decide) (by omega) (by omega) 55 (by decide) lk_M_55 rfl (fun _ => rfl) (fun _ => rfl) (fun q55 H locs hP hD hS => ?_)
  refine mk_arr (n := 24000) (N := 24000) (a0 := (24000, .inl (fun _ => 0))) (ty := .int) hx hb ht hown hM hin hK hA hl hP hD hS d_M_init_3492 (fun st k => lv_sipush (v := 24000) hx hb d_M_init_3493 (by decide) k) d_M_init_3496 d_M_init_3498 ac_int rfl (fun _ h => by cases h) 1 rfl (fun _ => rfl) (by decide) (by decide) (by decide) (by omega) (by omega) 57 (by decide) lk_M_57 rfl (fun _ => rfl) (fun _ => rfl) (fun q57 H locs hP hD hS => ?_)
  refine mk_arr (n := 37800) (N := 37800) (a0 := (37800, .inl (fun _ => 0))) (ty := .int) hx hb ht hown hM hin hK hA hl hP hD hS d_M_init_3501 (fun st k => lv_ldc (v := 37800) hx hb hown (ht _ kc_M_149) d_M_init_3502 k) d_M_init_3504 d_M_init_3506 ac_int rfl (fun _ h => by cases h) 1 rfl (fun _ => rfl) (by decide) (by decide) (by decide) (by omega) (by omega) 59 (by decide) lk_M_59 rfl (fun _ => rfl) (fun _ => rfl) (fun q59 H locs hP hD hS => ?_)
  refine mk_arr (n := 27) (N := 27) (a0 := (27, .inl (fun _ => 0))) (ty := .int) hx hb ht hown hM hin hK hA hl hP hD hS d_M_init_3509 (fun st k => lv_bipush (v := 27) hx hb d_M_init_3510 (by decide) k) d_M_init_3512 d_M_init_3514 ac_int rfl (fun _ h => by cases h) 1 rfl (fun _ => rfl) (by decide) (by decide) (by decide) (by omega) (by omega) 60 (by decide) lk_M_60 rfl (fun _ => rfl) (fun _ => rfl) (fun q60 H locs hP hD hS => ?_)
  refine W.widen (k := cells + 16) (n := slots + 78027) (by omega) (by omega) ?_
  exact kk q41 q42 q43 q44 q45 q47 q48 q49 q50 q51 q53 q54 q55 q57 q59 q60 H locs hP hD hS
set_option maxRecDepth 100000 in
set_option maxHeartbeats 4000000 in
theorem sg_8 {p : Program} {l : Launch} {e : Env} {R : Room} {s : State} {m : MethodId} {args : Array Value} {below : List Frame} {meth : Method} {c : Code} {H : Heap} {locs : List Loc} {cells slots : Nat} {Q : State → Prop} {ls : Array Slot} {D : va_G} {cl : List vw_C} {cB cI cJ cZ cS : ClassId} {rst : va_W} {A : Nat → Prop} {H0 : Heap} {iM h0 : Nat} {V : Nat → Value} (hx : p.tables.exec = Jvm.exec) (hb : c.code = b_M_init) (ht : ∀ w ∈ wd_tbl, w.before args s = true) (hown : s.vm.findClass R_M = some m.cls) (hM : cl[iM]? = some (R_M, F_M, 171)) (hin : meth.name = "<init>") (hK : va_K D cl (ty5 cB cI cJ cZ cS) s) (hA : ∀ q, H0.size ≤ q → A q) (hl : ls[0]? = some (.val (.ref h0))) (hP : va_P D cl ((h0, .inr (iM, fl 171 V)) :: rst) H) (hD : va_D A ((h0, .inr (iM, fl 171 V)) :: rst)) (hS : va_S A H0 H locs) (hc : cells + 16 ≤ R.cells) (hs : slots + 1207894 ≤ R.slots)
    (kk : ∀ (q61 q62 q63 q64 q74 q76 q78 q79 q80 q81 q82 q88 q89 q90 q91 q92 : Nat) (H1 : Heap) (locs1 : List Loc), va_P D cl ((h0, .inr (iM, fl 171 (va_up (va_up (va_up (va_up (va_up (va_up (va_up (va_up (va_up (va_up (va_up (va_up (va_up (va_up (va_up (va_up V 61 (.ref q61)) 62 (.ref q62)) 63 (.ref q63)) 64 (.ref q64)) 74 (.ref q74)) 76 (.ref q76)) 78 (.ref q78)) 79 (.ref q79)) 80 (.ref q80)) 81 (.ref q81)) 82 (.ref q82)) 88 (.ref q88)) 89 (.ref q89)) 90 (.ref q90)) 91 (.ref q91)) 92 (.ref q92)))) :: ((q92, .inl (cI, (24, .inl (fun _ => 0)))) :: ((q91, .inl (cJ, (1104000, .inr (.inl (fun _ => 0))))) :: ((q90, .inl (cI, (24, .inl (fun _ => 0)))) :: ((q89, .inl (cI, (25, .inl (fun _ => 0)))) :: ((q88, .inl (cJ, (12500, .inr (.inl (fun _ => 0))))) :: ((q82, .inl (cI, (3000, .inl (fun _ => 0)))) :: ((q81, .inl (cI, (3000, .inl (fun _ => 0)))) :: ((q80, .inl (cS, (3000, .inl (fun _ => 0)))) :: ((q79, .inl (cB, (3000, .inl (fun _ => 0)))) :: ((q78, .inl (cI, (27, .inl (fun _ => 0)))) :: ((q76, .inl (cI, (3240, .inl (fun _ => 0)))) :: ((q74, .inl (cI, (400, .inl (fun _ => 0)))) :: ((q64, .inl (cI, (27, .inl (fun _ => 0)))) :: ((q63, .inl (cI, (27, .inl (fun _ => 0)))) :: ((q62, .inl (cI, (37800, .inl (fun _ => 0)))) :: ((q61, .inl (cI, (37800, .inl (fun _ => 0)))) :: rst))))))))))))))))) H1 → va_D A ((h0, .inr (iM, fl 171 (va_up (va_up (va_up (va_up (va_up (va_up (va_up (va_up (va_up (va_up (va_up (va_up (va_up (va_up (va_up (va_up V 61 (.ref q61)) 62 (.ref q62)) 63 (.ref q63)) 64 (.ref q64)) 74 (.ref q74)) 76 (.ref q76)) 78 (.ref q78)) 79 (.ref q79)) 80 (.ref q80)) 81 (.ref q81)) 82 (.ref q82)) 88 (.ref q88)) 89 (.ref q89)) 90 (.ref q90)) 91 (.ref q91)) 92 (.ref q92)))) :: ((q92, .inl (cI, (24, .inl (fun _ => 0)))) :: ((q91, .inl (cJ, (1104000, .inr (.inl (fun _ => 0))))) :: ((q90, .inl (cI, (24, .inl (fun _ => 0)))) :: ((q89, .inl (cI, (25, .inl (fun _ => 0)))) :: ((q88, .inl (cJ, (12500, .inr (.inl (fun _ => 0))))) :: ((q82, .inl (cI, (3000, .inl (fun _ => 0)))) :: ((q81, .inl (cI, (3000, .inl (fun _ => 0)))) :: ((q80, .inl (cS, (3000, .inl (fun _ => 0)))) :: ((q79, .inl (cB, (3000, .inl (fun _ => 0)))) :: ((q78, .inl (cI, (27, .inl (fun _ => 0)))) :: ((q76, .inl (cI, (3240, .inl (fun _ => 0)))) :: ((q74, .inl (cI, (400, .inl (fun _ => 0)))) :: ((q64, .inl (cI, (27, .inl (fun _ => 0)))) :: ((q63, .inl (cI, (27, .inl (fun _ => 0)))) :: ((q62, .inl (cI, (37800, .inl (fun _ => 0)))) :: ((q61, .inl (cI, (37800, .inl (fun _ => 0)))) :: rst))))))))))))))))) → va_S A H0 H1 locs1 → W p l e R s m args below meth c H1 locs1 (cells + 16) (slots + 1207894) Q (F0 m 3652 ls [])) :
    W p l e R s m args below meth c H locs cells slots Q (F0 m 3517 ls []) := by
  refine mk_arr (n := 37800) (N := 37800) (a0 := (37800, .inl (fun _ => 0))) (ty := .int) hx hb ht hown hM hin hK hA hl hP hD hS d_M_init_3517 (fun st k => lv_ldc (v := 37800) hx hb hown (ht _ kc_M_149) d_M_init_3518 k) d_M_init_3520 d_M_init_3522 ac_int rfl (fun _ h => by cases h) 1 rfl (fun _ => rfl) (by decide) (by decide) (by decide) (by omega) (by omega) 61 (by decide) lk_M_61 rfl (fun _ => rfl) (fun _ => rfl) (fun q61 H locs hP hD hS => ?_)
  refine mk_arr (n := 37800) (N := 37800) (a0 := (37800, .inl (fun _ => 0))) (ty := .int) hx hb ht hown hM hin hK hA hl hP hD hS d_M_init_3525 (fun st k => lv_ldc (v := 37800) hx hb hown (ht _ kc_M_149) d_M_init_3526 k) d_M_init_3528 d_M_init_3530 ac_int rfl (fun _ h => by cases h) 1 rfl (fun _ => rfl) (by decide) (by decide) (by decide) (by omega) (by omega) 62 (by decide) lk_M_62 rfl (fun _ => rfl) (fun _ => rfl) (fun q62 H locs hP hD hS => ?_)
  refine mk_arr (n := 27) (N := 27) (a0 := (27, .inl (fun _ => 0))) (ty := .int) hx hb ht hown hM hin hK hA hl hP hD hS d_M_init_3533 (fun st k => lv_bipush (v := 27) hx hb d_M_init_3534 (by decide) k) d_M_init_3536 d_M_init_3538 ac_int rfl (fun _ h => by cases h) 1 rfl (fun _ => rfl) (by decide) (by decide) (by decide) (by omega) (by omega) 63 (by decide) lk_M_63 rfl (fun _ => rfl) (fun _ => rfl) (fun q63 H locs hP hD hS => ?_)
  refine mk_arr (n := 27) (N := 27) (a0 := (27, .inl (fun _ => 0))) (ty := .int) hx hb ht hown hM hin hK hA hl hP hD hS d_M_init_3541 (fun st k => lv_bipush (v := 27) hx hb d_M_init_3542 (by decide) k) d_M_init_3544 d_M_init_3546 ac_int rfl (fun _ h => by cases h) 1 rfl (fun _ => rfl) (by decide) (by decide) (by decide) (by omega) (by omega) 64 (by decide) lk_M_64 rfl (fun _ => rfl) (fun _ => rfl) (fun q64 H locs hP hD hS => ?_)
  refine mk_arr (n := 400) (N := 400) (a0 := (400, .inl (fun _ => 0))) (ty := .int) hx hb ht hown hM hin hK hA hl hP hD hS d_M_init_3549 (fun st k => lv_sipush (v := 400) hx hb d_M_init_3550 (by decide) k) d_M_init_3553 d_M_init_3555 ac_int rfl (fun _ h => by cases h) 1 rfl (fun _ => rfl) (by decide) (by decide) (by decide) (by omega) (by omega) 74 (by decide) lk_M_74 rfl (fun _ => rfl) (fun _ => rfl) (fun q74 H locs hP hD hS => ?_)
  refine mk_arr (n := 3240) (N := 3240) (a0 := (3240, .inl (fun _ => 0))) (ty := .int) hx hb ht hown hM hin hK hA hl hP hD hS d_M_init_3558 (fun st k => lv_sipush (v := 3240) hx hb d_M_init_3559 (by decide) k) d_M_init_3562 d_M_init_3564 ac_int rfl (fun _ h => by cases h) 1 rfl (fun _ => rfl) (by decide) (by decide) (by decide) (by omega) (by omega) 76 (by decide) lk_M_76 rfl (fun _ => rfl) (fun _ => rfl) (fun q76 H locs hP hD hS => ?_)
  refine mk_arr (n := 27) (N := 27) (a0 := (27, .inl (fun _ => 0))) (ty := .int) hx hb ht hown hM hin hK hA hl hP hD hS d_M_init_3567 (fun st k => lv_bipush (v := 27) hx hb d_M_init_3568 (by decide) k) d_M_init_3570 d_M_init_3572 ac_int rfl (fun _ h => by cases h) 1 rfl (fun _ => rfl) (by decide) (by decide) (by decide) (by omega) (by omega) 78 (by decide) lk_M_78 rfl (fun _ => rfl) (fun _ => rfl) (fun q78 H locs hP hD hS => ?_)
  refine mk_arr (n := 3000) (N := 3000) (a0 := (3000, .inl (fun _ => 0))) (ty := .byte) hx hb ht hown hM hin hK hA hl hP hD hS d_M_init_3575 (fun st k => lv_sipush (v := 3000) hx hb d_M_init_3576 (by decide) k) d_M_init_3579 d_M_init_3581 ac_byte rfl (fun _ h => by cases h) 0 rfl (fun _ => rfl) (by decide) (by decide) (by decide) (by omega) (by omega) 79 (by decide) lk_M_79 rfl (fun _ => rfl) (fun _ => rfl) (fun q79 H locs hP hD hS => ?_)
  refine mk_arr (n := 3000) (N := 3000) (a0 := (3000, .inl (fun _ => 0))) (ty := .short) hx hb ht hown hM hin hK hA hl hP hD hS d_M_init_3584 (fun st k => lv_sipush (v := 3000) hx hb d_M_init_3585 (by decide) k) d_M_init_3588 d_M_init_3590 ac_short rfl (fun _ h => by cases h) 4 rfl (fun _ => rfl) (by decide) (by decide) (by decide) (by omega) (by omega) 80 (by decide) lk_M_80 rfl (fun _ => rfl) (fun _ => rfl) (fun q80 H locs hP hD hS => ?_)
  refine mk_arr (n := 3000) (N := 3000) (a0 := (3000, .inl (fun _ => 0))) (ty := .int) hx hb ht hown hM hin hK hA hl hP hD hS d_M_init_3593 (fun st k => lv_sipush (v := 3000) hx hb d_M_init_3594 (by decide) k) d_M_init_3597 d_M_init_3599 ac_int rfl (fun _ h => by cases h) 1 rfl (fun _ => rfl) (by decide) (by decide) (by decide) (by omega) (by omega) 81 (by decide) lk_M_81 rfl (fun _ => rfl) (fun _ => rfl) (fun q81 H locs hP hD hS => ?_)
  refine mk_arr (n := 3000) (N := 3000) (a0 := (3000, .inl (fun _ => 0))) (ty := .int) hx hb ht hown hM hin hK hA hl hP hD hS d_M_init_3602 (fun st k => lv_sipush (v := 3000) hx hb d_M_init_3603 (by decide) k) d_M_init_3606 d_M_init_3608 ac_int rfl (fun _ h => by cases h) 1 rfl (fun _ => rfl) (by decide) (by decide) (by decide) (by omega) (by omega) 82 (by decide) lk_M_82 rfl (fun _ => rfl) (fun _ => rfl) (fun q82 H locs hP hD hS => ?_)
  refine mk_arr (n := 12500) (N := 12500) (a0 := (12500, .inr (.inl (fun _ => 0)))) (ty := .long) hx hb ht hown hM hin hK hA hl hP hD hS d_M_init_3611 (fun st k => lv_sipush (v := 12500) hx hb d_M_init_3612 (by decide) k) d_M_init_3615 d_M_init_3617 ac_long rfl (fun _ h => by cases h) 2 rfl (fun _ => rfl) (by decide) (by decide) (by decide) (by omega) (by omega) 88 (by decide) lk_M_88 rfl (fun _ => rfl) (fun _ => rfl) (fun q88 H locs hP hD hS => ?_)
  refine mk_arr (n := 25) (N := 25) (a0 := (25, .inl (fun _ => 0))) (ty := .int) hx hb ht hown hM hin hK hA hl hP hD hS d_M_init_3620 (fun st k => lv_bipush (v := 25) hx hb d_M_init_3621 (by decide) k) d_M_init_3623 d_M_init_3625 ac_int rfl (fun _ h => by cases h) 1 rfl (fun _ => rfl) (by decide) (by decide) (by decide) (by omega) (by omega) 89 (by decide) lk_M_89 rfl (fun _ => rfl) (fun _ => rfl) (fun q89 H locs hP hD hS => ?_)
  refine mk_arr (n := 24) (N := 24) (a0 := (24, .inl (fun _ => 0))) (ty := .int) hx hb ht hown hM hin hK hA hl hP hD hS d_M_init_3628 (fun st k => lv_bipush (v := 24) hx hb d_M_init_3629 (by decide) k) d_M_init_3631 d_M_init_3633 ac_int rfl (fun _ h => by cases h) 1 rfl (fun _ => rfl) (by decide) (by decide) (by decide) (by omega) (by omega) 90 (by decide) lk_M_90 rfl (fun _ => rfl) (fun _ => rfl) (fun q90 H locs hP hD hS => ?_)
  refine mk_arr (n := 1104000) (N := 1104000) (a0 := (1104000, .inr (.inl (fun _ => 0)))) (ty := .long) hx hb ht hown hM hin hK hA hl hP hD hS d_M_init_3636 (fun st k => lv_ldc (v := 1104000) hx hb hown (ht _ kc_M_198) d_M_init_3637 k) d_M_init_3639 d_M_init_3641 ac_long rfl (fun _ h => by cases h) 2 rfl (fun _ => rfl) (by decide) (by decide) (by decide) (by omega) (by omega) 91 (by decide) lk_M_91 rfl (fun _ => rfl) (fun _ => rfl) (fun q91 H locs hP hD hS => ?_)
  refine mk_arr (n := 24) (N := 24) (a0 := (24, .inl (fun _ => 0))) (ty := .int) hx hb ht hown hM hin hK hA hl hP hD hS d_M_init_3644 (fun st k => lv_bipush (v := 24) hx hb d_M_init_3645 (by decide) k) d_M_init_3647 d_M_init_3649 ac_int rfl (fun _ h => by cases h) 1 rfl (fun _ => rfl) (by decide) (by decide) (by decide) (by omega) (by omega) 92 (by decide) lk_M_92 rfl (fun _ => rfl) (fun _ => rfl) (fun q92 H locs hP hD hS => ?_)
  refine W.widen (k := cells + 16) (n := slots + 1207894) (by omega) (by omega) ?_
  exact kk q61 q62 q63 q64 q74 q76 q78 q79 q80 q81 q82 q88 q89 q90 q91 q92 H locs hP hD hS
set_option maxRecDepth 100000 in
set_option maxHeartbeats 4000000 in
theorem sg_9 {p : Program} {l : Launch} {e : Env} {R : Room} {s : State} {m : MethodId} {args : Array Value} {below : List Frame} {meth : Method} {c : Code} {H : Heap} {locs : List Loc} {cells slots : Nat} {Q : State → Prop} {ls : Array Slot} {D : va_G} {cl : List vw_C} {cB cI cJ cZ cS : ClassId} {rst : va_W} {A : Nat → Prop} {H0 : Heap} {iM h0 : Nat} {V : Nat → Value} (hx : p.tables.exec = Jvm.exec) (hb : c.code = b_M_init) (ht : ∀ w ∈ wd_tbl, w.before args s = true) (hown : s.vm.findClass R_M = some m.cls) (hM : cl[iM]? = some (R_M, F_M, 171)) (hin : meth.name = "<init>") (hK : va_K D cl (ty5 cB cI cJ cZ cS) s) (hA : ∀ q, H0.size ≤ q → A q) (hl : ls[0]? = some (.val (.ref h0))) (hP : va_P D cl ((h0, .inr (iM, fl 171 V)) :: rst) H) (hD : va_D A ((h0, .inr (iM, fl 171 V)) :: rst)) (hS : va_S A H0 H locs) (hc : cells + 16 ≤ R.cells) (hs : slots + 223056 ≤ R.slots)
    (kk : ∀ (q93 q94 q95 q96 q97 q98 q99 q100 q101 q102 q103 q104 q105 q106 q107 q108 : Nat) (H1 : Heap) (locs1 : List Loc), va_P D cl ((h0, .inr (iM, fl 171 (va_up (va_up (va_up (va_up (va_up (va_up (va_up (va_up (va_up (va_up (va_up (va_up (va_up (va_up (va_up (va_up V 93 (.ref q93)) 94 (.ref q94)) 95 (.ref q95)) 96 (.ref q96)) 97 (.ref q97)) 98 (.ref q98)) 99 (.ref q99)) 100 (.ref q100)) 101 (.ref q101)) 102 (.ref q102)) 103 (.ref q103)) 104 (.ref q104)) 105 (.ref q105)) 106 (.ref q106)) 107 (.ref q107)) 108 (.ref q108)))) :: ((q108, .inl (cI, (24, .inl (fun _ => 0)))) :: ((q107, .inl (cJ, (720, .inr (.inl (fun _ => 0))))) :: ((q106, .inl (cI, (24, .inl (fun _ => 0)))) :: ((q105, .inl (cI, (38400, .inl (fun _ => 0)))) :: ((q104, .inl (cI, (38400, .inl (fun _ => 0)))) :: ((q103, .inl (cI, (38400, .inl (fun _ => 0)))) :: ((q102, .inl (cI, (38400, .inl (fun _ => 0)))) :: ((q101, .inl (cI, (1440, .inl (fun _ => 0)))) :: ((q100, .inl (cI, (1440, .inl (fun _ => 0)))) :: ((q99, .inl (cI, (1440, .inl (fun _ => 0)))) :: ((q98, .inl (cI, (1440, .inl (fun _ => 0)))) :: ((q97, .inl (cI, (1440, .inl (fun _ => 0)))) :: ((q96, .inl (cI, (1440, .inl (fun _ => 0)))) :: ((q95, .inl (cI, (24, .inl (fun _ => 0)))) :: ((q94, .inl (cI, (24, .inl (fun _ => 0)))) :: ((q93, .inl (cJ, (60000, .inr (.inl (fun _ => 0))))) :: rst))))))))))))))))) H1 → va_D A ((h0, .inr (iM, fl 171 (va_up (va_up (va_up (va_up (va_up (va_up (va_up (va_up (va_up (va_up (va_up (va_up (va_up (va_up (va_up (va_up V 93 (.ref q93)) 94 (.ref q94)) 95 (.ref q95)) 96 (.ref q96)) 97 (.ref q97)) 98 (.ref q98)) 99 (.ref q99)) 100 (.ref q100)) 101 (.ref q101)) 102 (.ref q102)) 103 (.ref q103)) 104 (.ref q104)) 105 (.ref q105)) 106 (.ref q106)) 107 (.ref q107)) 108 (.ref q108)))) :: ((q108, .inl (cI, (24, .inl (fun _ => 0)))) :: ((q107, .inl (cJ, (720, .inr (.inl (fun _ => 0))))) :: ((q106, .inl (cI, (24, .inl (fun _ => 0)))) :: ((q105, .inl (cI, (38400, .inl (fun _ => 0)))) :: ((q104, .inl (cI, (38400, .inl (fun _ => 0)))) :: ((q103, .inl (cI, (38400, .inl (fun _ => 0)))) :: ((q102, .inl (cI, (38400, .inl (fun _ => 0)))) :: ((q101, .inl (cI, (1440, .inl (fun _ => 0)))) :: ((q100, .inl (cI, (1440, .inl (fun _ => 0)))) :: ((q99, .inl (cI, (1440, .inl (fun _ => 0)))) :: ((q98, .inl (cI, (1440, .inl (fun _ => 0)))) :: ((q97, .inl (cI, (1440, .inl (fun _ => 0)))) :: ((q96, .inl (cI, (1440, .inl (fun _ => 0)))) :: ((q95, .inl (cI, (24, .inl (fun _ => 0)))) :: ((q94, .inl (cI, (24, .inl (fun _ => 0)))) :: ((q93, .inl (cJ, (60000, .inr (.inl (fun _ => 0))))) :: rst))))))))))))))))) → va_S A H0 H1 locs1 → W p l e R s m args below meth c H1 locs1 (cells + 16) (slots + 223056) Q (F0 m 3787 ls [])) :
    W p l e R s m args below meth c H locs cells slots Q (F0 m 3652 ls []) := by
  refine mk_arr (n := 60000) (N := 60000) (a0 := (60000, .inr (.inl (fun _ => 0)))) (ty := .long) hx hb ht hown hM hin hK hA hl hP hD hS d_M_init_3652 (fun st k => lv_ldc (v := 60000) hx hb hown (ht _ kc_M_205) d_M_init_3653 k) d_M_init_3655 d_M_init_3657 ac_long rfl (fun _ h => by cases h) 2 rfl (fun _ => rfl) (by decide) (by decide) (by decide) (by omega) (by omega) 93 (by decide) lk_M_93 rfl (fun _ => rfl) (fun _ => rfl) (fun q93 H locs hP hD hS => ?_)
  refine mk_arr (n := 24) (N := 24) (a0 := (24, .inl (fun _ => 0))) (ty := .int) hx hb ht hown hM hin hK hA hl hP hD hS d_M_init_3660 (fun st k => lv_bipush (v := 24) hx hb d_M_init_3661 (by decide) k) d_M_init_3663 d_M_init_3665 ac_int rfl (fun _ h => by cases h) 1 rfl (fun _ => rfl) (by decide) (by decide) (by decide) (by omega) (by omega) 94 (by decide) lk_M_94 rfl (fun _ => rfl) (fun _ => rfl) (fun q94 H locs hP hD hS => ?_)
  refine mk_arr (n := 24) (N := 24) (a0 := (24, .inl (fun _ => 0))) (ty := .int) hx hb ht hown hM hin hK hA hl hP hD hS d_M_init_3668 (fun st k => lv_bipush (v := 24) hx hb d_M_init_3669 (by decide) k) d_M_init_3671 d_M_init_3673 ac_int rfl (fun _ h => by cases h) 1 rfl (fun _ => rfl) (by decide) (by decide) (by decide) (by omega) (by omega) 95 (by decide) lk_M_95 rfl (fun _ => rfl) (fun _ => rfl) (fun q95 H locs hP hD hS => ?_)
  refine mk_arr (n := 1440) (N := 1440) (a0 := (1440, .inl (fun _ => 0))) (ty := .int) hx hb ht hown hM hin hK hA hl hP hD hS d_M_init_3676 (fun st k => lv_sipush (v := 1440) hx hb d_M_init_3677 (by decide) k) d_M_init_3680 d_M_init_3682 ac_int rfl (fun _ h => by cases h) 1 rfl (fun _ => rfl) (by decide) (by decide) (by decide) (by omega) (by omega) 96 (by decide) lk_M_96 rfl (fun _ => rfl) (fun _ => rfl) (fun q96 H locs hP hD hS => ?_)
  refine mk_arr (n := 1440) (N := 1440) (a0 := (1440, .inl (fun _ => 0))) (ty := .int) hx hb ht hown hM hin hK hA hl hP hD hS d_M_init_3685 (fun st k => lv_sipush (v := 1440) hx hb d_M_init_3686 (by decide) k) d_M_init_3689 d_M_init_3691 ac_int rfl (fun _ h => by cases h) 1 rfl (fun _ => rfl) (by decide) (by decide) (by decide) (by omega) (by omega) 97 (by decide) lk_M_97 rfl (fun _ => rfl) (fun _ => rfl) (fun q97 H locs hP hD hS => ?_)
  refine mk_arr (n := 1440) (N := 1440) (a0 := (1440, .inl (fun _ => 0))) (ty := .int) hx hb ht hown hM hin hK hA hl hP hD hS d_M_init_3694 (fun st k => lv_sipush (v := 1440) hx hb d_M_init_3695 (by decide) k) d_M_init_3698 d_M_init_3700 ac_int rfl (fun _ h => by cases h) 1 rfl (fun _ => rfl) (by decide) (by decide) (by decide) (by omega) (by omega) 98 (by decide) lk_M_98 rfl (fun _ => rfl) (fun _ => rfl) (fun q98 H locs hP hD hS => ?_)
  refine mk_arr (n := 1440) (N := 1440) (a0 := (1440, .inl (fun _ => 0))) (ty := .int) hx hb ht hown hM hin hK hA hl hP hD hS d_M_init_3703 (fun st k => lv_sipush (v := 1440) hx hb d_M_init_3704 (by decide) k) d_M_init_3707 d_M_init_3709 ac_int rfl (fun _ h => by cases h) 1 rfl (fun _ => rfl) (by decide) (by decide) (by decide) (by omega) (by omega) 99 (by decide) lk_M_99 rfl (fun _ => rfl) (fun _ => rfl) (fun q99 H locs hP hD hS => ?_)
  refine mk_arr (n := 1440) (N := 1440) (a0 := (1440, .inl (fun _ => 0))) (ty := .int) hx hb ht hown hM hin hK hA hl hP hD hS d_M_init_3712 (fun st k => lv_sipush (v := 1440) hx hb d_M_init_3713 (by decide) k) d_M_init_3716 d_M_init_3718 ac_int rfl (fun _ h => by cases h) 1 rfl (fun _ => rfl) (by decide) (by decide) (by decide) (by omega) (by omega) 100 (by decide) lk_M_100 rfl (fun _ => rfl) (fun _ => rfl) (fun q100 H locs hP hD hS => ?_)
  refine mk_arr (n := 1440) (N := 1440) (a0 := (1440, .inl (fun _ => 0))) (ty := .int) hx hb ht hown hM hin hK hA hl hP hD hS d_M_init_3721 (fun st k => lv_sipush (v := 1440) hx hb d_M_init_3722 (by decide) k) d_M_init_3725 d_M_init_3727 ac_int rfl (fun _ h => by cases h) 1 rfl (fun _ => rfl) (by decide) (by decide) (by decide) (by omega) (by omega) 101 (by decide) lk_M_101 rfl (fun _ => rfl) (fun _ => rfl) (fun q101 H locs hP hD hS => ?_)
  refine mk_arr (n := 38400) (N := 38400) (a0 := (38400, .inl (fun _ => 0))) (ty := .int) hx hb ht hown hM hin hK hA hl hP hD hS d_M_init_3730 (fun st k => lv_ldc (v := 38400) hx hb hown (ht _ kc_M_233) d_M_init_3731 k) d_M_init_3733 d_M_init_3735 ac_int rfl (fun _ h => by cases h) 1 rfl (fun _ => rfl) (by decide) (by decide) (by decide) (by omega) (by omega) 102 (by decide) lk_M_102 rfl (fun _ => rfl) (fun _ => rfl) (fun q102 H locs hP hD hS => ?_)
  refine mk_arr (n := 38400) (N := 38400) (a0 := (38400, .inl (fun _ => 0))) (ty := .int) hx hb ht hown hM hin hK hA hl hP hD hS d_M_init_3738 (fun st k => lv_ldc (v := 38400) hx hb hown (ht _ kc_M_233) d_M_init_3739 k) d_M_init_3741 d_M_init_3743 ac_int rfl (fun _ h => by cases h) 1 rfl (fun _ => rfl) (by decide) (by decide) (by decide) (by omega) (by omega) 103 (by decide) lk_M_103 rfl (fun _ => rfl) (fun _ => rfl) (fun q103 H locs hP hD hS => ?_)
  refine mk_arr (n := 38400) (N := 38400) (a0 := (38400, .inl (fun _ => 0))) (ty := .int) hx hb ht hown hM hin hK hA hl hP hD hS d_M_init_3746 (fun st k => lv_ldc (v := 38400) hx hb hown (ht _ kc_M_233) d_M_init_3747 k) d_M_init_3749 d_M_init_3751 ac_int rfl (fun _ h => by cases h) 1 rfl (fun _ => rfl) (by decide) (by decide) (by decide) (by omega) (by omega) 104 (by decide) lk_M_104 rfl (fun _ => rfl) (fun _ => rfl) (fun q104 H locs hP hD hS => ?_)
  refine mk_arr (n := 38400) (N := 38400) (a0 := (38400, .inl (fun _ => 0))) (ty := .int) hx hb ht hown hM hin hK hA hl hP hD hS d_M_init_3754 (fun st k => lv_ldc (v := 38400) hx hb hown (ht _ kc_M_233) d_M_init_3755 k) d_M_init_3757 d_M_init_3759 ac_int rfl (fun _ h => by cases h) 1 rfl (fun _ => rfl) (by decide) (by decide) (by decide) (by omega) (by omega) 105 (by decide) lk_M_105 rfl (fun _ => rfl) (fun _ => rfl) (fun q105 H locs hP hD hS => ?_)
  refine mk_arr (n := 24) (N := 24) (a0 := (24, .inl (fun _ => 0))) (ty := .int) hx hb ht hown hM hin hK hA hl hP hD hS d_M_init_3762 (fun st k => lv_bipush (v := 24) hx hb d_M_init_3763 (by decide) k) d_M_init_3765 d_M_init_3767 ac_int rfl (fun _ h => by cases h) 1 rfl (fun _ => rfl) (by decide) (by decide) (by decide) (by omega) (by omega) 106 (by decide) lk_M_106 rfl (fun _ => rfl) (fun _ => rfl) (fun q106 H locs hP hD hS => ?_)
  refine mk_arr (n := 720) (N := 720) (a0 := (720, .inr (.inl (fun _ => 0)))) (ty := .long) hx hb ht hown hM hin hK hA hl hP hD hS d_M_init_3770 (fun st k => lv_sipush (v := 720) hx hb d_M_init_3771 (by decide) k) d_M_init_3774 d_M_init_3776 ac_long rfl (fun _ h => by cases h) 2 rfl (fun _ => rfl) (by decide) (by decide) (by decide) (by omega) (by omega) 107 (by decide) lk_M_107 rfl (fun _ => rfl) (fun _ => rfl) (fun q107 H locs hP hD hS => ?_)
  refine mk_arr (n := 24) (N := 24) (a0 := (24, .inl (fun _ => 0))) (ty := .int) hx hb ht hown hM hin hK hA hl hP hD hS d_M_init_3779 (fun st k => lv_bipush (v := 24) hx hb d_M_init_3780 (by decide) k) d_M_init_3782 d_M_init_3784 ac_int rfl (fun _ h => by cases h) 1 rfl (fun _ => rfl) (by decide) (by decide) (by decide) (by omega) (by omega) 108 (by decide) lk_M_108 rfl (fun _ => rfl) (fun _ => rfl) (fun q108 H locs hP hD hS => ?_)
  refine W.widen (k := cells + 16) (n := slots + 223056) (by omega) (by omega) ?_
  exact kk q93 q94 q95 q96 q97 q98 q99 q100 q101 q102 q103 q104 q105 q106 q107 q108 H locs hP hD hS
set_option maxRecDepth 100000 in
set_option maxHeartbeats 4000000 in
theorem sg_10 {p : Program} {l : Launch} {e : Env} {R : Room} {s : State} {m : MethodId} {args : Array Value} {below : List Frame} {meth : Method} {c : Code} {H : Heap} {locs : List Loc} {cells slots : Nat} {Q : State → Prop} {ls : Array Slot} {D : va_G} {cl : List vw_C} {cB cI cJ cZ cS : ClassId} {rst : va_W} {A : Nat → Prop} {H0 : Heap} {iM h0 : Nat} {V : Nat → Value} (hx : p.tables.exec = Jvm.exec) (hb : c.code = b_M_init) (ht : ∀ w ∈ wd_tbl, w.before args s = true) (hown : s.vm.findClass R_M = some m.cls) (hM : cl[iM]? = some (R_M, F_M, 171)) (hin : meth.name = "<init>") (hK : va_K D cl (ty5 cB cI cJ cZ cS) s) (hA : ∀ q, H0.size ≤ q → A q) (hl : ls[0]? = some (.val (.ref h0))) (hP : va_P D cl ((h0, .inr (iM, fl 171 V)) :: rst) H) (hD : va_D A ((h0, .inr (iM, fl 171 V)) :: rst)) (hS : va_S A H0 H locs) (hc : cells + 16 ≤ R.cells) (hs : slots + 35468 ≤ R.slots)
    (kk : ∀ (q109 q110 q111 q112 q113 q114 q115 q116 q117 q122 q123 q124 q126 q127 q129 q131 : Nat) (H1 : Heap) (locs1 : List Loc), va_P D cl ((h0, .inr (iM, fl 171 (va_up (va_up (va_up (va_up (va_up (va_up (va_up (va_up (va_up (va_up (va_up (va_up (va_up (va_up (va_up (va_up V 109 (.ref q109)) 110 (.ref q110)) 111 (.ref q111)) 112 (.ref q112)) 113 (.ref q113)) 114 (.ref q114)) 115 (.ref q115)) 116 (.ref q116)) 117 (.ref q117)) 122 (.ref q122)) 123 (.ref q123)) 124 (.ref q124)) 126 (.ref q126)) 127 (.ref q127)) 129 (.ref q129)) 131 (.ref q131)))) :: ((q131, .inl (cB, (2400, .inl (fun _ => 0)))) :: ((q129, .inl (cB, (100, .inl (fun _ => 0)))) :: ((q127, .inl (cI, (200, .inl (fun _ => 0)))) :: ((q126, .inl (cB, (20000, .inl (fun _ => 0)))) :: ((q124, .inl (cI, (4000, .inl (fun _ => 0)))) :: ((q123, .inl (cI, (4000, .inl (fun _ => 0)))) :: ((q122, .inl (cI, (4000, .inl (fun _ => 0)))) :: ((q117, .inl (cI, (24, .inl (fun _ => 0)))) :: ((q116, .inl (cI, (576, .inl (fun _ => 0)))) :: ((q115, .inl (cI, (24, .inl (fun _ => 0)))) :: ((q114, .inl (cI, (24, .inl (fun _ => 0)))) :: ((q113, .inl (cI, (24, .inl (fun _ => 0)))) :: ((q112, .inl (cZ, (24, .inl (fun _ => 0)))) :: ((q111, .inl (cJ, (24, .inr (.inl (fun _ => 0))))) :: ((q110, .inl (cI, (24, .inl (fun _ => 0)))) :: ((q109, .inl (cI, (24, .inl (fun _ => 0)))) :: rst))))))))))))))))) H1 → va_D A ((h0, .inr (iM, fl 171 (va_up (va_up (va_up (va_up (va_up (va_up (va_up (va_up (va_up (va_up (va_up (va_up (va_up (va_up (va_up (va_up V 109 (.ref q109)) 110 (.ref q110)) 111 (.ref q111)) 112 (.ref q112)) 113 (.ref q113)) 114 (.ref q114)) 115 (.ref q115)) 116 (.ref q116)) 117 (.ref q117)) 122 (.ref q122)) 123 (.ref q123)) 124 (.ref q124)) 126 (.ref q126)) 127 (.ref q127)) 129 (.ref q129)) 131 (.ref q131)))) :: ((q131, .inl (cB, (2400, .inl (fun _ => 0)))) :: ((q129, .inl (cB, (100, .inl (fun _ => 0)))) :: ((q127, .inl (cI, (200, .inl (fun _ => 0)))) :: ((q126, .inl (cB, (20000, .inl (fun _ => 0)))) :: ((q124, .inl (cI, (4000, .inl (fun _ => 0)))) :: ((q123, .inl (cI, (4000, .inl (fun _ => 0)))) :: ((q122, .inl (cI, (4000, .inl (fun _ => 0)))) :: ((q117, .inl (cI, (24, .inl (fun _ => 0)))) :: ((q116, .inl (cI, (576, .inl (fun _ => 0)))) :: ((q115, .inl (cI, (24, .inl (fun _ => 0)))) :: ((q114, .inl (cI, (24, .inl (fun _ => 0)))) :: ((q113, .inl (cI, (24, .inl (fun _ => 0)))) :: ((q112, .inl (cZ, (24, .inl (fun _ => 0)))) :: ((q111, .inl (cJ, (24, .inr (.inl (fun _ => 0))))) :: ((q110, .inl (cI, (24, .inl (fun _ => 0)))) :: ((q109, .inl (cI, (24, .inl (fun _ => 0)))) :: rst))))))))))))))))) → va_S A H0 H1 locs1 → W p l e R s m args below meth c H1 locs1 (cells + 16) (slots + 35468) Q (F0 m 3922 ls [])) :
    W p l e R s m args below meth c H locs cells slots Q (F0 m 3787 ls []) := by
  refine mk_arr (n := 24) (N := 24) (a0 := (24, .inl (fun _ => 0))) (ty := .int) hx hb ht hown hM hin hK hA hl hP hD hS d_M_init_3787 (fun st k => lv_bipush (v := 24) hx hb d_M_init_3788 (by decide) k) d_M_init_3790 d_M_init_3792 ac_int rfl (fun _ h => by cases h) 1 rfl (fun _ => rfl) (by decide) (by decide) (by decide) (by omega) (by omega) 109 (by decide) lk_M_109 rfl (fun _ => rfl) (fun _ => rfl) (fun q109 H locs hP hD hS => ?_)
  refine mk_arr (n := 24) (N := 24) (a0 := (24, .inl (fun _ => 0))) (ty := .int) hx hb ht hown hM hin hK hA hl hP hD hS d_M_init_3795 (fun st k => lv_bipush (v := 24) hx hb d_M_init_3796 (by decide) k) d_M_init_3798 d_M_init_3800 ac_int rfl (fun _ h => by cases h) 1 rfl (fun _ => rfl) (by decide) (by decide) (by decide) (by omega) (by omega) 110 (by decide) lk_M_110 rfl (fun _ => rfl) (fun _ => rfl) (fun q110 H locs hP hD hS => ?_)
  refine mk_arr (n := 24) (N := 24) (a0 := (24, .inr (.inl (fun _ => 0)))) (ty := .long) hx hb ht hown hM hin hK hA hl hP hD hS d_M_init_3803 (fun st k => lv_bipush (v := 24) hx hb d_M_init_3804 (by decide) k) d_M_init_3806 d_M_init_3808 ac_long rfl (fun _ h => by cases h) 2 rfl (fun _ => rfl) (by decide) (by decide) (by decide) (by omega) (by omega) 111 (by decide) lk_M_111 rfl (fun _ => rfl) (fun _ => rfl) (fun q111 H locs hP hD hS => ?_)
  refine mk_arr (n := 24) (N := 24) (a0 := (24, .inl (fun _ => 0))) (ty := .boolean) hx hb ht hown hM hin hK hA hl hP hD hS d_M_init_3811 (fun st k => lv_bipush (v := 24) hx hb d_M_init_3812 (by decide) k) d_M_init_3814 d_M_init_3816 ac_boolean rfl (fun _ h => by cases h) 3 rfl (fun _ => rfl) (by decide) (by decide) (by decide) (by omega) (by omega) 112 (by decide) lk_M_112 rfl (fun _ => rfl) (fun _ => rfl) (fun q112 H locs hP hD hS => ?_)
  refine mk_arr (n := 24) (N := 24) (a0 := (24, .inl (fun _ => 0))) (ty := .int) hx hb ht hown hM hin hK hA hl hP hD hS d_M_init_3819 (fun st k => lv_bipush (v := 24) hx hb d_M_init_3820 (by decide) k) d_M_init_3822 d_M_init_3824 ac_int rfl (fun _ h => by cases h) 1 rfl (fun _ => rfl) (by decide) (by decide) (by decide) (by omega) (by omega) 113 (by decide) lk_M_113 rfl (fun _ => rfl) (fun _ => rfl) (fun q113 H locs hP hD hS => ?_)
  refine mk_arr (n := 24) (N := 24) (a0 := (24, .inl (fun _ => 0))) (ty := .int) hx hb ht hown hM hin hK hA hl hP hD hS d_M_init_3827 (fun st k => lv_bipush (v := 24) hx hb d_M_init_3828 (by decide) k) d_M_init_3830 d_M_init_3832 ac_int rfl (fun _ h => by cases h) 1 rfl (fun _ => rfl) (by decide) (by decide) (by decide) (by omega) (by omega) 114 (by decide) lk_M_114 rfl (fun _ => rfl) (fun _ => rfl) (fun q114 H locs hP hD hS => ?_)
  refine mk_arr (n := 24) (N := 24) (a0 := (24, .inl (fun _ => 0))) (ty := .int) hx hb ht hown hM hin hK hA hl hP hD hS d_M_init_3835 (fun st k => lv_bipush (v := 24) hx hb d_M_init_3836 (by decide) k) d_M_init_3838 d_M_init_3840 ac_int rfl (fun _ h => by cases h) 1 rfl (fun _ => rfl) (by decide) (by decide) (by decide) (by omega) (by omega) 115 (by decide) lk_M_115 rfl (fun _ => rfl) (fun _ => rfl) (fun q115 H locs hP hD hS => ?_)
  refine mk_arr (n := 576) (N := 576) (a0 := (576, .inl (fun _ => 0))) (ty := .int) hx hb ht hown hM hin hK hA hl hP hD hS d_M_init_3843 (fun st k => lv_sipush (v := 576) hx hb d_M_init_3844 (by decide) k) d_M_init_3847 d_M_init_3849 ac_int rfl (fun _ h => by cases h) 1 rfl (fun _ => rfl) (by decide) (by decide) (by decide) (by omega) (by omega) 116 (by decide) lk_M_116 rfl (fun _ => rfl) (fun _ => rfl) (fun q116 H locs hP hD hS => ?_)
  refine mk_arr (n := 24) (N := 24) (a0 := (24, .inl (fun _ => 0))) (ty := .int) hx hb ht hown hM hin hK hA hl hP hD hS d_M_init_3852 (fun st k => lv_bipush (v := 24) hx hb d_M_init_3853 (by decide) k) d_M_init_3855 d_M_init_3857 ac_int rfl (fun _ h => by cases h) 1 rfl (fun _ => rfl) (by decide) (by decide) (by decide) (by omega) (by omega) 117 (by decide) lk_M_117 rfl (fun _ => rfl) (fun _ => rfl) (fun q117 H locs hP hD hS => ?_)
  refine mk_arr (n := 4000) (N := 4000) (a0 := (4000, .inl (fun _ => 0))) (ty := .int) hx hb ht hown hM hin hK hA hl hP hD hS d_M_init_3860 (fun st k => lv_sipush (v := 4000) hx hb d_M_init_3861 (by decide) k) d_M_init_3864 d_M_init_3866 ac_int rfl (fun _ h => by cases h) 1 rfl (fun _ => rfl) (by decide) (by decide) (by decide) (by omega) (by omega) 122 (by decide) lk_M_122 rfl (fun _ => rfl) (fun _ => rfl) (fun q122 H locs hP hD hS => ?_)
  refine mk_arr (n := 4000) (N := 4000) (a0 := (4000, .inl (fun _ => 0))) (ty := .int) hx hb ht hown hM hin hK hA hl hP hD hS d_M_init_3869 (fun st k => lv_sipush (v := 4000) hx hb d_M_init_3870 (by decide) k) d_M_init_3873 d_M_init_3875 ac_int rfl (fun _ h => by cases h) 1 rfl (fun _ => rfl) (by decide) (by decide) (by decide) (by omega) (by omega) 123 (by decide) lk_M_123 rfl (fun _ => rfl) (fun _ => rfl) (fun q123 H locs hP hD hS => ?_)
  refine mk_arr (n := 4000) (N := 4000) (a0 := (4000, .inl (fun _ => 0))) (ty := .int) hx hb ht hown hM hin hK hA hl hP hD hS d_M_init_3878 (fun st k => lv_sipush (v := 4000) hx hb d_M_init_3879 (by decide) k) d_M_init_3882 d_M_init_3884 ac_int rfl (fun _ h => by cases h) 1 rfl (fun _ => rfl) (by decide) (by decide) (by decide) (by omega) (by omega) 124 (by decide) lk_M_124 rfl (fun _ => rfl) (fun _ => rfl) (fun q124 H locs hP hD hS => ?_)
  refine mk_arr (n := 20000) (N := 20000) (a0 := (20000, .inl (fun _ => 0))) (ty := .byte) hx hb ht hown hM hin hK hA hl hP hD hS d_M_init_3887 (fun st k => lv_sipush (v := 20000) hx hb d_M_init_3888 (by decide) k) d_M_init_3891 d_M_init_3893 ac_byte rfl (fun _ h => by cases h) 0 rfl (fun _ => rfl) (by decide) (by decide) (by decide) (by omega) (by omega) 126 (by decide) lk_M_126 rfl (fun _ => rfl) (fun _ => rfl) (fun q126 H locs hP hD hS => ?_)
  refine mk_arr (n := 200) (N := 200) (a0 := (200, .inl (fun _ => 0))) (ty := .int) hx hb ht hown hM hin hK hA hl hP hD hS d_M_init_3896 (fun st k => lv_sipush (v := 200) hx hb d_M_init_3897 (by decide) k) d_M_init_3900 d_M_init_3902 ac_int rfl (fun _ h => by cases h) 1 rfl (fun _ => rfl) (by decide) (by decide) (by decide) (by omega) (by omega) 127 (by decide) lk_M_127 rfl (fun _ => rfl) (fun _ => rfl) (fun q127 H locs hP hD hS => ?_)
  refine mk_arr (n := 100) (N := 100) (a0 := (100, .inl (fun _ => 0))) (ty := .byte) hx hb ht hown hM hin hK hA hl hP hD hS d_M_init_3905 (fun st k => lv_bipush (v := 100) hx hb d_M_init_3906 (by decide) k) d_M_init_3908 d_M_init_3910 ac_byte rfl (fun _ h => by cases h) 0 rfl (fun _ => rfl) (by decide) (by decide) (by decide) (by omega) (by omega) 129 (by decide) lk_M_129 rfl (fun _ => rfl) (fun _ => rfl) (fun q129 H locs hP hD hS => ?_)
  refine mk_arr (n := 2400) (N := 2400) (a0 := (2400, .inl (fun _ => 0))) (ty := .byte) hx hb ht hown hM hin hK hA hl hP hD hS d_M_init_3913 (fun st k => lv_sipush (v := 2400) hx hb d_M_init_3914 (by decide) k) d_M_init_3917 d_M_init_3919 ac_byte rfl (fun _ h => by cases h) 0 rfl (fun _ => rfl) (by decide) (by decide) (by decide) (by omega) (by omega) 131 (by decide) lk_M_131 rfl (fun _ => rfl) (fun _ => rfl) (fun q131 H locs hP hD hS => ?_)
  refine W.widen (k := cells + 16) (n := slots + 35468) (by omega) (by omega) ?_
  exact kk q109 q110 q111 q112 q113 q114 q115 q116 q117 q122 q123 q124 q126 q127 q129 q131 H locs hP hD hS
set_option maxRecDepth 100000 in
set_option maxHeartbeats 4000000 in
theorem sg_11 {p : Program} {l : Launch} {e : Env} {R : Room} {s : State} {m : MethodId} {args : Array Value} {below : List Frame} {meth : Method} {c : Code} {H : Heap} {locs : List Loc} {cells slots : Nat} {Q : State → Prop} {ls : Array Slot} {D : va_G} {cl : List vw_C} {cB cI cJ cZ cS : ClassId} {rst : va_W} {A : Nat → Prop} {H0 : Heap} {iM h0 : Nat} {V : Nat → Value} (hx : p.tables.exec = Jvm.exec) (hb : c.code = b_M_init) (ht : ∀ w ∈ wd_tbl, w.before args s = true) (hown : s.vm.findClass R_M = some m.cls) (hM : cl[iM]? = some (R_M, F_M, 171)) (hin : meth.name = "<init>") (hK : va_K D cl (ty5 cB cI cJ cZ cS) s) (hA : ∀ q, H0.size ≤ q → A q) (hl : ls[0]? = some (.val (.ref h0))) (hP : va_P D cl ((h0, .inr (iM, fl 171 V)) :: rst) H) (hD : va_D A ((h0, .inr (iM, fl 171 V)) :: rst)) (hS : va_S A H0 H locs) (hc : cells + 4 ≤ R.cells) (hs : slots + 1524 ≤ R.slots)
    (kk : ∀ (q132 q134 q135 q137 : Nat) (H1 : Heap) (locs1 : List Loc), va_P D cl ((h0, .inr (iM, fl 171 (va_up (va_up (va_up (va_up V 132 (.ref q132)) 134 (.ref q134)) 135 (.ref q135)) 137 (.ref q137)))) :: ((q137, .inl (cJ, (500, .inr (.inl (fun _ => 0))))) :: ((q135, .inl (cI, (500, .inl (fun _ => 0)))) :: ((q134, .inl (cJ, (500, .inr (.inl (fun _ => 0))))) :: ((q132, .inl (cI, (24, .inl (fun _ => 0)))) :: rst))))) H1 → va_D A ((h0, .inr (iM, fl 171 (va_up (va_up (va_up (va_up V 132 (.ref q132)) 134 (.ref q134)) 135 (.ref q135)) 137 (.ref q137)))) :: ((q137, .inl (cJ, (500, .inr (.inl (fun _ => 0))))) :: ((q135, .inl (cI, (500, .inl (fun _ => 0)))) :: ((q134, .inl (cJ, (500, .inr (.inl (fun _ => 0))))) :: ((q132, .inl (cI, (24, .inl (fun _ => 0)))) :: rst))))) → va_S A H0 H1 locs1 → W p l e R s m args below meth c H1 locs1 (cells + 4) (slots + 1524) Q (F0 m 3957 ls [])) :
    W p l e R s m args below meth c H locs cells slots Q (F0 m 3922 ls []) := by
  refine mk_arr (n := 24) (N := 24) (a0 := (24, .inl (fun _ => 0))) (ty := .int) hx hb ht hown hM hin hK hA hl hP hD hS d_M_init_3922 (fun st k => lv_bipush (v := 24) hx hb d_M_init_3923 (by decide) k) d_M_init_3925 d_M_init_3927 ac_int rfl (fun _ h => by cases h) 1 rfl (fun _ => rfl) (by decide) (by decide) (by decide) (by omega) (by omega) 132 (by decide) lk_M_132 rfl (fun _ => rfl) (fun _ => rfl) (fun q132 H locs hP hD hS => ?_)
  refine mk_arr (n := 500) (N := 500) (a0 := (500, .inr (.inl (fun _ => 0)))) (ty := .long) hx hb ht hown hM hin hK hA hl hP hD hS d_M_init_3930 (fun st k => lv_sipush (v := 500) hx hb d_M_init_3931 (by decide) k) d_M_init_3934 d_M_init_3936 ac_long rfl (fun _ h => by cases h) 2 rfl (fun _ => rfl) (by decide) (by decide) (by decide) (by omega) (by omega) 134 (by decide) lk_M_134 rfl (fun _ => rfl) (fun _ => rfl) (fun q134 H locs hP hD hS => ?_)
  refine mk_arr (n := 500) (N := 500) (a0 := (500, .inl (fun _ => 0))) (ty := .int) hx hb ht hown hM hin hK hA hl hP hD hS d_M_init_3939 (fun st k => lv_sipush (v := 500) hx hb d_M_init_3940 (by decide) k) d_M_init_3943 d_M_init_3945 ac_int rfl (fun _ h => by cases h) 1 rfl (fun _ => rfl) (by decide) (by decide) (by decide) (by omega) (by omega) 135 (by decide) lk_M_135 rfl (fun _ => rfl) (fun _ => rfl) (fun q135 H locs hP hD hS => ?_)
  refine mk_arr (n := 500) (N := 500) (a0 := (500, .inr (.inl (fun _ => 0)))) (ty := .long) hx hb ht hown hM hin hK hA hl hP hD hS d_M_init_3948 (fun st k => lv_sipush (v := 500) hx hb d_M_init_3949 (by decide) k) d_M_init_3952 d_M_init_3954 ac_long rfl (fun _ h => by cases h) 2 rfl (fun _ => rfl) (by decide) (by decide) (by decide) (by omega) (by omega) 137 (by decide) lk_M_137 rfl (fun _ => rfl) (fun _ => rfl) (fun q137 H locs hP hD hS => ?_)
  refine W.widen (k := cells + 4) (n := slots + 1524) (by omega) (by omega) ?_
  exact kk q132 q134 q135 q137 H locs hP hD hS
set_option maxRecDepth 100000 in
set_option maxHeartbeats 4000000 in
theorem sg_13 {p : Program} {l : Launch} {e : Env} {R : Room} {s : State} {m : MethodId} {args : Array Value} {below : List Frame} {meth : Method} {c : Code} {H : Heap} {locs : List Loc} {cells slots : Nat} {Q : State → Prop} {ls : Array Slot} {D : va_G} {cl : List vw_C} {cB cI cJ cZ cS : ClassId} {rst : va_W} {A : Nat → Prop} {H0 : Heap} {iM h0 : Nat} {V : Nat → Value} (hx : p.tables.exec = Jvm.exec) (hb : c.code = b_M_init) (ht : ∀ w ∈ wd_tbl, w.before args s = true) (hown : s.vm.findClass R_M = some m.cls) (hM : cl[iM]? = some (R_M, F_M, 171)) (hin : meth.name = "<init>") (hK : va_K D cl (ty5 cB cI cJ cZ cS) s) (hA : ∀ q, H0.size ≤ q → A q) (hl : ls[0]? = some (.val (.ref h0))) (hP : va_P D cl ((h0, .inr (iM, fl 171 V)) :: rst) H) (hD : va_D A ((h0, .inr (iM, fl 171 V)) :: rst)) (hS : va_S A H0 H locs) (hc : cells + 14 ≤ R.cells) (hs : slots + 29144 ≤ R.slots)
    (kk : ∀ (q141 q142 q143 q145 q146 q147 q148 q160 q161 q162 q163 q167 q168 q170 : Nat) (H1 : Heap) (locs1 : List Loc), va_P D cl ((h0, .inr (iM, fl 171 (va_up (va_up (va_up (va_up (va_up (va_up (va_up (va_up (va_up (va_up (va_up (va_up (va_up (va_up (va_up V 140 (.int (-1))) 141 (.ref q141)) 142 (.ref q142)) 143 (.ref q143)) 145 (.ref q145)) 146 (.ref q146)) 147 (.ref q147)) 148 (.ref q148)) 160 (.ref q160)) 161 (.ref q161)) 162 (.ref q162)) 163 (.ref q163)) 167 (.ref q167)) 168 (.ref q168)) 170 (.ref q170)))) :: ((q170, .inl (cI, (24, .inl (fun _ => 0)))) :: ((q168, .inl (cZ, (500, .inl (fun _ => 0)))) :: ((q167, .inl (cJ, (500, .inr (.inl (fun _ => 0))))) :: ((q163, .inl (cJ, (10, .inr (.inl (fun _ => 0))))) :: ((q162, .inl (cI, (10, .inl (fun _ => 0)))) :: ((q161, .inl (cJ, (3000, .inr (.inl (fun _ => 0))))) :: ((q160, .inl (cI, (3000, .inl (fun _ => 0)))) :: ((q148, .inl (cJ, (4000, .inr (.inl (fun _ => 0))))) :: ((q147, .inl (cI, (4000, .inl (fun _ => 0)))) :: ((q146, .inl (cI, (4000, .inl (fun _ => 0)))) :: ((q145, .inl (cI, (4000, .inl (fun _ => 0)))) :: ((q143, .inl (cB, (100, .inl (fun _ => 0)))) :: ((q142, .inl (cI, (3000, .inl (fun _ => 0)))) :: ((q141, .inl (cJ, (3000, .inr (.inl (fun _ => 0))))) :: rst))))))))))))))) H1 → va_D A ((h0, .inr (iM, fl 171 (va_up (va_up (va_up (va_up (va_up (va_up (va_up (va_up (va_up (va_up (va_up (va_up (va_up (va_up (va_up V 140 (.int (-1))) 141 (.ref q141)) 142 (.ref q142)) 143 (.ref q143)) 145 (.ref q145)) 146 (.ref q146)) 147 (.ref q147)) 148 (.ref q148)) 160 (.ref q160)) 161 (.ref q161)) 162 (.ref q162)) 163 (.ref q163)) 167 (.ref q167)) 168 (.ref q168)) 170 (.ref q170)))) :: ((q170, .inl (cI, (24, .inl (fun _ => 0)))) :: ((q168, .inl (cZ, (500, .inl (fun _ => 0)))) :: ((q167, .inl (cJ, (500, .inr (.inl (fun _ => 0))))) :: ((q163, .inl (cJ, (10, .inr (.inl (fun _ => 0))))) :: ((q162, .inl (cI, (10, .inl (fun _ => 0)))) :: ((q161, .inl (cJ, (3000, .inr (.inl (fun _ => 0))))) :: ((q160, .inl (cI, (3000, .inl (fun _ => 0)))) :: ((q148, .inl (cJ, (4000, .inr (.inl (fun _ => 0))))) :: ((q147, .inl (cI, (4000, .inl (fun _ => 0)))) :: ((q146, .inl (cI, (4000, .inl (fun _ => 0)))) :: ((q145, .inl (cI, (4000, .inl (fun _ => 0)))) :: ((q143, .inl (cB, (100, .inl (fun _ => 0)))) :: ((q142, .inl (cI, (3000, .inl (fun _ => 0)))) :: ((q141, .inl (cJ, (3000, .inr (.inl (fun _ => 0))))) :: rst))))))))))))))) → va_S A H0 H1 locs1 → W p l e R s m args below meth c H1 locs1 (cells + 14) (slots + 29144) Q (F0 m 4094 ls [])) :
    W p l e R s m args below meth c H locs cells slots Q (F0 m 3967 ls []) := by
  refine lv_aload_n hx hb d_M_init_3967 rfl hl ?_
  refine lv_iconst (v := (-1)) hx hb d_M_init_3968 (by decide) ?_
  refine mf_put hx hb ht hown hM hK hP hD hS 0 rfl 140 (by decide) lk_M_140 rfl rfl rfl d_M_init_3969 (fun H locs hP hD hS => ?_)
  refine mk_arr (n := 3000) (N := 3000) (a0 := (3000, .inr (.inl (fun _ => 0)))) (ty := .long) hx hb ht hown hM hin hK hA hl hP hD hS d_M_init_3972 (fun st k => lv_sipush (v := 3000) hx hb d_M_init_3973 (by decide) k) d_M_init_3976 d_M_init_3978 ac_long rfl (fun _ h => by cases h) 2 rfl (fun _ => rfl) (by decide) (by decide) (by decide) (by omega) (by omega) 141 (by decide) lk_M_141 rfl (fun _ => rfl) (fun _ => rfl) (fun q141 H locs hP hD hS => ?_)
  refine mk_arr (n := 3000) (N := 3000) (a0 := (3000, .inl (fun _ => 0))) (ty := .int) hx hb ht hown hM hin hK hA hl hP hD hS d_M_init_3981 (fun st k => lv_sipush (v := 3000) hx hb d_M_init_3982 (by decide) k) d_M_init_3985 d_M_init_3987 ac_int rfl (fun _ h => by cases h) 1 rfl (fun _ => rfl) (by decide) (by decide) (by decide) (by omega) (by omega) 142 (by decide) lk_M_142 rfl (fun _ => rfl) (fun _ => rfl) (fun q142 H locs hP hD hS => ?_)
  refine mk_arr (n := 100) (N := 100) (a0 := (100, .inl (fun _ => 0))) (ty := .byte) hx hb ht hown hM hin hK hA hl hP hD hS d_M_init_3990 (fun st k => lv_bipush (v := 100) hx hb d_M_init_3991 (by decide) k) d_M_init_3993 d_M_init_3995 ac_byte rfl (fun _ h => by cases h) 0 rfl (fun _ => rfl) (by decide) (by decide) (by decide) (by omega) (by omega) 143 (by decide) lk_M_143 rfl (fun _ => rfl) (fun _ => rfl) (fun q143 H locs hP hD hS => ?_)
  refine mk_arr (n := 4000) (N := 4000) (a0 := (4000, .inl (fun _ => 0))) (ty := .int) hx hb ht hown hM hin hK hA hl hP hD hS d_M_init_3998 (fun st k => lv_sipush (v := 4000) hx hb d_M_init_3999 (by decide) k) d_M_init_4002 d_M_init_4004 ac_int rfl (fun _ h => by cases h) 1 rfl (fun _ => rfl) (by decide) (by decide) (by decide) (by omega) (by omega) 145 (by decide) lk_M_145 rfl (fun _ => rfl) (fun _ => rfl) (fun q145 H locs hP hD hS => ?_)
  refine mk_arr (n := 4000) (N := 4000) (a0 := (4000, .inl (fun _ => 0))) (ty := .int) hx hb ht hown hM hin hK hA hl hP hD hS d_M_init_4007 (fun st k => lv_sipush (v := 4000) hx hb d_M_init_4008 (by decide) k) d_M_init_4011 d_M_init_4013 ac_int rfl (fun _ h => by cases h) 1 rfl (fun _ => rfl) (by decide) (by decide) (by decide) (by omega) (by omega) 146 (by decide) lk_M_146 rfl (fun _ => rfl) (fun _ => rfl) (fun q146 H locs hP hD hS => ?_)
  refine mk_arr (n := 4000) (N := 4000) (a0 := (4000, .inl (fun _ => 0))) (ty := .int) hx hb ht hown hM hin hK hA hl hP hD hS d_M_init_4016 (fun st k => lv_sipush (v := 4000) hx hb d_M_init_4017 (by decide) k) d_M_init_4020 d_M_init_4022 ac_int rfl (fun _ h => by cases h) 1 rfl (fun _ => rfl) (by decide) (by decide) (by decide) (by omega) (by omega) 147 (by decide) lk_M_147 rfl (fun _ => rfl) (fun _ => rfl) (fun q147 H locs hP hD hS => ?_)
  refine mk_arr (n := 4000) (N := 4000) (a0 := (4000, .inr (.inl (fun _ => 0)))) (ty := .long) hx hb ht hown hM hin hK hA hl hP hD hS d_M_init_4025 (fun st k => lv_sipush (v := 4000) hx hb d_M_init_4026 (by decide) k) d_M_init_4029 d_M_init_4031 ac_long rfl (fun _ h => by cases h) 2 rfl (fun _ => rfl) (by decide) (by decide) (by decide) (by omega) (by omega) 148 (by decide) lk_M_148 rfl (fun _ => rfl) (fun _ => rfl) (fun q148 H locs hP hD hS => ?_)
  refine mk_arr (n := 3000) (N := 3000) (a0 := (3000, .inl (fun _ => 0))) (ty := .int) hx hb ht hown hM hin hK hA hl hP hD hS d_M_init_4034 (fun st k => lv_sipush (v := 3000) hx hb d_M_init_4035 (by decide) k) d_M_init_4038 d_M_init_4040 ac_int rfl (fun _ h => by cases h) 1 rfl (fun _ => rfl) (by decide) (by decide) (by decide) (by omega) (by omega) 160 (by decide) lk_M_160 rfl (fun _ => rfl) (fun _ => rfl) (fun q160 H locs hP hD hS => ?_)
  refine mk_arr (n := 3000) (N := 3000) (a0 := (3000, .inr (.inl (fun _ => 0)))) (ty := .long) hx hb ht hown hM hin hK hA hl hP hD hS d_M_init_4043 (fun st k => lv_sipush (v := 3000) hx hb d_M_init_4044 (by decide) k) d_M_init_4047 d_M_init_4049 ac_long rfl (fun _ h => by cases h) 2 rfl (fun _ => rfl) (by decide) (by decide) (by decide) (by omega) (by omega) 161 (by decide) lk_M_161 rfl (fun _ => rfl) (fun _ => rfl) (fun q161 H locs hP hD hS => ?_)
  refine mk_arr (n := 10) (N := 10) (a0 := (10, .inl (fun _ => 0))) (ty := .int) hx hb ht hown hM hin hK hA hl hP hD hS d_M_init_4052 (fun st k => lv_bipush (v := 10) hx hb d_M_init_4053 (by decide) k) d_M_init_4055 d_M_init_4057 ac_int rfl (fun _ h => by cases h) 1 rfl (fun _ => rfl) (by decide) (by decide) (by decide) (by omega) (by omega) 162 (by decide) lk_M_162 rfl (fun _ => rfl) (fun _ => rfl) (fun q162 H locs hP hD hS => ?_)
  refine mk_arr (n := 10) (N := 10) (a0 := (10, .inr (.inl (fun _ => 0)))) (ty := .long) hx hb ht hown hM hin hK hA hl hP hD hS d_M_init_4060 (fun st k => lv_bipush (v := 10) hx hb d_M_init_4061 (by decide) k) d_M_init_4063 d_M_init_4065 ac_long rfl (fun _ h => by cases h) 2 rfl (fun _ => rfl) (by decide) (by decide) (by decide) (by omega) (by omega) 163 (by decide) lk_M_163 rfl (fun _ => rfl) (fun _ => rfl) (fun q163 H locs hP hD hS => ?_)
  refine mk_arr (n := 500) (N := 500) (a0 := (500, .inr (.inl (fun _ => 0)))) (ty := .long) hx hb ht hown hM hin hK hA hl hP hD hS d_M_init_4068 (fun st k => lv_sipush (v := 500) hx hb d_M_init_4069 (by decide) k) d_M_init_4072 d_M_init_4074 ac_long rfl (fun _ h => by cases h) 2 rfl (fun _ => rfl) (by decide) (by decide) (by decide) (by omega) (by omega) 167 (by decide) lk_M_167 rfl (fun _ => rfl) (fun _ => rfl) (fun q167 H locs hP hD hS => ?_)
  refine mk_arr (n := 500) (N := 500) (a0 := (500, .inl (fun _ => 0))) (ty := .boolean) hx hb ht hown hM hin hK hA hl hP hD hS d_M_init_4077 (fun st k => lv_sipush (v := 500) hx hb d_M_init_4078 (by decide) k) d_M_init_4081 d_M_init_4083 ac_boolean rfl (fun _ h => by cases h) 3 rfl (fun _ => rfl) (by decide) (by decide) (by decide) (by omega) (by omega) 168 (by decide) lk_M_168 rfl (fun _ => rfl) (fun _ => rfl) (fun q168 H locs hP hD hS => ?_)
  refine mk_arr (n := 24) (N := 24) (a0 := (24, .inl (fun _ => 0))) (ty := .int) hx hb ht hown hM hin hK hA hl hP hD hS d_M_init_4086 (fun st k => lv_bipush (v := 24) hx hb d_M_init_4087 (by decide) k) d_M_init_4089 d_M_init_4091 ac_int rfl (fun _ h => by cases h) 1 rfl (fun _ => rfl) (by decide) (by decide) (by decide) (by omega) (by omega) 170 (by decide) lk_M_170 rfl (fun _ => rfl) (fun _ => rfl) (fun q170 H locs hP hD hS => ?_)
  refine W.widen (k := cells + 14) (n := slots + 29144) (by omega) (by omega) ?_
  exact kk q141 q142 q143 q145 q146 q147 q148 q160 q161 q162 q163 q167 q168 q170 H locs hP hD hS
end
section
/-! the reference's state as a value (ints and booleans, longs, what arrays hold), and its world -/
abbrev MS : Type := (Nat → Int32) × (Nat → Int64) × (Nat → Nat → Int32) × (Nat → Nat → Int64)
/-- 0 int, 1 boolean, 2 long, then arrays: 3 byte, 4 int, 5 long, 6 boolean, 7 short -/
def kdl : List Nat := [3, 3, 3, 0, 3, 0, 3, 4, 4, 0, 0, 0, 3, 4, 0, 3, 4, 0, 3, 4, 0, 3, 3, 3, 7, 4, 4, 4, 4, 4, 6, 4, 0, 3, 5, 4, 4, 4, 6, 0, 4, 4, 4, 4, 4, 4, 0, 4, 4, 4, 4, 4, 0, 4, 4, 4, 0, 4, 0, 4, 4, 4, 4, 4, 4, 0, 1, 0, 0, 0, 0, 0, 0, 1, 4, 0, 4, 0, 4, 3, 7, 4, 4, 0, 0, 0, 1, 1, 5, 4, 4, 5, 4, 5, 4, 4, 4, 4, 4, 4, 4, 4, 4, 4, 4, 4, 4, 5, 4, 4, 4, 5, 6, 4, 4, 4, 4, 4, 0, 0, 0, 0, 4, 4, 4, 0, 3, 4, 0, 3, 0, 3, 4, 0, 5, 4, 0, 5, 0, 2, 0, 5, 4, 3, 0, 4, 4, 4, 5, 0, 0, 1, 1, 0, 0, 0, 0, 0, 0, 0, 4, 5, 4, 5, 0, 0, 1, 5, 6, 1, 4]
def kd (k : Nat) : Nat := kdl.getD k 0
def lnl : List Nat := [77, 161, 218, 0, 4000, 0, 4002, 4002, 4002, 0, 0, 0, 5000, 2200, 0, 5000, 2200, 0, 4002, 2002, 0, 21, 36, 16000, 16000, 16000, 16000, 16000, 16000, 16000, 16000, 16000, 0, 5000, 5000, 5000, 5000, 5000, 5000, 0, 1400, 1400, 1400, 1400, 1400, 1400, 0, 1000, 1000, 1000, 1000, 1000, 0, 1400, 1400, 1400, 0, 24000, 0, 37800, 27, 37800, 37800, 27, 27, 0, 0, 0, 0, 0, 0, 0, 0, 0, 400, 0, 3240, 0, 27, 3000, 3000, 3000, 3000, 0, 0, 0, 0, 0, 12500, 25, 24, 1104000, 24, 60000, 24, 24, 1440, 1440, 1440, 1440, 1440, 1440, 38400, 38400, 38400, 38400, 24, 720, 24, 24, 24, 24, 24, 24, 24, 24, 576, 24, 0, 0, 0, 0, 4000, 4000, 4000, 0, 20000, 200, 0, 100, 0, 2400, 24, 0, 500, 500, 0, 500, 0, 0, 0, 3000, 3000, 100, 0, 4000, 4000, 4000, 4000, 0, 0, 0, 0, 0, 0, 0, 0, 0, 0, 0, 3000, 3000, 10, 10, 0, 0, 0, 500, 500, 0, 24]
def ln (k : Nat) : Nat := lnl.getD k 0
def AK : List Nat := [170, 168, 167, 163, 162, 161, 160, 148, 147, 146, 145, 143, 142, 141, 137, 135, 134, 132, 131, 129, 127, 126, 124, 123, 122, 117, 116, 115, 114, 113, 112, 111, 110, 109, 108, 107, 106, 105, 104, 103, 102, 101, 100, 99, 98, 97, 96, 95, 94, 93, 92, 91, 90, 89, 88, 82, 81, 80, 79, 78, 76, 74, 64, 63, 62, 61, 60, 59, 57, 55, 54, 53, 51, 50, 49, 48, 47, 45, 44, 43, 42, 41, 40, 38, 37, 36, 35, 34, 33, 31, 30, 29, 28, 27, 26, 25, 24, 23, 22, 21, 19, 18, 16, 15, 13, 12, 8, 7, 6, 4, 2, 1, 0]
def VM (ad : Nat → Nat) (u : MS) (k : Nat) : Value := if kd k ≤ 1 then .int (u.1 k) else if kd k = 2 then .long (u.2.1 k) else .ref (ad k)
def cA5 (cB cI cJ cZ cS : ClassId) (k : Nat) : ClassId := if kd k = 3 then cB else if kd k = 4 then cI else if kd k = 5 then cJ else if kd k = 6 then cZ else cS
def el (cB cI cJ cZ cS : ClassId) (u : MS) (k : Nat) : va_E := if kd k = 5 then .inl (cA5 cB cI cJ cZ cS k, ln k, .inr (.inl (u.2.2.2 k))) else .inl (cA5 cB cI cJ cZ cS k, ln k, .inl (u.2.2.1 k))
def wM (cB cI cJ cZ cS : ClassId) (iM h0 : Nat) (ad : Nat → Nat) (u : MS) : va_W := (h0, .inr (iM, fl 171 (VM ad u))) :: AK.map (fun k => (ad k, el cB cI cJ cZ cS u k))
def ixf (k : Nat) : List Nat → Nat
  | [] => 0
  | b :: L => if b = k then 0 else ixf k L + 1
def plc (k : Nat) : Nat := ixf k AK + 1
def upA (u : MS) (k : Nat) (f : Nat → Int32) : MS := (u.1, u.2.1, (fun j => if j = k then f else u.2.2.1 j), u.2.2.2)
def upJ (u : MS) (k : Nat) (f : Nat → Int64) : MS := (u.1, u.2.1, u.2.2.1, (fun j => if j = k then f else u.2.2.2 j))
def upI (u : MS) (k : Nat) (v : Int32) : MS := ((fun j => if j = k then v else u.1 j), u.2.1, u.2.2.1, u.2.2.2)
def upL (u : MS) (k : Nat) (v : Int64) : MS := (u.1, (fun j => if j = k then v else u.2.1 j), u.2.2.1, u.2.2.2)
theorem AK_nd : AK.Nodup := by decide +kernel
theorem map_set {α : Type} {g g2 : Nat → α} {y : α} {k : Nat} (hg : ∀ j, j ≠ k → g j = g2 j) (hy : g2 k = y) : ∀ (L : List Nat), L.Nodup → k ∈ L → (L.map g).set (ixf k L) y = L.map g2
  | [], _, h => by cases h
  | b :: L, hn, h => by
    rw [List.nodup_cons] at hn
    by_cases hb : b = k
    · subst hb
      rw [ixf, if_pos rfl, List.map_cons, List.set_cons_zero, List.map_cons, hy]
      congr 1
      exact List.map_congr_left (fun j hj => hg j (fun z => hn.1 (z ▸ hj)))
    · rw [ixf, if_neg hb, List.map_cons, List.set_cons_succ, List.map_cons, hg b hb, map_set hg hy L hn.2 ((List.mem_cons.mp h).resolve_left (fun z => hb z.symm))]
theorem map_at {α : Type} {g : Nat → α} {k : Nat} : ∀ (L : List Nat), k ∈ L → (L.map g)[ixf k L]? = some (g k)
  | [], h => by cases h
  | b :: L, h => by
    by_cases hb : b = k
    · subst hb
      rw [ixf, if_pos rfl]
      rfl
    · rw [ixf, if_neg hb, List.map_cons, List.getElem?_cons_succ]
      exact map_at L ((List.mem_cons.mp h).resolve_left (fun z => hb z.symm))
theorem ms_at {cB cI cJ cZ cS : ClassId} {iM h0 : Nat} {ad : Nat → Nat} {u : MS} {k : Nat} (hk : k ∈ AK) : (wM cB cI cJ cZ cS iM h0 ad u)[plc k]? = some (ad k, el cB cI cJ cZ cS u k) := by
  unfold wM plc
  rw [List.getElem?_cons_succ]
  exact map_at AK hk
theorem ms_setA {cB cI cJ cZ cS : ClassId} {iM h0 : Nat} {ad : Nat → Nat} {u : MS} {k : Nat} {f : Nat → Int32} (hk : k ∈ AK) (h5 : kd k ≠ 5) : (wM cB cI cJ cZ cS iM h0 ad u).set (plc k) (ad k, .inl (cA5 cB cI cJ cZ cS k, ln k, .inl f)) = wM cB cI cJ cZ cS iM h0 ad (upA u k f) := by
  unfold wM plc
  rw [List.set_cons_succ]
  congr 1
  refine map_set (fun j hj => ?_) ?_ AK AK_nd hk
  · simp [el, upA, hj]
  · simp [el, upA, h5]
theorem ms_setJ {cB cI cJ cZ cS : ClassId} {iM h0 : Nat} {ad : Nat → Nat} {u : MS} {k : Nat} {f : Nat → Int64} (hk : k ∈ AK) (h5 : kd k = 5) : (wM cB cI cJ cZ cS iM h0 ad u).set (plc k) (ad k, .inl (cA5 cB cI cJ cZ cS k, ln k, .inr (.inl f))) = wM cB cI cJ cZ cS iM h0 ad (upJ u k f) := by
  unfold wM plc
  rw [List.set_cons_succ]
  congr 1
  refine map_set (fun j hj => ?_) ?_ AK AK_nd hk
  · simp [el, upJ, hj]
  · simp [el, upJ, h5]
theorem ms_setI {cB cI cJ cZ cS : ClassId} {iM h0 : Nat} {ad : Nat → Nat} {u : MS} {k : Nat} {v : Int32} (h : kd k ≤ 1) : (wM cB cI cJ cZ cS iM h0 ad u).set 0 (h0, .inr (iM, fl 171 (va_up (VM ad u) k (.int v)))) = wM cB cI cJ cZ cS iM h0 ad (upI u k v) := by
  unfold wM
  rw [List.set_cons_zero]
  congr 4
  refine congrArg (fl 171) (funext fun j => ?_)
  unfold va_up VM upI
  by_cases hj : j = k
  · subst hj
    simp [h]
  · simp [hj]
theorem ms_setL {cB cI cJ cZ cS : ClassId} {iM h0 : Nat} {ad : Nat → Nat} {u : MS} {k : Nat} {v : Int64} (h : kd k = 2) : (wM cB cI cJ cZ cS iM h0 ad u).set 0 (h0, .inr (iM, fl 171 (va_up (VM ad u) k (.long v)))) = wM cB cI cJ cZ cS iM h0 ad (upL u k v) := by
  unfold wM
  rw [List.set_cons_zero]
  congr 4
  refine congrArg (fl 171) (funext fun j => ?_)
  unfold va_up VM upL
  by_cases hj : j = k
  · subst hj
    simp [h]
  · simp [hj]
end
section
/-! one instruction, over the reference's world as a value -/
theorem el_i {cB cI cJ cZ cS : ClassId} {u : MS} {k : Nat} (h : kd k ≠ 5) : el cB cI cJ cZ cS u k = .inl (cA5 cB cI cJ cZ cS k, ln k, .inl (u.2.2.1 k)) := if_neg h
theorem el_j {cB cI cJ cZ cS : ClassId} {u : MS} {k : Nat} (h : kd k = 5) : el cB cI cJ cZ cS u k = .inl (cA5 cB cI cJ cZ cS k, ln k, .inr (.inl (u.2.2.2 k))) := if_pos h
theorem cA_3 {cB cI cJ cZ cS : ClassId} {k : Nat} (h : kd k = 3) : cA5 cB cI cJ cZ cS k = cB := by simp [cA5, h]
theorem cA_4 {cB cI cJ cZ cS : ClassId} {k : Nat} (h : kd k = 4) : cA5 cB cI cJ cZ cS k = cI := by simp [cA5, h]
theorem cA_5 {cB cI cJ cZ cS : ClassId} {k : Nat} (h : kd k = 5) : cA5 cB cI cJ cZ cS k = cJ := by simp [cA5, h]
theorem cA_6 {cB cI cJ cZ cS : ClassId} {k : Nat} (h : kd k = 6) : cA5 cB cI cJ cZ cS k = cZ := by simp [cA5, h]
theorem cA_7 {cB cI cJ cZ cS : ClassId} {k : Nat} (h : kd k = 7) : cA5 cB cI cJ cZ cS k = cS := by simp [cA5, h]
def inb (i : Int32) (n : Nat) : Bool := decide (¬ (i < 0 ∨ n ≤ i.toNatClampNeg))
theorem inb_in {i : Int32} {n : Nat} (h : inb i n = true) : vp_in i n := by
  show ¬ (i < 0 ∨ n ≤ i.toNatClampNeg)
  exact of_decide_eq_true h
section MROW
variable {p : Program} {l : Launch} {e : Env} {R : Room} {s : State} {m : MethodId} {args : Array Value} {below : List Frame} {meth : Method} {c : Code} {H : Heap} {locs : List Loc} {cells slots : Nat} {Q : State → Prop}
variable {cc : ByteArray} {pc : Nat} {ls : Array Slot} {rest : List Value} {D : va_G} {cl : List vw_C} {cB cI cJ cZ cS : ClassId} {A : Nat → Prop} {H0 : Heap} {iM h0 : Nat} {ad : Nat → Nat} {u : MS} {index : Nat}
theorem ug_I (hx : p.tables.exec = Jvm.exec) (hb : c.code = cc) (ht : ∀ w ∈ wd_tbl, w.before args s = true) (hown : s.vm.findClass R_M = some m.cls) (hM : cl[iM]? = some (R_M, F_M, 171)) (hK : va_K D cl (ty5 cB cI cJ cZ cS) s) (hP : va_P D cl (wM cB cI cJ cZ cS iM h0 ad u) H) (k : Nat) (hk : k < 171) (hlink : Cond.fieldLink R_M index R_M (F_M k).2.1 (F_M k).2.2.1 ∈ wd_tbl) (hkd : kd k ≤ 1) (hdg : decode cc pc = .ok (.getfield index, 3))
    (kk : W p l e R s m args below meth c H locs cells slots Q (F0 m (pc + 3) ls (.int (u.1 k) :: rest))) : W p l e R s m args below meth c H locs cells slots Q (F0 m pc ls (.ref h0 :: rest)) :=
  mf_get hx hb ht hown hM hK hP 0 rfl k hk hlink (if_pos hkd) hdg kk
theorem ug_L (hx : p.tables.exec = Jvm.exec) (hb : c.code = cc) (ht : ∀ w ∈ wd_tbl, w.before args s = true) (hown : s.vm.findClass R_M = some m.cls) (hM : cl[iM]? = some (R_M, F_M, 171)) (hK : va_K D cl (ty5 cB cI cJ cZ cS) s) (hP : va_P D cl (wM cB cI cJ cZ cS iM h0 ad u) H) (k : Nat) (hk : k < 171) (hlink : Cond.fieldLink R_M index R_M (F_M k).2.1 (F_M k).2.2.1 ∈ wd_tbl) (hkd : kd k = 2) (hdg : decode cc pc = .ok (.getfield index, 3))
    (kk : W p l e R s m args below meth c H locs cells slots Q (F0 m (pc + 3) ls (.long (u.2.1 k) :: rest))) : W p l e R s m args below meth c H locs cells slots Q (F0 m pc ls (.ref h0 :: rest)) :=
  mf_get hx hb ht hown hM hK hP 0 rfl k hk hlink (by simp [VM, hkd]) hdg kk
theorem ug_R (hx : p.tables.exec = Jvm.exec) (hb : c.code = cc) (ht : ∀ w ∈ wd_tbl, w.before args s = true) (hown : s.vm.findClass R_M = some m.cls) (hM : cl[iM]? = some (R_M, F_M, 171)) (hK : va_K D cl (ty5 cB cI cJ cZ cS) s) (hP : va_P D cl (wM cB cI cJ cZ cS iM h0 ad u) H) (k : Nat) (hk : k < 171) (hlink : Cond.fieldLink R_M index R_M (F_M k).2.1 (F_M k).2.2.1 ∈ wd_tbl) (hkd : 3 ≤ kd k) (hdg : decode cc pc = .ok (.getfield index, 3))
    (kk : W p l e R s m args below meth c H locs cells slots Q (F0 m (pc + 3) ls (.ref (ad k) :: rest))) : W p l e R s m args below meth c H locs cells slots Q (F0 m pc ls (.ref h0 :: rest)) :=
  mf_get hx hb ht hown hM hK hP 0 rfl k hk hlink (by unfold VM; rw [if_neg (by omega), if_neg (by omega)]) hdg kk
theorem up_I (hx : p.tables.exec = Jvm.exec) (hb : c.code = cc) (ht : ∀ w ∈ wd_tbl, w.before args s = true) (hown : s.vm.findClass R_M = some m.cls) (hM : cl[iM]? = some (R_M, F_M, 171)) (hK : va_K D cl (ty5 cB cI cJ cZ cS) s) (hP : va_P D cl (wM cB cI cJ cZ cS iM h0 ad u) H) (hD : va_D A (wM cB cI cJ cZ cS iM h0 ad u)) (hS : va_S A H0 H locs) (k : Nat) (hk : k < 171) (hlink : Cond.fieldLink R_M index R_M (F_M k).2.1 (F_M k).2.2.1 ∈ wd_tbl) (hkd : kd k ≤ 1) (hfin : (F_M k).2.2.2 = false) {v : Int32} (hn : narrow (t_M k) (.int v) = .int v) (hfit : fits (t_M k) (.int v) = true) (hdg : decode cc pc = .ok (.putfield index, 3))
    (kk : ∀ (H1 : Heap) (locs1 : List Loc), va_P D cl (wM cB cI cJ cZ cS iM h0 ad (upI u k v)) H1 → va_D A (wM cB cI cJ cZ cS iM h0 ad (upI u k v)) → va_S A H0 H1 locs1 → W p l e R s m args below meth c H1 locs1 cells slots Q (F0 m (pc + 3) ls rest)) : W p l e R s m args below meth c H locs cells slots Q (F0 m pc ls (.int v :: .ref h0 :: rest)) := by
  refine mf_put hx hb ht hown hM hK hP hD hS 0 rfl k hk hlink hfin hn hfit hdg (fun H1 locs1 hP1 hD1 hS1 => ?_)
  rw [ms_setI hkd] at hP1 hD1
  exact kk H1 locs1 hP1 hD1 hS1
theorem up_L (hx : p.tables.exec = Jvm.exec) (hb : c.code = cc) (ht : ∀ w ∈ wd_tbl, w.before args s = true) (hown : s.vm.findClass R_M = some m.cls) (hM : cl[iM]? = some (R_M, F_M, 171)) (hK : va_K D cl (ty5 cB cI cJ cZ cS) s) (hP : va_P D cl (wM cB cI cJ cZ cS iM h0 ad u) H) (hD : va_D A (wM cB cI cJ cZ cS iM h0 ad u)) (hS : va_S A H0 H locs) (k : Nat) (hk : k < 171) (hlink : Cond.fieldLink R_M index R_M (F_M k).2.1 (F_M k).2.2.1 ∈ wd_tbl) (hkd : kd k = 2) (hfin : (F_M k).2.2.2 = false) {v : Int64} (hn : narrow (t_M k) (.long v) = .long v) (hfit : fits (t_M k) (.long v) = true) (hdg : decode cc pc = .ok (.putfield index, 3))
    (kk : ∀ (H1 : Heap) (locs1 : List Loc), va_P D cl (wM cB cI cJ cZ cS iM h0 ad (upL u k v)) H1 → va_D A (wM cB cI cJ cZ cS iM h0 ad (upL u k v)) → va_S A H0 H1 locs1 → W p l e R s m args below meth c H1 locs1 cells slots Q (F0 m (pc + 3) ls rest)) : W p l e R s m args below meth c H locs cells slots Q (F0 m pc ls (.long v :: .ref h0 :: rest)) := by
  refine mf_put hx hb ht hown hM hK hP hD hS 0 rfl k hk hlink hfin hn hfit hdg (fun H1 locs1 hP1 hD1 hS1 => ?_)
  rw [ms_setL hkd] at hP1 hD1
  exact kk H1 locs1 hP1 hD1 hS1
theorem ul_B (hx : p.tables.exec = Jvm.exec) (hb : c.code = cc) (hK : va_K D cl (ty5 cB cI cJ cZ cS) s) (hP : va_P D cl (wM cB cI cJ cZ cS iM h0 ad u) H) {k : Nat} (hk : k ∈ AK) (hkd : kd k = 3) {i : Int32} (hin : inb i (ln k) = true) (hdg : decode cc pc = .ok (.baload, 1))
    (kk : W p l e R s m args below meth c H locs cells slots Q (F0 m (pc + 1) ls (.int (u.2.2.1 k i.toNatClampNeg) :: rest))) : W p l e R s m args below meth c H locs cells slots Q (F0 m pc ls (.int i :: .ref (ad k) :: rest)) :=
  va_bald hx hb hK hP (plc k) 0 (by rw [ms_at hk, el_i (by omega), cA_3 hkd]) rfl (inb_in hin) hdg kk
theorem us_B (hx : p.tables.exec = Jvm.exec) (hb : c.code = cc) (hK : va_K D cl (ty5 cB cI cJ cZ cS) s) (hP : va_P D cl (wM cB cI cJ cZ cS iM h0 ad u) H) (hD : va_D A (wM cB cI cJ cZ cS iM h0 ad u)) (hS : va_S A H0 H locs) {k : Nat} (hk : k ∈ AK) (hkd : kd k = 3) {i x : Int32} (hin : inb i (ln k) = true) (hdg : decode cc pc = .ok (.bastore, 1))
    (kk : ∀ (H1 : Heap) (locs1 : List Loc), va_P D cl (wM cB cI cJ cZ cS iM h0 ad (upA u k (upd (u.2.2.1 k) i.toNatClampNeg (vp_nar .byte x)))) H1 → va_D A (wM cB cI cJ cZ cS iM h0 ad (upA u k (upd (u.2.2.1 k) i.toNatClampNeg (vp_nar .byte x)))) → va_S A H0 H1 locs1 → W p l e R s m args below meth c H1 locs1 cells slots Q (F0 m (pc + 1) ls rest)) : W p l e R s m args below meth c H locs cells slots Q (F0 m pc ls (.int x :: .int i :: .ref (ad k) :: rest)) := by
  refine va_bast hx hb hK hP hD hS (plc k) 0 (by rw [ms_at hk, el_i (by omega), cA_3 hkd]) rfl (inb_in hin) hdg (fun H1 locs1 hP1 hD1 hS1 => ?_)
  have e9 := ms_setA (cB := cB) (cI := cI) (cJ := cJ) (cZ := cZ) (cS := cS) (iM := iM) (h0 := h0) (ad := ad) (u := u) (f := upd (u.2.2.1 k) i.toNatClampNeg (vp_nar .byte x)) hk (by omega)
  rw [cA_3 hkd] at e9
  rw [e9] at hP1 hD1
  exact kk H1 locs1 hP1 hD1 hS1
theorem ul_I (hx : p.tables.exec = Jvm.exec) (hb : c.code = cc) (hK : va_K D cl (ty5 cB cI cJ cZ cS) s) (hP : va_P D cl (wM cB cI cJ cZ cS iM h0 ad u) H) {k : Nat} (hk : k ∈ AK) (hkd : kd k = 4) {i : Int32} (hin : inb i (ln k) = true) (hdg : decode cc pc = .ok (.iaload, 1))
    (kk : W p l e R s m args below meth c H locs cells slots Q (F0 m (pc + 1) ls (.int (u.2.2.1 k i.toNatClampNeg) :: rest))) : W p l e R s m args below meth c H locs cells slots Q (F0 m pc ls (.int i :: .ref (ad k) :: rest)) :=
  va_iald hx hb hK hP (plc k) 1 (by rw [ms_at hk, el_i (by omega), cA_4 hkd]) rfl (inb_in hin) hdg kk
theorem us_I (hx : p.tables.exec = Jvm.exec) (hb : c.code = cc) (hK : va_K D cl (ty5 cB cI cJ cZ cS) s) (hP : va_P D cl (wM cB cI cJ cZ cS iM h0 ad u) H) (hD : va_D A (wM cB cI cJ cZ cS iM h0 ad u)) (hS : va_S A H0 H locs) {k : Nat} (hk : k ∈ AK) (hkd : kd k = 4) {i x : Int32} (hin : inb i (ln k) = true) (hdg : decode cc pc = .ok (.iastore, 1))
    (kk : ∀ (H1 : Heap) (locs1 : List Loc), va_P D cl (wM cB cI cJ cZ cS iM h0 ad (upA u k (upd (u.2.2.1 k) i.toNatClampNeg x))) H1 → va_D A (wM cB cI cJ cZ cS iM h0 ad (upA u k (upd (u.2.2.1 k) i.toNatClampNeg x))) → va_S A H0 H1 locs1 → W p l e R s m args below meth c H1 locs1 cells slots Q (F0 m (pc + 1) ls rest)) : W p l e R s m args below meth c H locs cells slots Q (F0 m pc ls (.int x :: .int i :: .ref (ad k) :: rest)) := by
  refine va_iast hx hb hK hP hD hS (plc k) 1 (by rw [ms_at hk, el_i (by omega), cA_4 hkd]) rfl (inb_in hin) hdg (fun H1 locs1 hP1 hD1 hS1 => ?_)
  have e9 := ms_setA (cB := cB) (cI := cI) (cJ := cJ) (cZ := cZ) (cS := cS) (iM := iM) (h0 := h0) (ad := ad) (u := u) (f := upd (u.2.2.1 k) i.toNatClampNeg x) hk (by omega)
  rw [cA_4 hkd] at e9
  rw [e9] at hP1 hD1
  exact kk H1 locs1 hP1 hD1 hS1
theorem ul_Z (hx : p.tables.exec = Jvm.exec) (hb : c.code = cc) (hK : va_K D cl (ty5 cB cI cJ cZ cS) s) (hP : va_P D cl (wM cB cI cJ cZ cS iM h0 ad u) H) {k : Nat} (hk : k ∈ AK) (hkd : kd k = 6) {i : Int32} (hin : inb i (ln k) = true) (hdg : decode cc pc = .ok (.baload, 1))
    (kk : W p l e R s m args below meth c H locs cells slots Q (F0 m (pc + 1) ls (.int (u.2.2.1 k i.toNatClampNeg) :: rest))) : W p l e R s m args below meth c H locs cells slots Q (F0 m pc ls (.int i :: .ref (ad k) :: rest)) :=
  va_zald hx hb hK hP (plc k) 3 (by rw [ms_at hk, el_i (by omega), cA_6 hkd]) rfl (inb_in hin) hdg kk
theorem us_Z (hx : p.tables.exec = Jvm.exec) (hb : c.code = cc) (hK : va_K D cl (ty5 cB cI cJ cZ cS) s) (hP : va_P D cl (wM cB cI cJ cZ cS iM h0 ad u) H) (hD : va_D A (wM cB cI cJ cZ cS iM h0 ad u)) (hS : va_S A H0 H locs) {k : Nat} (hk : k ∈ AK) (hkd : kd k = 6) {i x : Int32} (hin : inb i (ln k) = true) (hdg : decode cc pc = .ok (.bastore, 1))
    (kk : ∀ (H1 : Heap) (locs1 : List Loc), va_P D cl (wM cB cI cJ cZ cS iM h0 ad (upA u k (upd (u.2.2.1 k) i.toNatClampNeg (vp_nar .boolean x)))) H1 → va_D A (wM cB cI cJ cZ cS iM h0 ad (upA u k (upd (u.2.2.1 k) i.toNatClampNeg (vp_nar .boolean x)))) → va_S A H0 H1 locs1 → W p l e R s m args below meth c H1 locs1 cells slots Q (F0 m (pc + 1) ls rest)) : W p l e R s m args below meth c H locs cells slots Q (F0 m pc ls (.int x :: .int i :: .ref (ad k) :: rest)) := by
  refine va_zast hx hb hK hP hD hS (plc k) 3 (by rw [ms_at hk, el_i (by omega), cA_6 hkd]) rfl (inb_in hin) hdg (fun H1 locs1 hP1 hD1 hS1 => ?_)
  have e9 := ms_setA (cB := cB) (cI := cI) (cJ := cJ) (cZ := cZ) (cS := cS) (iM := iM) (h0 := h0) (ad := ad) (u := u) (f := upd (u.2.2.1 k) i.toNatClampNeg (vp_nar .boolean x)) hk (by omega)
  rw [cA_6 hkd] at e9
  rw [e9] at hP1 hD1
  exact kk H1 locs1 hP1 hD1 hS1
theorem ul_S (hx : p.tables.exec = Jvm.exec) (hb : c.code = cc) (hK : va_K D cl (ty5 cB cI cJ cZ cS) s) (hP : va_P D cl (wM cB cI cJ cZ cS iM h0 ad u) H) {k : Nat} (hk : k ∈ AK) (hkd : kd k = 7) {i : Int32} (hin : inb i (ln k) = true) (hdg : decode cc pc = .ok (.saload, 1))
    (kk : W p l e R s m args below meth c H locs cells slots Q (F0 m (pc + 1) ls (.int (u.2.2.1 k i.toNatClampNeg) :: rest))) : W p l e R s m args below meth c H locs cells slots Q (F0 m pc ls (.int i :: .ref (ad k) :: rest)) :=
  va_sald hx hb hK hP (plc k) 4 (by rw [ms_at hk, el_i (by omega), cA_7 hkd]) rfl (inb_in hin) hdg kk
theorem us_S (hx : p.tables.exec = Jvm.exec) (hb : c.code = cc) (hK : va_K D cl (ty5 cB cI cJ cZ cS) s) (hP : va_P D cl (wM cB cI cJ cZ cS iM h0 ad u) H) (hD : va_D A (wM cB cI cJ cZ cS iM h0 ad u)) (hS : va_S A H0 H locs) {k : Nat} (hk : k ∈ AK) (hkd : kd k = 7) {i x : Int32} (hin : inb i (ln k) = true) (hdg : decode cc pc = .ok (.sastore, 1))
    (kk : ∀ (H1 : Heap) (locs1 : List Loc), va_P D cl (wM cB cI cJ cZ cS iM h0 ad (upA u k (upd (u.2.2.1 k) i.toNatClampNeg (vp_nar .short x)))) H1 → va_D A (wM cB cI cJ cZ cS iM h0 ad (upA u k (upd (u.2.2.1 k) i.toNatClampNeg (vp_nar .short x)))) → va_S A H0 H1 locs1 → W p l e R s m args below meth c H1 locs1 cells slots Q (F0 m (pc + 1) ls rest)) : W p l e R s m args below meth c H locs cells slots Q (F0 m pc ls (.int x :: .int i :: .ref (ad k) :: rest)) := by
  refine va_sast hx hb hK hP hD hS (plc k) 4 (by rw [ms_at hk, el_i (by omega), cA_7 hkd]) rfl (inb_in hin) hdg (fun H1 locs1 hP1 hD1 hS1 => ?_)
  have e9 := ms_setA (cB := cB) (cI := cI) (cJ := cJ) (cZ := cZ) (cS := cS) (iM := iM) (h0 := h0) (ad := ad) (u := u) (f := upd (u.2.2.1 k) i.toNatClampNeg (vp_nar .short x)) hk (by omega)
  rw [cA_7 hkd] at e9
  rw [e9] at hP1 hD1
  exact kk H1 locs1 hP1 hD1 hS1
theorem ul_J (hx : p.tables.exec = Jvm.exec) (hb : c.code = cc) (hK : va_K D cl (ty5 cB cI cJ cZ cS) s) (hP : va_P D cl (wM cB cI cJ cZ cS iM h0 ad u) H) {k : Nat} (hk : k ∈ AK) (hkd : kd k = 5) {i : Int32} (hin : inb i (ln k) = true) (hdg : decode cc pc = .ok (.laload, 1))
    (kk : W p l e R s m args below meth c H locs cells slots Q (F0 m (pc + 1) ls (.long (u.2.2.2 k i.toNatClampNeg) :: rest))) : W p l e R s m args below meth c H locs cells slots Q (F0 m pc ls (.int i :: .ref (ad k) :: rest)) :=
  va_lald hx hb hK hP (plc k) 2 (by rw [ms_at hk, el_j hkd, cA_5 hkd]) rfl (inb_in hin) hdg kk
theorem us_J (hx : p.tables.exec = Jvm.exec) (hb : c.code = cc) (hK : va_K D cl (ty5 cB cI cJ cZ cS) s) (hP : va_P D cl (wM cB cI cJ cZ cS iM h0 ad u) H) (hD : va_D A (wM cB cI cJ cZ cS iM h0 ad u)) (hS : va_S A H0 H locs) {k : Nat} (hk : k ∈ AK) (hkd : kd k = 5) {i : Int32} {x : Int64} (hin : inb i (ln k) = true) (hdg : decode cc pc = .ok (.lastore, 1))
    (kk : ∀ (H1 : Heap) (locs1 : List Loc), va_P D cl (wM cB cI cJ cZ cS iM h0 ad (upJ u k (vp_updL (u.2.2.2 k) i.toNatClampNeg x))) H1 → va_D A (wM cB cI cJ cZ cS iM h0 ad (upJ u k (vp_updL (u.2.2.2 k) i.toNatClampNeg x))) → va_S A H0 H1 locs1 → W p l e R s m args below meth c H1 locs1 cells slots Q (F0 m (pc + 1) ls rest)) : W p l e R s m args below meth c H locs cells slots Q (F0 m pc ls (.long x :: .int i :: .ref (ad k) :: rest)) := by
  refine va_last hx hb hK hP hD hS (plc k) 2 (by rw [ms_at hk, el_j hkd, cA_5 hkd]) rfl (inb_in hin) hdg (fun H1 locs1 hP1 hD1 hS1 => ?_)
  have e9 := ms_setJ (cB := cB) (cI := cI) (cJ := cJ) (cZ := cZ) (cS := cS) (iM := iM) (h0 := h0) (ad := ad) (u := u) (f := vp_updL (u.2.2.2 k) i.toNatClampNeg x) hk hkd
  rw [cA_5 hkd] at e9
  rw [e9] at hP1 hD1
  exact kk H1 locs1 hP1 hD1 hS1
theorem un_A (hx : p.tables.exec = Jvm.exec) (hb : c.code = cc) (hK : va_K D cl (ty5 cB cI cJ cZ cS) s) (hP : va_P D cl (wM cB cI cJ cZ cS iM h0 ad u) H) {k : Nat} (hk : k ∈ AK) (hkd : kd k = 3) (hdg : decode cc pc = .ok (.arraylength, 1))
    (kk : W p l e R s m args below meth c H locs cells slots Q (F0 m (pc + 1) ls (.int (Int32.ofNat (ln k)) :: rest))) : W p l e R s m args below meth c H locs cells slots Q (F0 m pc ls (.ref (ad k) :: rest)) :=
  va_alen hx hb hK hP (plc k) 0 (x := (ln k, .inl (u.2.2.1 k))) (by rw [ms_at hk, el_i (by omega), cA_3 hkd]) (ty := .byte) rfl rfl hdg kk
end MROW
end
section
/-! pure programs that may fail; a contract of the reference's methods over its state as a value -/
def ck {α : Type} (b : Bool) (x : Option α) : Option α := if b = true then x else none
theorem ck_some {α : Type} {b : Bool} {x : Option α} {r : α} (h : ck b x = some r) : b = true ∧ x = some r := by
  unfold ck at h
  by_cases hb : b = true
  · rw [if_pos hb] at h
    exact ⟨hb, h⟩
  · rw [if_neg hb] at h
    cases h
def br {α : Type} (b : Bool) (x y : α) : α := if b = true then x else y
theorem br_p {α : Type} {c : Prop} (d : Decidable c) {x y : α} (h : c) : br (@decide c d) x y = x := if_pos (decide_eq_true h)
theorem br_n {α : Type} {c : Prop} (d : Decidable c) {x y : α} (h : ¬ c) : br (@decide c d) x y = y := if_neg (fun z => h (of_decide_eq_true z))
def bnd {α β : Type} (x : Option (MS × α)) (f : MS → α → Option β) : Option β := match x with
  | none => none
  | some q => f q.1 q.2
theorem bnd_some {α β : Type} {x : Option (MS × α)} {f : MS → α → Option β} {r : β} (h : bnd x f = some r) : ∃ u v, x = some (u, v) ∧ f u v = some r := by
  cases x with
  | none => cases h
  | some q => exact ⟨q.1, q.2, rfl, h⟩
def isK (k t : Nat) : Bool := decide (k ∈ AK) && decide (kd k = t)
theorem isK_1 {k t : Nat} (h : isK k t = true) : k ∈ AK := by
  unfold isK at h
  rw [Bool.and_eq_true] at h
  exact of_decide_eq_true h.1
theorem isK_2 {k t : Nat} (h : isK k t = true) : kd k = t := by
  unfold isK at h
  rw [Bool.and_eq_true] at h
  exact of_decide_eq_true h.2
def isb (v : Int32) : Bool := decide (v = 0 ∨ v = 1)
theorem isb_n {v : Int32} (h : isb v = true) : narrow .boolean (.int v) = .int v := by
  rcases (of_decide_eq_true h : v = 0 ∨ v = 1) with rfl | rfl <;> rfl
theorem isb_f {v : Int32} (h : isb v = true) : fits .boolean (.int v) = true := by
  rcases (of_decide_eq_true h : v = 0 ∨ v = 1) with rfl | rfl <;> rfl
theorem wM_D {cB cI cJ cZ cS : ClassId} {iM h0 : Nat} {ad : Nat → Nat} {u u2 : MS} {A : Nat → Prop} (h : va_D A (wM cB cI cJ cZ cS iM h0 ad u)) : va_D A (wM cB cI cJ cZ cS iM h0 ad u2) := by
  have h1 := wD_nd.mp h
  have e1 : ∀ v : MS, (wM cB cI cJ cZ cS iM h0 ad v).map Prod.fst = h0 :: AK.map ad := fun v => by
    unfold wM
    rw [List.map_cons, List.map_map]
    rfl
  refine wD_nd.mpr ⟨by rw [e1, ← e1 u]; exact h1.1, fun q hq => ?_⟩
  have h2 : q.1 ∈ (wM cB cI cJ cZ cS iM h0 ad u).map Prod.fst := by
    rw [e1, ← e1 u2]
    exact List.mem_map_of_mem hq
  obtain ⟨q2, h3, h4⟩ := List.mem_map.mp h2
  rw [← h4]
  exact h1.2 q2 h3
def mPc (D : va_G) (cl : List vw_C) (cB cI cJ cZ cS : ClassId) (iM h0 : Nat) (ad : Nat → Nat) (u : MS) (sz : Nat) (As : List Value) : Array Value → State → Prop :=
  va_Pc As (fun U => U.heap.size = sz ∧ va_P D cl (wM cB cI cJ cZ cS iM h0 ad u) U.heap ∧ va_K D cl (ty5 cB cI cJ cZ cS) U ∧ va_D (fun _ => True) (wM cB cI cJ cZ cS iM h0 ad u))
def mB (D : va_G) (cl : List vw_C) (cB cI cJ cZ cS : ClassId) (iM h0 : Nat) (ad : Nat → Nat) (A : Nat → Prop) (u : MS) (t : State) : Prop :=
  va_P D cl (wM cB cI cJ cZ cS iM h0 ad u) t.heap ∧ va_K D cl (ty5 cB cI cJ cZ cS) t ∧ va_D A (wM cB cI cJ cZ cS iM h0 ad u)
abbrev mA (cB cI cJ cZ cS : ClassId) (iM h0 : Nat) (ad : Nat → Nat) (u : MS) (sz : Nat) : Nat → Prop := va_A (wM cB cI cJ cZ cS iM h0 ad u) sz
def mQi (D : va_G) (cl : List vw_C) (cB cI cJ cZ cS : ClassId) (iM h0 : Nat) (ad : Nat → Nat) (A : Nat → Prop) (x : MS × Int32) : Array Value → State → Outcome → State → Prop :=
  va_Qi (fun (r : Int32) (v : MS) => r = x.2 ∧ v = x.1) (mB D cl cB cI cJ cZ cS iM h0 ad A) A
def mQl (D : va_G) (cl : List vw_C) (cB cI cJ cZ cS : ClassId) (iM h0 : Nat) (ad : Nat → Nat) (A : Nat → Prop) (x : MS × Int64) : Array Value → State → Outcome → State → Prop :=
  va_Ql (fun (r : Int64) (v : MS) => r = x.2 ∧ v = x.1) (mB D cl cB cI cJ cZ cS iM h0 ad A) A
def mQv (D : va_G) (cl : List vw_C) (cB cI cJ cZ cS : ClassId) (iM h0 : Nat) (ad : Nat → Nat) (A : Nat → Prop) (x : MS × Unit) : Array Value → State → Outcome → State → Prop :=
  va_Qv (fun (v : MS) => v = x.1) (mB D cl cB cI cJ cZ cS iM h0 ad A) A
/-- what stands fixed while a method of the reference is walked -/
def MCx (p : Program) (s : State) (m : MethodId) (args : Array Value) (meth : Method) (c : Code) (cc : ByteArray) (nL : Nat) (ret : Option FieldType) (D : va_G) (cl : List vw_C) (cB cI cJ cZ cS : ClassId) (iM : Nat) (A : Nat → Prop) : Prop :=
  p.tables.exec = Jvm.exec ∧ c.code = cc ∧ meth.sig.returnType = ret ∧ c.maxLocals = nL ∧ (∀ w ∈ wd_tbl, w.before args s = true) ∧ s.vm.findClass R_M = some m.cls ∧ cl[iM]? = some (R_M, F_M, 171) ∧ va_K D cl (ty5 cB cI cJ cZ cS) s ∧ (∀ q, s.heap.size ≤ q → A q) ∧ meth.locks = false
section MRET
variable {p : Program} {l : Launch} {e : Env} {R : Room} {s : State} {m : MethodId} {args : Array Value} {below : List Frame} {meth : Method} {c : Code} {H : Heap} {locs : List Loc}
variable {cc : ByteArray} {pc nL : Nat} {ls : Array Slot} {D : va_G} {cl : List vw_C} {cB cI cJ cZ cS : ClassId} {A : Nat → Prop} {iM h0 : Nat} {ad : Nat → Nat} {u : MS}
theorem mr_i {v : Int32} {x : MS × Int32} (C0 : MCx p s m args meth c cc nL (some .int) D cl cB cI cJ cZ cS iM A) (hP : va_P D cl (wM cB cI cJ cZ cS iM h0 ad u) H) (hD : va_D A (wM cB cI cJ cZ cS iM h0 ad u)) (hS : va_S A s.heap H locs) (hf : some (u, v) = some x) (hdg : decode cc pc = .ok (.ireturn, 1)) : W p l e R s m args below meth c H locs 0 0 (MQ below (mQi D cl cB cI cJ cZ cS iM h0 ad A x) args s 0 0 A) (F0 m pc ls [.int v]) := by
  obtain ⟨hx, hb, hr, hml, ht, hown, hM, hK, hA, hlocks⟩ := C0
  cases hf
  exact W.iret hx hb hr (fun t h hW => ⟨⟨v, u, rfl, ⟨rfl, rfl⟩, by rw [h]; exact hP, va_K.moved hW.alike hK, hD⟩, hS.F h⟩) hS.2.2 hdg
theorem mr_z {v : Int32} {x : MS × Int32} (C0 : MCx p s m args meth c cc nL (some .boolean) D cl cB cI cJ cZ cS iM A) (hP : va_P D cl (wM cB cI cJ cZ cS iM h0 ad u) H) (hD : va_D A (wM cB cI cJ cZ cS iM h0 ad u)) (hS : va_S A s.heap H locs) (hv : isb v = true) (hf : some (u, v) = some x) (hdg : decode cc pc = .ok (.ireturn, 1)) : W p l e R s m args below meth c H locs 0 0 (MQ below (mQi D cl cB cI cJ cZ cS iM h0 ad A x) args s 0 0 A) (F0 m pc ls [.int v]) := by
  obtain ⟨hx, hb, hr, hml, ht, hown, hM, hK, hA, hlocks⟩ := C0
  cases hf
  exact W.zret hx hb hr (isb_n hv) (fun t h hW => ⟨⟨v, u, rfl, ⟨rfl, rfl⟩, by rw [h]; exact hP, va_K.moved hW.alike hK, hD⟩, hS.F h⟩) hS.2.2 hdg
theorem mr_l {v : Int64} {x : MS × Int64} (C0 : MCx p s m args meth c cc nL (some .long) D cl cB cI cJ cZ cS iM A) (hP : va_P D cl (wM cB cI cJ cZ cS iM h0 ad u) H) (hD : va_D A (wM cB cI cJ cZ cS iM h0 ad u)) (hS : va_S A s.heap H locs) (hf : some (u, v) = some x) (hdg : decode cc pc = .ok (.lreturn, 1)) : W p l e R s m args below meth c H locs 0 0 (MQ below (mQl D cl cB cI cJ cZ cS iM h0 ad A x) args s 0 0 A) (F0 m pc ls [.long v]) := by
  obtain ⟨hx, hb, hr, hml, ht, hown, hM, hK, hA, hlocks⟩ := C0
  cases hf
  exact W.lret hx hb hr (fun t h hW => ⟨⟨v, u, rfl, ⟨rfl, rfl⟩, by rw [h]; exact hP, va_K.moved hW.alike hK, hD⟩, hS.F h⟩) hS.2.2 hdg
theorem mr_v {x : MS × Unit} (C0 : MCx p s m args meth c cc nL none D cl cB cI cJ cZ cS iM A) (hP : va_P D cl (wM cB cI cJ cZ cS iM h0 ad u) H) (hD : va_D A (wM cB cI cJ cZ cS iM h0 ad u)) (hS : va_S A s.heap H locs) (hf : some (u, ()) = some x) (hdg : decode cc pc = .ok (.return_, 1)) : W p l e R s m args below meth c H locs 0 0 (MQ below (mQv D cl cB cI cJ cZ cS iM h0 ad A x) args s 0 0 A) (F0 m pc ls []) := by
  obtain ⟨hx, hb, hr, hml, ht, hown, hM, hK, hA, hlocks⟩ := C0
  cases hf
  exact W.vret hx hb hr (fun t h hW => ⟨⟨u, rfl, rfl, by rw [h]; exact hP, va_K.moved hW.alike hK, hD⟩, hS.F h⟩) hS.2.2 hdg
end MRET
/-- a contract out of a walk from the entry -/
theorem mMet {l : Launch} {y : MethodName} {b : ByteArray} {n : Nat} {ret : Option FieldType} {rm : Room} {D : va_G} {cl : List vw_C} {cB cI cJ cZ cS : ClassId} {iM h0 : Nat} {ad : Nat → Nat} {u : MS} {sz : Nat} {As : List Value} {Qc : Array Value → State → Outcome → State → Prop}
    (hy : plainName y.cls = true) (hcls : y.cls = R_M) (hM : cl[iM]? = some (R_M, F_M, 171)) (hlen : (lg_sl As).length ≤ n)
    (walk : ∀ (p : Program) (e : Env) (s : State) (m : MethodId) (below : List Frame) (meth : Method) (c : Code) (ls : Array Slot), s.heap.size = sz → MCx p s m As.toArray meth c b n ret D cl cB cI cJ cZ cS iM (mA cB cI cJ cZ cS iM h0 ad u sz) → va_P D cl (wM cB cI cJ cZ cS iM h0 ad u) s.heap → va_D (mA cB cI cJ cZ cS iM h0 ad u sz) (wM cB cI cJ cZ cS iM h0 ad u) → va_S (mA cB cI cJ cZ cS iM h0 ad u sz) s.heap s.heap [] → lv_has ls n (lv_args 0 As) →
      W p l e rm s m As.toArray below meth c s.heap [] 0 0 (MQ below Qc As.toArray s 0 0 (mA cB cI cJ cZ cS iM h0 ad u sz)) (F0 m 0 ls [])) :
    Met l y (wd_ws y b n ret) rm (mPc D cl cB cI cJ cZ cS iM h0 ad u sz As) Qc 0 0 (mA cB cI cJ cZ cS iM h0 ad u sz) := by
  refine Met.ofW (cc := b) (maxL := n) (ret := ret) hy rfl ?_
  intro p e s m args below meth c s₁ B hml hv
  obtain ⟨rfl, hsz, hP, hK, hD0⟩ := hv
  have hts := atoms_spec (ws := wd_ws y b n ret) B.pre
  have hown : s.vm.findClass R_M = some m.cls := by rw [← hcls]; exact findClass_of_methodNamed B.named
  have hD := hD0.self (sz := sz)
  have hl := lv_entry As (n := n) hlen
  rw [lg_entry_eq]
  generalize (lg_sl As ++ List.replicate (n - (lg_sl As).length) Slot.unset).toArray = ls at hl ⊢
  exact walk p e s m below meth c ls hsz ⟨B.exec, B.bytes, B.returns, hml, fun w h => hts w (List.mem_cons_of_mem _ h), hown, hM, hK, fun q h => Or.inr (by omega), B.notSynchronized⟩ hP hD va_S.rf hl
end
section
/-! a call of one of the reference's methods by another -/
section MCALL
variable {p : Program} {l : Launch} {e : Env} {R : Room} {s : State} {m : MethodId} {args : Array Value} {below : List Frame} {meth : Method} {c : Code} {H : Heap} {locs : List Loc} {cells slots : Nat} {Q : State → Prop}
variable {cc : ByteArray} {pc nL n idx : Nat} {ls : Array Slot} {rest : List Value} {ret rt : Option FieldType} {D : va_G} {cl : List vw_C} {cB cI cJ cZ cS : ClassId} {A : Nat → Prop} {iM h0 : Nat} {ad : Nat → Nat} {u : MS} {y : MethodName} {b : ByteArray} {rm : Room} {As : List Value}
theorem mV_i {x : MS × Int32} (C0 : MCx p s m args meth c cc nL ret D cl cB cI cJ cZ cS iM A) (hP : va_P D cl (wM cB cI cJ cZ cS iM h0 ad u) H) (hD : va_D A (wM cB cI cJ cZ cS iM h0 ad u)) (hS : va_S A s.heap H locs)
    (hC : Met l y (wd_ws y b n rt) rm (mPc D cl cB cI cJ cZ cS iM h0 ad u H.size (.ref h0 :: As)) (mQi D cl cB cI cJ cZ cS iM h0 ad (mA cB cI cJ cZ cS iM h0 ad u H.size) x) 0 0 (mA cB cI cJ cZ cS iM h0 ad u H.size))
    (hk : Cond.code y b n rt ∈ wd_tbl) (hl : Cond.methodLink R_M idx y ∈ wd_tbl) (hi : Cond.instanceMethod y ∈ wd_tbl) (hsel : Cond.selects R_M y y ∈ wd_tbl) (hini : Cond.initialized R_M ∈ wd_tbl) (hrc : rm.cells = 0) (hrs : rm.slots = 0)
    (hd : y.cls = R_M ∧ y.cls ≠ "java/lang/invoke/MethodHandle" ∧ y.cls ≠ "java/lang/invoke/VarHandle" ∧ (parseMethodDescriptor y.desc).map (fun d => d.parameters.length) = some As.length) (hR : rm.frames + 1 ≤ R.frames ∧ 8 + (n + 11) + rm.locals ≤ R.locals) (hsz : ls.size = nL) (hr8 : (rest.map fun v => v.category).sum ≤ 8) (hdg : decode cc pc = .ok (.invokevirtual idx, 3))
    {st : List Value} (hst0 : st = As.reverse ++ .ref h0 :: rest) (hf : cells + 0 ≤ R.cells ∧ slots + 0 ≤ R.slots)
    (kk : ∀ (H1 : Heap) (locs1 : List Loc), va_P D cl (wM cB cI cJ cZ cS iM h0 ad x.1) H1 → va_D A (wM cB cI cJ cZ cS iM h0 ad x.1) → va_S A s.heap H1 locs1 → W p l e R s m args below meth c H1 locs1 cells slots Q (F0 m (pc + 3) ls (.int x.2 :: rest))) :
    W p l e R s m args below meth c H locs cells slots Q (F0 m pc ls st) := by
  obtain ⟨hx, hb, hr, hml, ht, hown, hM, hK, hA, hlocks⟩ := C0
  subst hst0
  have hFc : ∀ q, mA cB cI cJ cZ cS iM h0 ad u H.size q → A q := fun q h => by
    rcases h with ⟨k, e1, h⟩ | h
    · exact hD.2 k _ h
    · exact hA q (Nat.le_trans hS.1 h)
  have hG : GoodIn wd_tbl (wsV R_M idx R_M y (wd_ws y b n rt)) := fun w h => by
    rcases List.mem_append.mp h with h | h
    · have hm : w ∈ wd_tbl := by
        simp only [List.mem_cons, List.not_mem_nil, or_false] at h
        rcases h with rfl | rfl | rfl | rfl
        · exact hl
        · exact hi
        · exact hsel
        · exact hini
      exact ⟨hm, wd_gd hm⟩
    · exact wd_in (fun _ z => z) hk w h
  refine va_calli (va_runV (As := As) (rest := rest) ⟨hx, hb, hml, hown, ht⟩ hC (cwV As.length ht hG rfl hrc hrs hd hR) ⟨fun a U g mk q => by obtain ⟨q0, q1, qP, qK, qD⟩ := q; exact ⟨q0, q1, qP, va_K.moved (u := U) (U := U.calling g mk a) (Vm.Alike.refl U.vm) qK, qD⟩, va_recv hK hP hM (q0 := 0) rfl, fun U hU hW => ⟨rfl, by rw [hU], by rw [hU]; exact hP, va_K.moved hW.alike hK, hD.weaken (fun _ _ _ _ => trivial)⟩⟩ rfl rfl hsz rfl (by simpa using hr8) hdg hf) hS (fun q _ h => hFc q h) hFc (fun r v t H1 locs1 h1 hvm hw hB hz hk hS1 => ?_)
  obtain ⟨hP1, hK1, hD1⟩ := hB
  rw [h1] at hP1
  obtain ⟨rfl, rfl⟩ := hw
  exact kk H1 locs1 hP1 (wM_D hD) hS1
theorem mS_i {x : MS × Int32} (C0 : MCx p s m args meth c cc nL ret D cl cB cI cJ cZ cS iM A) (hP : va_P D cl (wM cB cI cJ cZ cS iM h0 ad u) H) (hD : va_D A (wM cB cI cJ cZ cS iM h0 ad u)) (hS : va_S A s.heap H locs)
    (hC : Met l y (wd_ws y b n rt) rm (mPc D cl cB cI cJ cZ cS iM h0 ad u H.size As) (mQi D cl cB cI cJ cZ cS iM h0 ad (mA cB cI cJ cZ cS iM h0 ad u H.size) x) 0 0 (mA cB cI cJ cZ cS iM h0 ad u H.size))
    (hk : Cond.code y b n rt ∈ wd_tbl) (hl : Cond.methodLink R_M idx y ∈ wd_tbl) (hst : Cond.static y ∈ wd_tbl) (hini : Cond.initialized R_M ∈ wd_tbl) (hrc : rm.cells = 0) (hrs : rm.slots = 0)
    (hd : y.cls = R_M ∧ y.cls ≠ "java/lang/invoke/MethodHandle" ∧ y.cls ≠ "java/lang/invoke/VarHandle" ∧ (parseMethodDescriptor y.desc).map (fun d => d.parameters.length) = some As.length) (hR : rm.frames + 1 ≤ R.frames ∧ 8 + (n + 11) + rm.locals ≤ R.locals) (hsz : ls.size = nL) (hr8 : (rest.map fun v => v.category).sum ≤ 8) (hdg : decode cc pc = .ok (.invokestatic idx, 3))
    {st : List Value} (hst0 : st = As.reverse ++ rest) (hf : cells + 0 ≤ R.cells ∧ slots + 0 ≤ R.slots)
    (kk : ∀ (H1 : Heap) (locs1 : List Loc), va_P D cl (wM cB cI cJ cZ cS iM h0 ad x.1) H1 → va_D A (wM cB cI cJ cZ cS iM h0 ad x.1) → va_S A s.heap H1 locs1 → W p l e R s m args below meth c H1 locs1 cells slots Q (F0 m (pc + 3) ls (.int x.2 :: rest))) :
    W p l e R s m args below meth c H locs cells slots Q (F0 m pc ls st) := by
  obtain ⟨hx, hb, hr, hml, ht, hown, hM, hK, hA, hlocks⟩ := C0
  subst hst0
  have hFc : ∀ q, mA cB cI cJ cZ cS iM h0 ad u H.size q → A q := fun q h => by
    rcases h with ⟨k, e1, h⟩ | h
    · exact hD.2 k _ h
    · exact hA q (Nat.le_trans hS.1 h)
  have hG : GoodIn wd_tbl (wsS R_M idx y (wd_ws y b n rt)) := fun w h => by
    rcases List.mem_append.mp h with h | h
    · have hm : w ∈ wd_tbl := by
        simp only [List.mem_cons, List.not_mem_nil, or_false] at h
        rcases h with rfl | rfl | rfl
        · exact hl
        · exact hst
        · exact hini
      exact ⟨hm, wd_gd hm⟩
    · exact wd_in (fun _ z => z) hk w h
  refine va_calli (va_runS (As := As) (rest := rest) ⟨hx, hb, hml, hown, ht⟩ hC (cwS As.length ht hG rfl hrc hrs hd hR) ⟨fun a U g mk q => by obtain ⟨q0, q1, qP, qK, qD⟩ := q; exact ⟨q0, q1, qP, va_K.moved (u := U) (U := U.calling g mk a) (Vm.Alike.refl U.vm) qK, qD⟩, fun U hU hW => ⟨rfl, by rw [hU], by rw [hU]; exact hP, va_K.moved hW.alike hK, hD.weaken (fun _ _ _ _ => trivial)⟩⟩ rfl rfl hsz rfl (by simpa using hr8) hdg hf) hS (fun q _ h => hFc q h) hFc (fun r v t H1 locs1 h1 hvm hw hB hz hk hS1 => ?_)
  obtain ⟨hP1, hK1, hD1⟩ := hB
  rw [h1] at hP1
  obtain ⟨rfl, rfl⟩ := hw
  exact kk H1 locs1 hP1 (wM_D hD) hS1
theorem mV_l {x : MS × Int64} (C0 : MCx p s m args meth c cc nL ret D cl cB cI cJ cZ cS iM A) (hP : va_P D cl (wM cB cI cJ cZ cS iM h0 ad u) H) (hD : va_D A (wM cB cI cJ cZ cS iM h0 ad u)) (hS : va_S A s.heap H locs)
    (hC : Met l y (wd_ws y b n rt) rm (mPc D cl cB cI cJ cZ cS iM h0 ad u H.size (.ref h0 :: As)) (mQl D cl cB cI cJ cZ cS iM h0 ad (mA cB cI cJ cZ cS iM h0 ad u H.size) x) 0 0 (mA cB cI cJ cZ cS iM h0 ad u H.size))
    (hk : Cond.code y b n rt ∈ wd_tbl) (hl : Cond.methodLink R_M idx y ∈ wd_tbl) (hi : Cond.instanceMethod y ∈ wd_tbl) (hsel : Cond.selects R_M y y ∈ wd_tbl) (hini : Cond.initialized R_M ∈ wd_tbl) (hrc : rm.cells = 0) (hrs : rm.slots = 0)
    (hd : y.cls = R_M ∧ y.cls ≠ "java/lang/invoke/MethodHandle" ∧ y.cls ≠ "java/lang/invoke/VarHandle" ∧ (parseMethodDescriptor y.desc).map (fun d => d.parameters.length) = some As.length) (hR : rm.frames + 1 ≤ R.frames ∧ 8 + (n + 11) + rm.locals ≤ R.locals) (hsz : ls.size = nL) (hr8 : (rest.map fun v => v.category).sum ≤ 8) (hdg : decode cc pc = .ok (.invokevirtual idx, 3))
    {st : List Value} (hst0 : st = As.reverse ++ .ref h0 :: rest) (hf : cells + 0 ≤ R.cells ∧ slots + 0 ≤ R.slots)
    (kk : ∀ (H1 : Heap) (locs1 : List Loc), va_P D cl (wM cB cI cJ cZ cS iM h0 ad x.1) H1 → va_D A (wM cB cI cJ cZ cS iM h0 ad x.1) → va_S A s.heap H1 locs1 → W p l e R s m args below meth c H1 locs1 cells slots Q (F0 m (pc + 3) ls (.long x.2 :: rest))) :
    W p l e R s m args below meth c H locs cells slots Q (F0 m pc ls st) := by
  obtain ⟨hx, hb, hr, hml, ht, hown, hM, hK, hA, hlocks⟩ := C0
  subst hst0
  have hFc : ∀ q, mA cB cI cJ cZ cS iM h0 ad u H.size q → A q := fun q h => by
    rcases h with ⟨k, e1, h⟩ | h
    · exact hD.2 k _ h
    · exact hA q (Nat.le_trans hS.1 h)
  have hG : GoodIn wd_tbl (wsV R_M idx R_M y (wd_ws y b n rt)) := fun w h => by
    rcases List.mem_append.mp h with h | h
    · have hm : w ∈ wd_tbl := by
        simp only [List.mem_cons, List.not_mem_nil, or_false] at h
        rcases h with rfl | rfl | rfl | rfl
        · exact hl
        · exact hi
        · exact hsel
        · exact hini
      exact ⟨hm, wd_gd hm⟩
    · exact wd_in (fun _ z => z) hk w h
  refine va_calll (va_runV (As := As) (rest := rest) ⟨hx, hb, hml, hown, ht⟩ hC (cwV As.length ht hG rfl hrc hrs hd hR) ⟨fun a U g mk q => by obtain ⟨q0, q1, qP, qK, qD⟩ := q; exact ⟨q0, q1, qP, va_K.moved (u := U) (U := U.calling g mk a) (Vm.Alike.refl U.vm) qK, qD⟩, va_recv hK hP hM (q0 := 0) rfl, fun U hU hW => ⟨rfl, by rw [hU], by rw [hU]; exact hP, va_K.moved hW.alike hK, hD.weaken (fun _ _ _ _ => trivial)⟩⟩ rfl rfl hsz rfl (by simpa using hr8) hdg hf) hS (fun q _ h => hFc q h) hFc (fun r v t H1 locs1 h1 hvm hw hB hz hk hS1 => ?_)
  obtain ⟨hP1, hK1, hD1⟩ := hB
  rw [h1] at hP1
  obtain ⟨rfl, rfl⟩ := hw
  exact kk H1 locs1 hP1 (wM_D hD) hS1
theorem mS_l {x : MS × Int64} (C0 : MCx p s m args meth c cc nL ret D cl cB cI cJ cZ cS iM A) (hP : va_P D cl (wM cB cI cJ cZ cS iM h0 ad u) H) (hD : va_D A (wM cB cI cJ cZ cS iM h0 ad u)) (hS : va_S A s.heap H locs)
    (hC : Met l y (wd_ws y b n rt) rm (mPc D cl cB cI cJ cZ cS iM h0 ad u H.size As) (mQl D cl cB cI cJ cZ cS iM h0 ad (mA cB cI cJ cZ cS iM h0 ad u H.size) x) 0 0 (mA cB cI cJ cZ cS iM h0 ad u H.size))
    (hk : Cond.code y b n rt ∈ wd_tbl) (hl : Cond.methodLink R_M idx y ∈ wd_tbl) (hst : Cond.static y ∈ wd_tbl) (hini : Cond.initialized R_M ∈ wd_tbl) (hrc : rm.cells = 0) (hrs : rm.slots = 0)
    (hd : y.cls = R_M ∧ y.cls ≠ "java/lang/invoke/MethodHandle" ∧ y.cls ≠ "java/lang/invoke/VarHandle" ∧ (parseMethodDescriptor y.desc).map (fun d => d.parameters.length) = some As.length) (hR : rm.frames + 1 ≤ R.frames ∧ 8 + (n + 11) + rm.locals ≤ R.locals) (hsz : ls.size = nL) (hr8 : (rest.map fun v => v.category).sum ≤ 8) (hdg : decode cc pc = .ok (.invokestatic idx, 3))
    {st : List Value} (hst0 : st = As.reverse ++ rest) (hf : cells + 0 ≤ R.cells ∧ slots + 0 ≤ R.slots)
    (kk : ∀ (H1 : Heap) (locs1 : List Loc), va_P D cl (wM cB cI cJ cZ cS iM h0 ad x.1) H1 → va_D A (wM cB cI cJ cZ cS iM h0 ad x.1) → va_S A s.heap H1 locs1 → W p l e R s m args below meth c H1 locs1 cells slots Q (F0 m (pc + 3) ls (.long x.2 :: rest))) :
    W p l e R s m args below meth c H locs cells slots Q (F0 m pc ls st) := by
  obtain ⟨hx, hb, hr, hml, ht, hown, hM, hK, hA, hlocks⟩ := C0
  subst hst0
  have hFc : ∀ q, mA cB cI cJ cZ cS iM h0 ad u H.size q → A q := fun q h => by
    rcases h with ⟨k, e1, h⟩ | h
    · exact hD.2 k _ h
    · exact hA q (Nat.le_trans hS.1 h)
  have hG : GoodIn wd_tbl (wsS R_M idx y (wd_ws y b n rt)) := fun w h => by
    rcases List.mem_append.mp h with h | h
    · have hm : w ∈ wd_tbl := by
        simp only [List.mem_cons, List.not_mem_nil, or_false] at h
        rcases h with rfl | rfl | rfl
        · exact hl
        · exact hst
        · exact hini
      exact ⟨hm, wd_gd hm⟩
    · exact wd_in (fun _ z => z) hk w h
  refine va_calll (va_runS (As := As) (rest := rest) ⟨hx, hb, hml, hown, ht⟩ hC (cwS As.length ht hG rfl hrc hrs hd hR) ⟨fun a U g mk q => by obtain ⟨q0, q1, qP, qK, qD⟩ := q; exact ⟨q0, q1, qP, va_K.moved (u := U) (U := U.calling g mk a) (Vm.Alike.refl U.vm) qK, qD⟩, fun U hU hW => ⟨rfl, by rw [hU], by rw [hU]; exact hP, va_K.moved hW.alike hK, hD.weaken (fun _ _ _ _ => trivial)⟩⟩ rfl rfl hsz rfl (by simpa using hr8) hdg hf) hS (fun q _ h => hFc q h) hFc (fun r v t H1 locs1 h1 hvm hw hB hz hk hS1 => ?_)
  obtain ⟨hP1, hK1, hD1⟩ := hB
  rw [h1] at hP1
  obtain ⟨rfl, rfl⟩ := hw
  exact kk H1 locs1 hP1 (wM_D hD) hS1
theorem mV_v {x : MS × Unit} (C0 : MCx p s m args meth c cc nL ret D cl cB cI cJ cZ cS iM A) (hP : va_P D cl (wM cB cI cJ cZ cS iM h0 ad u) H) (hD : va_D A (wM cB cI cJ cZ cS iM h0 ad u)) (hS : va_S A s.heap H locs)
    (hC : Met l y (wd_ws y b n rt) rm (mPc D cl cB cI cJ cZ cS iM h0 ad u H.size (.ref h0 :: As)) (mQv D cl cB cI cJ cZ cS iM h0 ad (mA cB cI cJ cZ cS iM h0 ad u H.size) x) 0 0 (mA cB cI cJ cZ cS iM h0 ad u H.size))
    (hk : Cond.code y b n rt ∈ wd_tbl) (hl : Cond.methodLink R_M idx y ∈ wd_tbl) (hi : Cond.instanceMethod y ∈ wd_tbl) (hsel : Cond.selects R_M y y ∈ wd_tbl) (hini : Cond.initialized R_M ∈ wd_tbl) (hrc : rm.cells = 0) (hrs : rm.slots = 0)
    (hd : y.cls = R_M ∧ y.cls ≠ "java/lang/invoke/MethodHandle" ∧ y.cls ≠ "java/lang/invoke/VarHandle" ∧ (parseMethodDescriptor y.desc).map (fun d => d.parameters.length) = some As.length) (hR : rm.frames + 1 ≤ R.frames ∧ 8 + (n + 11) + rm.locals ≤ R.locals) (hsz : ls.size = nL) (hr8 : (rest.map fun v => v.category).sum ≤ 8) (hdg : decode cc pc = .ok (.invokevirtual idx, 3))
    {st : List Value} (hst0 : st = As.reverse ++ .ref h0 :: rest) (hf : cells + 0 ≤ R.cells ∧ slots + 0 ≤ R.slots)
    (kk : ∀ (H1 : Heap) (locs1 : List Loc), va_P D cl (wM cB cI cJ cZ cS iM h0 ad x.1) H1 → va_D A (wM cB cI cJ cZ cS iM h0 ad x.1) → va_S A s.heap H1 locs1 → W p l e R s m args below meth c H1 locs1 cells slots Q (F0 m (pc + 3) ls (rest))) :
    W p l e R s m args below meth c H locs cells slots Q (F0 m pc ls st) := by
  obtain ⟨hx, hb, hr, hml, ht, hown, hM, hK, hA, hlocks⟩ := C0
  subst hst0
  have hFc : ∀ q, mA cB cI cJ cZ cS iM h0 ad u H.size q → A q := fun q h => by
    rcases h with ⟨k, e1, h⟩ | h
    · exact hD.2 k _ h
    · exact hA q (Nat.le_trans hS.1 h)
  have hG : GoodIn wd_tbl (wsV R_M idx R_M y (wd_ws y b n rt)) := fun w h => by
    rcases List.mem_append.mp h with h | h
    · have hm : w ∈ wd_tbl := by
        simp only [List.mem_cons, List.not_mem_nil, or_false] at h
        rcases h with rfl | rfl | rfl | rfl
        · exact hl
        · exact hi
        · exact hsel
        · exact hini
      exact ⟨hm, wd_gd hm⟩
    · exact wd_in (fun _ z => z) hk w h
  refine va_callv (va_runV (As := As) (rest := rest) ⟨hx, hb, hml, hown, ht⟩ hC (cwV As.length ht hG rfl hrc hrs hd hR) ⟨fun a U g mk q => by obtain ⟨q0, q1, qP, qK, qD⟩ := q; exact ⟨q0, q1, qP, va_K.moved (u := U) (U := U.calling g mk a) (Vm.Alike.refl U.vm) qK, qD⟩, va_recv hK hP hM (q0 := 0) rfl, fun U hU hW => ⟨rfl, by rw [hU], by rw [hU]; exact hP, va_K.moved hW.alike hK, hD.weaken (fun _ _ _ _ => trivial)⟩⟩ rfl rfl hsz rfl (by simpa using hr8) hdg hf) hS (fun q _ h => hFc q h) hFc (fun v t H1 locs1 h1 hvm hw hB hz hk hS1 => ?_)
  obtain ⟨hP1, hK1, hD1⟩ := hB
  rw [h1] at hP1
  subst hw
  exact kk H1 locs1 hP1 (wM_D hD) hS1
theorem mS_v {x : MS × Unit} (C0 : MCx p s m args meth c cc nL ret D cl cB cI cJ cZ cS iM A) (hP : va_P D cl (wM cB cI cJ cZ cS iM h0 ad u) H) (hD : va_D A (wM cB cI cJ cZ cS iM h0 ad u)) (hS : va_S A s.heap H locs)
    (hC : Met l y (wd_ws y b n rt) rm (mPc D cl cB cI cJ cZ cS iM h0 ad u H.size As) (mQv D cl cB cI cJ cZ cS iM h0 ad (mA cB cI cJ cZ cS iM h0 ad u H.size) x) 0 0 (mA cB cI cJ cZ cS iM h0 ad u H.size))
    (hk : Cond.code y b n rt ∈ wd_tbl) (hl : Cond.methodLink R_M idx y ∈ wd_tbl) (hst : Cond.static y ∈ wd_tbl) (hini : Cond.initialized R_M ∈ wd_tbl) (hrc : rm.cells = 0) (hrs : rm.slots = 0)
    (hd : y.cls = R_M ∧ y.cls ≠ "java/lang/invoke/MethodHandle" ∧ y.cls ≠ "java/lang/invoke/VarHandle" ∧ (parseMethodDescriptor y.desc).map (fun d => d.parameters.length) = some As.length) (hR : rm.frames + 1 ≤ R.frames ∧ 8 + (n + 11) + rm.locals ≤ R.locals) (hsz : ls.size = nL) (hr8 : (rest.map fun v => v.category).sum ≤ 8) (hdg : decode cc pc = .ok (.invokestatic idx, 3))
    {st : List Value} (hst0 : st = As.reverse ++ rest) (hf : cells + 0 ≤ R.cells ∧ slots + 0 ≤ R.slots)
    (kk : ∀ (H1 : Heap) (locs1 : List Loc), va_P D cl (wM cB cI cJ cZ cS iM h0 ad x.1) H1 → va_D A (wM cB cI cJ cZ cS iM h0 ad x.1) → va_S A s.heap H1 locs1 → W p l e R s m args below meth c H1 locs1 cells slots Q (F0 m (pc + 3) ls (rest))) :
    W p l e R s m args below meth c H locs cells slots Q (F0 m pc ls st) := by
  obtain ⟨hx, hb, hr, hml, ht, hown, hM, hK, hA, hlocks⟩ := C0
  subst hst0
  have hFc : ∀ q, mA cB cI cJ cZ cS iM h0 ad u H.size q → A q := fun q h => by
    rcases h with ⟨k, e1, h⟩ | h
    · exact hD.2 k _ h
    · exact hA q (Nat.le_trans hS.1 h)
  have hG : GoodIn wd_tbl (wsS R_M idx y (wd_ws y b n rt)) := fun w h => by
    rcases List.mem_append.mp h with h | h
    · have hm : w ∈ wd_tbl := by
        simp only [List.mem_cons, List.not_mem_nil, or_false] at h
        rcases h with rfl | rfl | rfl
        · exact hl
        · exact hst
        · exact hini
      exact ⟨hm, wd_gd hm⟩
    · exact wd_in (fun _ z => z) hk w h
  refine va_callv (va_runS (As := As) (rest := rest) ⟨hx, hb, hml, hown, ht⟩ hC (cwS As.length ht hG rfl hrc hrs hd hR) ⟨fun a U g mk q => by obtain ⟨q0, q1, qP, qK, qD⟩ := q; exact ⟨q0, q1, qP, va_K.moved (u := U) (U := U.calling g mk a) (Vm.Alike.refl U.vm) qK, qD⟩, fun U hU hW => ⟨rfl, by rw [hU], by rw [hU]; exact hP, va_K.moved hW.alike hK, hD.weaken (fun _ _ _ _ => trivial)⟩⟩ rfl rfl hsz rfl (by simpa using hr8) hdg hf) hS (fun q _ h => hFc q h) hFc (fun v t H1 locs1 h1 hvm hw hB hz hk hS1 => ?_)
  obtain ⟨hP1, hK1, hD1⟩ := hB
  rw [h1] at hP1
  subst hw
  exact kk H1 locs1 hP1 (wM_D hD) hS1
end MCALL
end
section
theorem tiN {x k : Int32} (h : ¬ x = k) : x.toInt ≠ k.toInt := fun z => h (Int32.toInt_inj.mp z)
abbrev b_M_thrown : ByteArray := prog_14_method_2_code
def y_M_thrown : MethodName := ⟨R_M, "thrown", "()I"⟩
def w_M_thrown : List Cond := wd_ws y_M_thrown b_M_thrown 1 (some .int)
set_option maxRecDepth 100000 in
theorem k_M_thrown : Cond.code y_M_thrown b_M_thrown 1 (some .int) ∈ wd_tbl := wd_of 2623 rfl rfl
theorem d_M_thrown_0 : decode b_M_thrown 0 = .ok (.aload_n 0, 1) := by decide +kernel
theorem d_M_thrown_1 : decode b_M_thrown 1 = .ok (.getfield 369, 3) := by decide +kernel
theorem d_M_thrown_4 : decode b_M_thrown 4 = .ok (.ireturn, 1) := by decide +kernel
def rm_M_thrown : Room := { frames := 0, cells := 0, slots := 0, locals := 0 }
def fb_M_thrown_0 (N : Nat) (G : Unit) (u : MS) : Option (MS × Int32) := some (u, (u.1 3))
set_option maxRecDepth 100000 in
set_option maxHeartbeats 4000000 in
theorem wb_M_thrown_0 {p : Program} {l : Launch} {e : Env} {R : Room} {s : State} {m : MethodId} {args : Array Value} {below : List Frame} {meth : Method} {c : Code} {D : va_G} {cl : List vw_C} {cB cI cJ cZ cS : ClassId} {A : Nat → Prop} {iM h0 : Nat} {ad : Nat → Nat} (C0 : MCx p s m args meth c b_M_thrown 1 (some .int) D cl cB cI cJ cZ cS iM A) (hR : R = rm_M_thrown) (N : Nat) (G : Unit) (hG : True) : ∀ (u : MS) (x : MS × Int32), fb_M_thrown_0 N G u = some x → ∀ (H : Heap) (locs : List Loc), va_P D cl (wM cB cI cJ cZ cS iM h0 ad u) H → va_D A (wM cB cI cJ cZ cS iM h0 ad u) → va_S A s.heap H locs → ∀ (ls : Array Slot), lv_has ls 1 [(0, .ref h0)] → W p l e R s m args below meth c H locs 0 0 (MQ below (mQi D cl cB cI cJ cZ cS iM h0 ad A x) args s 0 0 A) (F0 m 0 ls []) := by
  intro u x hf H locs hP hD hS ls hl
  obtain ⟨hx, hb, hr, hml, ht, hown, hM, hK, hA, hlocks⟩ := id C0
  unfold fb_M_thrown_0 at hf
  refine lv_aload_n hx hb d_M_thrown_0 rfl (lv_at hl 0 rfl) ?_
  refine ug_I hx hb ht hown hM hK hP 3 (by decide) lk_M_3 (by decide) d_M_thrown_1 ?_
  exact mr_i C0 hP hD hS hf d_M_thrown_4
def fm_M_thrown (N : Nat) (u : MS) : Option (MS × Int32) := fb_M_thrown_0 N () u
set_option maxRecDepth 100000 in
set_option maxHeartbeats 4000000 in
theorem c_M_thrown (N : Nat) {l : Launch} {D : va_G} {cl : List vw_C} {cB cI cJ cZ cS : ClassId} {iM h0 : Nat} {ad : Nat → Nat} {u : MS} {sz : Nat} {x : MS × Int32} (hM : cl[iM]? = some (R_M, F_M, 171)) (hf : fm_M_thrown N u = some x) : Met l y_M_thrown (wd_ws y_M_thrown b_M_thrown 1 (some .int)) rm_M_thrown (mPc D cl cB cI cJ cZ cS iM h0 ad u sz [.ref h0]) (mQi D cl cB cI cJ cZ cS iM h0 ad (mA cB cI cJ cZ cS iM h0 ad u sz) x) 0 0 (mA cB cI cJ cZ cS iM h0 ad u sz) :=
  mMet (by decide) rfl hM (Nat.le_of_ble_eq_true rfl) (fun p e s m below meth c ls hsz C0 hP hD hS hl => by
    have hR : rm_M_thrown = rm_M_thrown := rfl
    exact wb_M_thrown_0 C0 hR N () trivial u x hf s.heap [] hP hD hS ls (lv_sub hl [0] rfl))
abbrev b_M_back : ByteArray := prog_14_method_4_code
def y_M_back : MethodName := ⟨R_M, "back", "(I)I"⟩
def w_M_back : List Cond := wd_ws y_M_back b_M_back 2 (some .int)
set_option maxRecDepth 100000 in
theorem k_M_back : Cond.code y_M_back b_M_back 2 (some .int) ∈ wd_tbl := wd_of 2631 rfl rfl
theorem d_M_back_0 : decode b_M_back 0 = .ok (.aload_n 0, 1) := by decide +kernel
theorem d_M_back_1 : decode b_M_back 1 = .ok (.iconst 0, 1) := by decide +kernel
theorem d_M_back_2 : decode b_M_back 2 = .ok (.putfield 369, 3) := by decide +kernel
theorem d_M_back_5 : decode b_M_back 5 = .ok (.iload_n 1, 1) := by decide +kernel
theorem d_M_back_6 : decode b_M_back 6 = .ok (.ifCond .lt 11, 3) := by decide +kernel
theorem d_M_back_9 : decode b_M_back 9 = .ok (.iload_n 1, 1) := by decide +kernel
theorem d_M_back_10 : decode b_M_back 10 = .ok (.aload_n 0, 1) := by decide +kernel
theorem d_M_back_11 : decode b_M_back 11 = .ok (.getfield 372, 3) := by decide +kernel
theorem d_M_back_14 : decode b_M_back 14 = .ok (.if_icmp .le 5, 3) := by decide +kernel
theorem d_M_back_17 : decode b_M_back 17 = .ok (.iconst (-1), 1) := by decide +kernel
theorem d_M_back_18 : decode b_M_back 18 = .ok (.ireturn, 1) := by decide +kernel
theorem d_M_back_19 : decode b_M_back 19 = .ok (.aload_n 0, 1) := by decide +kernel
theorem d_M_back_20 : decode b_M_back 20 = .ok (.dup, 1) := by decide +kernel
theorem d_M_back_21 : decode b_M_back 21 = .ok (.getfield 372, 3) := by decide +kernel
theorem d_M_back_24 : decode b_M_back 24 = .ok (.iload_n 1, 1) := by decide +kernel
theorem d_M_back_25 : decode b_M_back 25 = .ok (.isub, 1) := by decide +kernel
theorem d_M_back_26 : decode b_M_back 26 = .ok (.putfield 372, 3) := by decide +kernel
theorem d_M_back_29 : decode b_M_back 29 = .ok (.aload_n 0, 1) := by decide +kernel
theorem d_M_back_30 : decode b_M_back 30 = .ok (.getfield 372, 3) := by decide +kernel
theorem d_M_back_33 : decode b_M_back 33 = .ok (.ireturn, 1) := by decide +kernel
def rm_M_back : Room := { frames := 0, cells := 0, slots := 0, locals := 0 }
def fb_M_back_17 (N : Nat) (G : Unit) (u : MS) : Option (MS × Int32) := some (u, (-1))
set_option maxRecDepth 100000 in
set_option maxHeartbeats 4000000 in
theorem wb_M_back_17 {p : Program} {l : Launch} {e : Env} {R : Room} {s : State} {m : MethodId} {args : Array Value} {below : List Frame} {meth : Method} {c : Code} {D : va_G} {cl : List vw_C} {cB cI cJ cZ cS : ClassId} {A : Nat → Prop} {iM h0 : Nat} {ad : Nat → Nat} (C0 : MCx p s m args meth c b_M_back 2 (some .int) D cl cB cI cJ cZ cS iM A) (hR : R = rm_M_back) (N : Nat) (G : Unit) (hG : True) : ∀ (u : MS) (x : MS × Int32), fb_M_back_17 N G u = some x → ∀ (H : Heap) (locs : List Loc), va_P D cl (wM cB cI cJ cZ cS iM h0 ad u) H → va_D A (wM cB cI cJ cZ cS iM h0 ad u) → va_S A s.heap H locs → ∀ (ls : Array Slot), lv_has ls 2 [] → W p l e R s m args below meth c H locs 0 0 (MQ below (mQi D cl cB cI cJ cZ cS iM h0 ad A x) args s 0 0 A) (F0 m 17 ls []) := by
  intro u x hf H locs hP hD hS ls hl
  obtain ⟨hx, hb, hr, hml, ht, hown, hM, hK, hA, hlocks⟩ := id C0
  unfold fb_M_back_17 at hf
  refine lv_iconst (v := (-1)) hx hb d_M_back_17 (by decide) ?_
  exact mr_i C0 hP hD hS hf d_M_back_18
def fb_M_back_0 (N : Nat) (G : Unit) (u : MS) (v1 : Int32) : Option (MS × Int32) := br (decide (v1 < 0)) (fb_M_back_17 N G (upI u 3 0)) (br (decide (v1 ≤ ((upI u 3 0).1 5))) (some ((upI (upI u 3 0) 5 (((upI u 3 0).1 5) - v1)), ((upI (upI u 3 0) 5 (((upI u 3 0).1 5) - v1)).1 5))) (fb_M_back_17 N G (upI u 3 0)))
set_option maxRecDepth 100000 in
set_option maxHeartbeats 4000000 in
theorem wb_M_back_0 {p : Program} {l : Launch} {e : Env} {R : Room} {s : State} {m : MethodId} {args : Array Value} {below : List Frame} {meth : Method} {c : Code} {D : va_G} {cl : List vw_C} {cB cI cJ cZ cS : ClassId} {A : Nat → Prop} {iM h0 : Nat} {ad : Nat → Nat} (C0 : MCx p s m args meth c b_M_back 2 (some .int) D cl cB cI cJ cZ cS iM A) (hR : R = rm_M_back) (N : Nat) (G : Unit) (hG : True) : ∀ (u : MS) (v1 : Int32) (x : MS × Int32), fb_M_back_0 N G u v1 = some x → ∀ (H : Heap) (locs : List Loc), va_P D cl (wM cB cI cJ cZ cS iM h0 ad u) H → va_D A (wM cB cI cJ cZ cS iM h0 ad u) → va_S A s.heap H locs → ∀ (ls : Array Slot), lv_has ls 2 [(0, .ref h0), (1, .int v1)] → W p l e R s m args below meth c H locs 0 0 (MQ below (mQi D cl cB cI cJ cZ cS iM h0 ad A x) args s 0 0 A) (F0 m 0 ls []) := by
  intro u v1 x hf H locs hP hD hS ls hl
  obtain ⟨hx, hb, hr, hml, ht, hown, hM, hK, hA, hlocks⟩ := id C0
  unfold fb_M_back_0 at hf
  refine lv_aload_n hx hb d_M_back_0 rfl (lv_at hl 0 rfl) ?_
  refine lv_iconst (v := 0) hx hb d_M_back_1 (by decide) ?_
  refine up_I hx hb ht hown hM hK hP hD hS 3 (by decide) lk_M_3 (by decide) rfl rfl rfl d_M_back_2 (fun H locs hP hD hS => ?_)
  refine lv_iload_n hx hb d_M_back_5 rfl (lv_at hl 1 rfl) ?_
  refine lv_if_lt (tgt := 17) hx hb d_M_back_6 (by decide) (fun hc => ?_) (fun hc => ?_)
  · rw [br_p _ hc] at hf
    exact wb_M_back_17 C0 hR N G hG _ _ hf H locs hP hD hS ls (lv_sub hl [] rfl)
  · rw [br_n _ hc] at hf
    refine lv_iload_n hx hb d_M_back_9 rfl (lv_at hl 1 rfl) ?_
    refine lv_aload_n hx hb d_M_back_10 rfl (lv_at hl 0 rfl) ?_
    refine ug_I hx hb ht hown hM hK hP 5 (by decide) lk_M_5 (by decide) d_M_back_11 ?_
    refine lv_icmp_le (tgt := 19) hx hb d_M_back_14 (by decide) (fun hc => ?_) (fun hc => ?_)
    · rw [br_p _ hc] at hf
      refine lv_aload_n hx hb d_M_back_19 rfl (lv_at hl 0 rfl) ?_
      refine lv_dup hx hb d_M_back_20 rfl ?_
      refine ug_I hx hb ht hown hM hK hP 5 (by decide) lk_M_5 (by decide) d_M_back_21 ?_
      refine lv_iload_n hx hb d_M_back_24 rfl (lv_at hl 1 rfl) ?_
      refine lv_isub hx hb d_M_back_25 ?_
      refine up_I hx hb ht hown hM hK hP hD hS 5 (by decide) lk_M_5 (by decide) rfl rfl rfl d_M_back_26 (fun H locs hP hD hS => ?_)
      refine lv_aload_n hx hb d_M_back_29 rfl (lv_at hl 0 rfl) ?_
      refine ug_I hx hb ht hown hM hK hP 5 (by decide) lk_M_5 (by decide) d_M_back_30 ?_
      exact mr_i C0 hP hD hS hf d_M_back_33
    · rw [br_n _ hc] at hf
      exact wb_M_back_17 C0 hR N G hG _ _ hf H locs hP hD hS ls (lv_sub hl [] rfl)
def fm_M_back (N : Nat) (u : MS) (v1 : Int32) : Option (MS × Int32) := fb_M_back_0 N () u v1
set_option maxRecDepth 100000 in
set_option maxHeartbeats 4000000 in
theorem c_M_back (N : Nat) {l : Launch} {D : va_G} {cl : List vw_C} {cB cI cJ cZ cS : ClassId} {iM h0 : Nat} {ad : Nat → Nat} {u : MS} {sz : Nat} {v1 : Int32} {x : MS × Int32} (hM : cl[iM]? = some (R_M, F_M, 171)) (hf : fm_M_back N u v1 = some x) : Met l y_M_back (wd_ws y_M_back b_M_back 2 (some .int)) rm_M_back (mPc D cl cB cI cJ cZ cS iM h0 ad u sz [.ref h0, .int v1]) (mQi D cl cB cI cJ cZ cS iM h0 ad (mA cB cI cJ cZ cS iM h0 ad u sz) x) 0 0 (mA cB cI cJ cZ cS iM h0 ad u sz) :=
  mMet (by decide) rfl hM (Nat.le_of_ble_eq_true rfl) (fun p e s m below meth c ls hsz C0 hP hD hS hl => by
    have hR : rm_M_back = rm_M_back := rfl
    exact wb_M_back_0 C0 hR N () trivial u _ x hf s.heap [] hP hD hS ls (lv_sub hl [0, 1] rfl))
abbrev b_M_isProcess : ByteArray := prog_14_method_161_code
def y_M_isProcess : MethodName := ⟨R_M, "isProcess", "(I)Z"⟩
def w_M_isProcess : List Cond := wd_ws y_M_isProcess b_M_isProcess 2 (some .boolean)
set_option maxRecDepth 100000 in
theorem k_M_isProcess : Cond.code y_M_isProcess b_M_isProcess 2 (some .boolean) ∈ wd_tbl := wd_of 2905 rfl rfl
theorem d_M_isProcess_0 : decode b_M_isProcess 0 = .ok (.aload_n 0, 1) := by decide +kernel
theorem d_M_isProcess_1 : decode b_M_isProcess 1 = .ok (.getfield 657, 3) := by decide +kernel
theorem d_M_isProcess_4 : decode b_M_isProcess 4 = .ok (.ifCond .eq 19, 3) := by decide +kernel
theorem d_M_isProcess_7 : decode b_M_isProcess 7 = .ok (.iload_n 1, 1) := by decide +kernel
theorem d_M_isProcess_8 : decode b_M_isProcess 8 = .ok (.ifCond .lt 15, 3) := by decide +kernel
theorem d_M_isProcess_11 : decode b_M_isProcess 11 = .ok (.iload_n 1, 1) := by decide +kernel
theorem d_M_isProcess_12 : decode b_M_isProcess 12 = .ok (.aload_n 0, 1) := by decide +kernel
theorem d_M_isProcess_13 : decode b_M_isProcess 13 = .ok (.getfield 989, 3) := by decide +kernel
theorem d_M_isProcess_16 : decode b_M_isProcess 16 = .ok (.if_icmp .ge 7, 3) := by decide +kernel
theorem d_M_isProcess_19 : decode b_M_isProcess 19 = .ok (.iconst 1, 1) := by decide +kernel
theorem d_M_isProcess_20 : decode b_M_isProcess 20 = .ok (.goto 4, 3) := by decide +kernel
theorem d_M_isProcess_23 : decode b_M_isProcess 23 = .ok (.iconst 0, 1) := by decide +kernel
theorem d_M_isProcess_24 : decode b_M_isProcess 24 = .ok (.ireturn, 1) := by decide +kernel
def rm_M_isProcess : Room := { frames := 0, cells := 0, slots := 0, locals := 0 }
def fb_M_isProcess_24 (N : Nat) (G : Unit) (u : MS) (t0 : Int32) : Option (MS × Int32) := ck (isb t0) (some (u, t0))
set_option maxRecDepth 100000 in
set_option maxHeartbeats 4000000 in
theorem wb_M_isProcess_24 {p : Program} {l : Launch} {e : Env} {R : Room} {s : State} {m : MethodId} {args : Array Value} {below : List Frame} {meth : Method} {c : Code} {D : va_G} {cl : List vw_C} {cB cI cJ cZ cS : ClassId} {A : Nat → Prop} {iM h0 : Nat} {ad : Nat → Nat} (C0 : MCx p s m args meth c b_M_isProcess 2 (some .boolean) D cl cB cI cJ cZ cS iM A) (hR : R = rm_M_isProcess) (N : Nat) (G : Unit) (hG : True) : ∀ (u : MS) (t0 : Int32) (x : MS × Int32), fb_M_isProcess_24 N G u t0 = some x → ∀ (H : Heap) (locs : List Loc), va_P D cl (wM cB cI cJ cZ cS iM h0 ad u) H → va_D A (wM cB cI cJ cZ cS iM h0 ad u) → va_S A s.heap H locs → ∀ (ls : Array Slot), lv_has ls 2 [] → W p l e R s m args below meth c H locs 0 0 (MQ below (mQi D cl cB cI cJ cZ cS iM h0 ad A x) args s 0 0 A) (F0 m 24 ls [.int t0]) := by
  intro u t0 x hf H locs hP hD hS ls hl
  obtain ⟨hx, hb, hr, hml, ht, hown, hM, hK, hA, hlocks⟩ := id C0
  unfold fb_M_isProcess_24 at hf
  obtain ⟨hz, hf⟩ := ck_some hf
  exact mr_z C0 hP hD hS hz hf d_M_isProcess_24
def fb_M_isProcess_23 (N : Nat) (G : Unit) (u : MS) : Option (MS × Int32) := fb_M_isProcess_24 N G u (0)
set_option maxRecDepth 100000 in
set_option maxHeartbeats 4000000 in
theorem wb_M_isProcess_23 {p : Program} {l : Launch} {e : Env} {R : Room} {s : State} {m : MethodId} {args : Array Value} {below : List Frame} {meth : Method} {c : Code} {D : va_G} {cl : List vw_C} {cB cI cJ cZ cS : ClassId} {A : Nat → Prop} {iM h0 : Nat} {ad : Nat → Nat} (C0 : MCx p s m args meth c b_M_isProcess 2 (some .boolean) D cl cB cI cJ cZ cS iM A) (hR : R = rm_M_isProcess) (N : Nat) (G : Unit) (hG : True) : ∀ (u : MS) (x : MS × Int32), fb_M_isProcess_23 N G u = some x → ∀ (H : Heap) (locs : List Loc), va_P D cl (wM cB cI cJ cZ cS iM h0 ad u) H → va_D A (wM cB cI cJ cZ cS iM h0 ad u) → va_S A s.heap H locs → ∀ (ls : Array Slot), lv_has ls 2 [] → W p l e R s m args below meth c H locs 0 0 (MQ below (mQi D cl cB cI cJ cZ cS iM h0 ad A x) args s 0 0 A) (F0 m 23 ls []) := by
  intro u x hf H locs hP hD hS ls hl
  obtain ⟨hx, hb, hr, hml, ht, hown, hM, hK, hA, hlocks⟩ := id C0
  unfold fb_M_isProcess_23 at hf
  refine lv_iconst (v := 0) hx hb d_M_isProcess_23 (by decide) ?_
  exact wb_M_isProcess_24 C0 hR N G hG _ _ _ hf H locs hP hD hS ls (lv_sub hl [] rfl)
def fb_M_isProcess_0 (N : Nat) (G : Unit) (u : MS) (v1 : Int32) : Option (MS × Int32) := br (decide ((u.1 87) = 0)) (fb_M_isProcess_23 N G u) (br (decide (v1 < 0)) (fb_M_isProcess_23 N G u) (br (decide ((u.1 118) ≤ v1)) (fb_M_isProcess_23 N G u) (fb_M_isProcess_24 N G u (1))))
set_option maxRecDepth 100000 in
set_option maxHeartbeats 4000000 in
theorem wb_M_isProcess_0 {p : Program} {l : Launch} {e : Env} {R : Room} {s : State} {m : MethodId} {args : Array Value} {below : List Frame} {meth : Method} {c : Code} {D : va_G} {cl : List vw_C} {cB cI cJ cZ cS : ClassId} {A : Nat → Prop} {iM h0 : Nat} {ad : Nat → Nat} (C0 : MCx p s m args meth c b_M_isProcess 2 (some .boolean) D cl cB cI cJ cZ cS iM A) (hR : R = rm_M_isProcess) (N : Nat) (G : Unit) (hG : True) : ∀ (u : MS) (v1 : Int32) (x : MS × Int32), fb_M_isProcess_0 N G u v1 = some x → ∀ (H : Heap) (locs : List Loc), va_P D cl (wM cB cI cJ cZ cS iM h0 ad u) H → va_D A (wM cB cI cJ cZ cS iM h0 ad u) → va_S A s.heap H locs → ∀ (ls : Array Slot), lv_has ls 2 [(0, .ref h0), (1, .int v1)] → W p l e R s m args below meth c H locs 0 0 (MQ below (mQi D cl cB cI cJ cZ cS iM h0 ad A x) args s 0 0 A) (F0 m 0 ls []) := by
  intro u v1 x hf H locs hP hD hS ls hl
  obtain ⟨hx, hb, hr, hml, ht, hown, hM, hK, hA, hlocks⟩ := id C0
  unfold fb_M_isProcess_0 at hf
  refine lv_aload_n hx hb d_M_isProcess_0 rfl (lv_at hl 0 rfl) ?_
  refine ug_I hx hb ht hown hM hK hP 87 (by decide) lk_M_87 (by decide) d_M_isProcess_1 ?_
  refine lv_if_eq (tgt := 23) hx hb d_M_isProcess_4 (by decide) (fun hc => ?_) (fun hc => ?_)
  · rw [br_p _ hc] at hf
    exact wb_M_isProcess_23 C0 hR N G hG _ _ hf H locs hP hD hS ls (lv_sub hl [] rfl)
  · rw [br_n _ hc] at hf
    refine lv_iload_n hx hb d_M_isProcess_7 rfl (lv_at hl 1 rfl) ?_
    refine lv_if_lt (tgt := 23) hx hb d_M_isProcess_8 (by decide) (fun hc => ?_) (fun hc => ?_)
    · rw [br_p _ hc] at hf
      exact wb_M_isProcess_23 C0 hR N G hG _ _ hf H locs hP hD hS ls (lv_sub hl [] rfl)
    · rw [br_n _ hc] at hf
      refine lv_iload_n hx hb d_M_isProcess_11 rfl (lv_at hl 1 rfl) ?_
      refine lv_aload_n hx hb d_M_isProcess_12 rfl (lv_at hl 0 rfl) ?_
      refine ug_I hx hb ht hown hM hK hP 118 (by decide) lk_M_118 (by decide) d_M_isProcess_13 ?_
      refine lv_icmp_ge (tgt := 23) hx hb d_M_isProcess_16 (by decide) (fun hc => ?_) (fun hc => ?_)
      · rw [br_p _ hc] at hf
        exact wb_M_isProcess_23 C0 hR N G hG _ _ hf H locs hP hD hS ls (lv_sub hl [] rfl)
      · rw [br_n _ hc] at hf
        refine lv_iconst (v := 1) hx hb d_M_isProcess_19 (by decide) ?_
        refine lv_goto (tgt := 24) hx hb d_M_isProcess_20 (by decide) ?_
        exact wb_M_isProcess_24 C0 hR N G hG _ _ _ hf H locs hP hD hS ls (lv_sub hl [] rfl)
def fm_M_isProcess (N : Nat) (u : MS) (v1 : Int32) : Option (MS × Int32) := fb_M_isProcess_0 N () u v1
set_option maxRecDepth 100000 in
set_option maxHeartbeats 4000000 in
theorem c_M_isProcess (N : Nat) {l : Launch} {D : va_G} {cl : List vw_C} {cB cI cJ cZ cS : ClassId} {iM h0 : Nat} {ad : Nat → Nat} {u : MS} {sz : Nat} {v1 : Int32} {x : MS × Int32} (hM : cl[iM]? = some (R_M, F_M, 171)) (hf : fm_M_isProcess N u v1 = some x) : Met l y_M_isProcess (wd_ws y_M_isProcess b_M_isProcess 2 (some .boolean)) rm_M_isProcess (mPc D cl cB cI cJ cZ cS iM h0 ad u sz [.ref h0, .int v1]) (mQi D cl cB cI cJ cZ cS iM h0 ad (mA cB cI cJ cZ cS iM h0 ad u sz) x) 0 0 (mA cB cI cJ cZ cS iM h0 ad u sz) :=
  mMet (by decide) rfl hM (Nat.le_of_ble_eq_true rfl) (fun p e s m below meth c ls hsz C0 hP hD hS hl => by
    have hR : rm_M_isProcess = rm_M_isProcess := rfl
    exact wb_M_isProcess_0 C0 hR N () trivial u _ x hf s.heap [] hP hD hS ls (lv_sub hl [0, 1] rfl))
end
