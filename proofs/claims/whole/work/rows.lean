section
-- ===== PART A: goes FIRST, ahead of the names: the tables' words, and 'selects' of the private methods out of them =====
/-- a private method of a class that the tables say can be made, by its rows of tables_1 -/
def lw_okq (q : MethodName × Nat) : Prop := (q.1.cls ≠ "java/lang/invoke/MethodHandle" ∧ q.1.cls ≠ "java/lang/invoke/VarHandle") ∧ Cond.instantiable q.1.cls q.2 ∈ tables_1 ∧ Cond.privateMethod q.1 ∈ tables_1 ∧ Cond.instanceMethod q.1 ∈ tables_1
theorem lw_p0 : lw_okq (⟨"SharedSyntax$Tokens", "behindBlanks", "(I)I"⟩, 6) := ⟨⟨by decide +kernel, by decide +kernel⟩, List.mem_of_getElem? (i := 88) (by decide +kernel), List.mem_of_getElem? (i := 158) (by decide +kernel), List.mem_of_getElem? (i := 159) (by decide +kernel)⟩
theorem lw_p1 : lw_okq (⟨"SharedSyntax$Tokens", "behindOwn", "(I)I"⟩, 6) := ⟨⟨by decide +kernel, by decide +kernel⟩, List.mem_of_getElem? (i := 88) (by decide +kernel), List.mem_of_getElem? (i := 166) (by decide +kernel), List.mem_of_getElem? (i := 167) (by decide +kernel)⟩
theorem lw_p2 : lw_okq (⟨"SharedSyntax$Tokens", "kindOf", "(II)I"⟩, 6) := ⟨⟨by decide +kernel, by decide +kernel⟩, List.mem_of_getElem? (i := 88) (by decide +kernel), List.mem_of_getElem? (i := 176) (by decide +kernel), List.mem_of_getElem? (i := 177) (by decide +kernel)⟩
theorem lw_p3 : lw_okq (⟨"SharedSyntax$Tokens", "wordKind", "(II)I"⟩, 6) := ⟨⟨by decide +kernel, by decide +kernel⟩, List.mem_of_getElem? (i := 88) (by decide +kernel), List.mem_of_getElem? (i := 180) (by decide +kernel), List.mem_of_getElem? (i := 181) (by decide +kernel)⟩
theorem lw_p4 : lw_okq (⟨"SharedSyntax$Tokens", "spells", "(IILjava/lang/String;)Z"⟩, 6) := ⟨⟨by decide +kernel, by decide +kernel⟩, List.mem_of_getElem? (i := 88) (by decide +kernel), List.mem_of_getElem? (i := 185) (by decide +kernel), List.mem_of_getElem? (i := 186) (by decide +kernel)⟩
theorem lw_p5 : lw_okq (⟨"SharedSyntax$Reading", "begin", "(I)I"⟩, 10) := ⟨⟨by decide +kernel, by decide +kernel⟩, List.mem_of_getElem? (i := 24) (by decide +kernel), List.mem_of_getElem? (i := 302) (by decide +kernel), List.mem_of_getElem? (i := 303) (by decide +kernel)⟩
theorem lw_p6 : lw_okq (⟨"SharedSyntax$Reading", "list", "(I)V"⟩, 10) := ⟨⟨by decide +kernel, by decide +kernel⟩, List.mem_of_getElem? (i := 24) (by decide +kernel), List.mem_of_getElem? (i := 310) (by decide +kernel), List.mem_of_getElem? (i := 311) (by decide +kernel)⟩
theorem lw_p7 : lw_okq (⟨"SharedSyntax$Reading", "listEnds", "(I)Z"⟩, 10) := ⟨⟨by decide +kernel, by decide +kernel⟩, List.mem_of_getElem? (i := 24) (by decide +kernel), List.mem_of_getElem? (i := 314) (by decide +kernel), List.mem_of_getElem? (i := 315) (by decide +kernel)⟩
theorem lw_p8 : lw_okq (⟨"SharedSyntax$Reading", "statementFollows", "(I)Z"⟩, 10) := ⟨⟨by decide +kernel, by decide +kernel⟩, List.mem_of_getElem? (i := 24) (by decide +kernel), List.mem_of_getElem? (i := 322) (by decide +kernel), List.mem_of_getElem? (i := 323) (by decide +kernel)⟩
theorem lw_p9 : lw_okq (⟨"SharedSyntax$Reading", "statement", "(I)V"⟩, 10) := ⟨⟨by decide +kernel, by decide +kernel⟩, List.mem_of_getElem? (i := 24) (by decide +kernel), List.mem_of_getElem? (i := 329) (by decide +kernel), List.mem_of_getElem? (i := 330) (by decide +kernel)⟩
theorem lw_p10 : lw_okq (⟨"SharedSyntax$Reading", "emptyStatement", "()V"⟩, 10) := ⟨⟨by decide +kernel, by decide +kernel⟩, List.mem_of_getElem? (i := 24) (by decide +kernel), List.mem_of_getElem? (i := 333) (by decide +kernel), List.mem_of_getElem? (i := 334) (by decide +kernel)⟩
theorem lw_p11 : lw_okq (⟨"SharedSyntax$Reading", "take", "()V"⟩, 10) := ⟨⟨by decide +kernel, by decide +kernel⟩, List.mem_of_getElem? (i := 24) (by decide +kernel), List.mem_of_getElem? (i := 337) (by decide +kernel), List.mem_of_getElem? (i := 338) (by decide +kernel)⟩
theorem lw_p12 : lw_okq (⟨"SharedSyntax$Reading", "block", "(I)V"⟩, 10) := ⟨⟨by decide +kernel, by decide +kernel⟩, List.mem_of_getElem? (i := 24) (by decide +kernel), List.mem_of_getElem? (i := 365) (by decide +kernel), List.mem_of_getElem? (i := 366) (by decide +kernel)⟩
theorem lw_p13 : lw_okq (⟨"SharedSyntax$Reading", "expect", "(I)V"⟩, 10) := ⟨⟨by decide +kernel, by decide +kernel⟩, List.mem_of_getElem? (i := 24) (by decide +kernel), List.mem_of_getElem? (i := 369) (by decide +kernel), List.mem_of_getElem? (i := 370) (by decide +kernel)⟩
theorem lw_p14 : lw_okq (⟨"SharedSyntax$Reading", "miss", "(II)V"⟩, 10) := ⟨⟨by decide +kernel, by decide +kernel⟩, List.mem_of_getElem? (i := 24) (by decide +kernel), List.mem_of_getElem? (i := 373) (by decide +kernel), List.mem_of_getElem? (i := 374) (by decide +kernel)⟩
theorem lw_p15 : lw_okq (⟨"SharedSyntax$Reading", "ifStatement", "(I)V"⟩, 10) := ⟨⟨by decide +kernel, by decide +kernel⟩, List.mem_of_getElem? (i := 24) (by decide +kernel), List.mem_of_getElem? (i := 377) (by decide +kernel), List.mem_of_getElem? (i := 378) (by decide +kernel)⟩
def lw_privs_1 : List (MethodName × Nat) := [(⟨"SharedSyntax$Tokens", "behindBlanks", "(I)I"⟩, 6), (⟨"SharedSyntax$Tokens", "behindOwn", "(I)I"⟩, 6), (⟨"SharedSyntax$Tokens", "kindOf", "(II)I"⟩, 6), (⟨"SharedSyntax$Tokens", "wordKind", "(II)I"⟩, 6), (⟨"SharedSyntax$Tokens", "spells", "(IILjava/lang/String;)Z"⟩, 6), (⟨"SharedSyntax$Reading", "begin", "(I)I"⟩, 10), (⟨"SharedSyntax$Reading", "list", "(I)V"⟩, 10), (⟨"SharedSyntax$Reading", "listEnds", "(I)Z"⟩, 10), (⟨"SharedSyntax$Reading", "statementFollows", "(I)Z"⟩, 10), (⟨"SharedSyntax$Reading", "statement", "(I)V"⟩, 10), (⟨"SharedSyntax$Reading", "emptyStatement", "()V"⟩, 10), (⟨"SharedSyntax$Reading", "take", "()V"⟩, 10), (⟨"SharedSyntax$Reading", "block", "(I)V"⟩, 10), (⟨"SharedSyntax$Reading", "expect", "(I)V"⟩, 10), (⟨"SharedSyntax$Reading", "miss", "(II)V"⟩, 10), (⟨"SharedSyntax$Reading", "ifStatement", "(I)V"⟩, 10)]
theorem lw_r1 : ∀ q ∈ lw_privs_1, lw_okq q := List.forall_mem_cons.mpr ⟨lw_p0, List.forall_mem_cons.mpr ⟨lw_p1, List.forall_mem_cons.mpr ⟨lw_p2, List.forall_mem_cons.mpr ⟨lw_p3, List.forall_mem_cons.mpr ⟨lw_p4, List.forall_mem_cons.mpr ⟨lw_p5, List.forall_mem_cons.mpr ⟨lw_p6, List.forall_mem_cons.mpr ⟨lw_p7, List.forall_mem_cons.mpr ⟨lw_p8, List.forall_mem_cons.mpr ⟨lw_p9, List.forall_mem_cons.mpr ⟨lw_p10, List.forall_mem_cons.mpr ⟨lw_p11, List.forall_mem_cons.mpr ⟨lw_p12, List.forall_mem_cons.mpr ⟨lw_p13, List.forall_mem_cons.mpr ⟨lw_p14, List.forall_mem_cons.mpr ⟨lw_p15, fun _ h => absurd h List.not_mem_nil⟩⟩⟩⟩⟩⟩⟩⟩⟩⟩⟩⟩⟩⟩⟩⟩
theorem lw_p16 : lw_okq (⟨"SharedSyntax$Reading", "condition", "()V"⟩, 10) := ⟨⟨by decide +kernel, by decide +kernel⟩, List.mem_of_getElem? (i := 24) (by decide +kernel), List.mem_of_getElem? (i := 381) (by decide +kernel), List.mem_of_getElem? (i := 382) (by decide +kernel)⟩
theorem lw_p17 : lw_okq (⟨"SharedSyntax$Reading", "expression", "(I)V"⟩, 10) := ⟨⟨by decide +kernel, by decide +kernel⟩, List.mem_of_getElem? (i := 24) (by decide +kernel), List.mem_of_getElem? (i := 385) (by decide +kernel), List.mem_of_getElem? (i := 386) (by decide +kernel)⟩
theorem lw_p18 : lw_okq (⟨"SharedSyntax$Reading", "operand", "(I)V"⟩, 10) := ⟨⟨by decide +kernel, by decide +kernel⟩, List.mem_of_getElem? (i := 24) (by decide +kernel), List.mem_of_getElem? (i := 389) (by decide +kernel), List.mem_of_getElem? (i := 390) (by decide +kernel)⟩
theorem lw_p19 : lw_okq (⟨"SharedSyntax$Reading", "parentheses", "(I)V"⟩, 10) := ⟨⟨by decide +kernel, by decide +kernel⟩, List.mem_of_getElem? (i := 24) (by decide +kernel), List.mem_of_getElem? (i := 393) (by decide +kernel), List.mem_of_getElem? (i := 394) (by decide +kernel)⟩
theorem lw_p20 : lw_okq (⟨"SharedSyntax$Reading", "negative", "(I)V"⟩, 10) := ⟨⟨by decide +kernel, by decide +kernel⟩, List.mem_of_getElem? (i := 24) (by decide +kernel), List.mem_of_getElem? (i := 397) (by decide +kernel), List.mem_of_getElem? (i := 398) (by decide +kernel)⟩
theorem lw_p21 : lw_okq (⟨"SharedSyntax$Reading", "closeSigns", "(III)I"⟩, 10) := ⟨⟨by decide +kernel, by decide +kernel⟩, List.mem_of_getElem? (i := 24) (by decide +kernel), List.mem_of_getElem? (i := 404) (by decide +kernel), List.mem_of_getElem? (i := 405) (by decide +kernel)⟩
theorem lw_p22 : lw_okq (⟨"SharedSyntax$Tree", "shift", "([II)V"⟩, 9) := ⟨⟨by decide +kernel, by decide +kernel⟩, List.mem_of_getElem? (i := 47) (by decide +kernel), List.mem_of_getElem? (i := 412) (by decide +kernel), List.mem_of_getElem? (i := 413) (by decide +kernel)⟩
theorem lw_p23 : lw_okq (⟨"SharedSyntax$Reading", "openSign", "(II)V"⟩, 10) := ⟨⟨by decide +kernel, by decide +kernel⟩, List.mem_of_getElem? (i := 24) (by decide +kernel), List.mem_of_getElem? (i := 419) (by decide +kernel), List.mem_of_getElem? (i := 420) (by decide +kernel)⟩
theorem lw_p24 : lw_okq (⟨"SharedSyntax$Reading", "part", "(I)V"⟩, 10) := ⟨⟨by decide +kernel, by decide +kernel⟩, List.mem_of_getElem? (i := 24) (by decide +kernel), List.mem_of_getElem? (i := 423) (by decide +kernel), List.mem_of_getElem? (i := 424) (by decide +kernel)⟩
theorem lw_p25 : lw_okq (⟨"SharedSyntax$Reading", "whileStatement", "(I)V"⟩, 10) := ⟨⟨by decide +kernel, by decide +kernel⟩, List.mem_of_getElem? (i := 24) (by decide +kernel), List.mem_of_getElem? (i := 427) (by decide +kernel), List.mem_of_getElem? (i := 428) (by decide +kernel)⟩
theorem lw_p26 : lw_okq (⟨"SharedSyntax$Reading", "simpleStatement", "()V"⟩, 10) := ⟨⟨by decide +kernel, by decide +kernel⟩, List.mem_of_getElem? (i := 24) (by decide +kernel), List.mem_of_getElem? (i := 431) (by decide +kernel), List.mem_of_getElem? (i := 432) (by decide +kernel)⟩
theorem lw_p27 : lw_okq (⟨"SharedSyntax$Reading", "skip", "()V"⟩, 10) := ⟨⟨by decide +kernel, by decide +kernel⟩, List.mem_of_getElem? (i := 24) (by decide +kernel), List.mem_of_getElem? (i := 435) (by decide +kernel), List.mem_of_getElem? (i := 436) (by decide +kernel)⟩
theorem lw_p28 : lw_okq (⟨"SharedSyntax", "fits", "(II)Z"⟩, 6) := ⟨⟨by decide +kernel, by decide +kernel⟩, List.mem_of_getElem? (i := 16) (by decide +kernel), List.mem_of_getElem? (i := 492) (by decide +kernel), List.mem_of_getElem? (i := 493) (by decide +kernel)⟩
theorem lw_p29 : lw_okq (⟨"SharedSyntax$History", "giveUpFirst", "()V"⟩, 2) := ⟨⟨by decide +kernel, by decide +kernel⟩, List.mem_of_getElem? (i := 443) (by decide +kernel), List.mem_of_getElem? (i := 500) (by decide +kernel), List.mem_of_getElem? (i := 501) (by decide +kernel)⟩
theorem lw_p30 : lw_okq (⟨"SharedSyntax$Letters", "appendPart", "(LSharedSyntax$Letters;II)V"⟩, 2) := ⟨⟨by decide +kernel, by decide +kernel⟩, List.mem_of_getElem? (i := 26) (by decide +kernel), List.mem_of_getElem? (i := 512) (by decide +kernel), List.mem_of_getElem? (i := 513) (by decide +kernel)⟩
theorem lw_p31 : lw_okq (⟨"SharedSyntax", "takeTurns", "()V"⟩, 6) := ⟨⟨by decide +kernel, by decide +kernel⟩, List.mem_of_getElem? (i := 16) (by decide +kernel), List.mem_of_getElem? (i := 522) (by decide +kernel), List.mem_of_getElem? (i := 523) (by decide +kernel)⟩
def lw_privs_2 : List (MethodName × Nat) := [(⟨"SharedSyntax$Reading", "condition", "()V"⟩, 10), (⟨"SharedSyntax$Reading", "expression", "(I)V"⟩, 10), (⟨"SharedSyntax$Reading", "operand", "(I)V"⟩, 10), (⟨"SharedSyntax$Reading", "parentheses", "(I)V"⟩, 10), (⟨"SharedSyntax$Reading", "negative", "(I)V"⟩, 10), (⟨"SharedSyntax$Reading", "closeSigns", "(III)I"⟩, 10), (⟨"SharedSyntax$Tree", "shift", "([II)V"⟩, 9), (⟨"SharedSyntax$Reading", "openSign", "(II)V"⟩, 10), (⟨"SharedSyntax$Reading", "part", "(I)V"⟩, 10), (⟨"SharedSyntax$Reading", "whileStatement", "(I)V"⟩, 10), (⟨"SharedSyntax$Reading", "simpleStatement", "()V"⟩, 10), (⟨"SharedSyntax$Reading", "skip", "()V"⟩, 10), (⟨"SharedSyntax", "fits", "(II)Z"⟩, 6), (⟨"SharedSyntax$History", "giveUpFirst", "()V"⟩, 2), (⟨"SharedSyntax$Letters", "appendPart", "(LSharedSyntax$Letters;II)V"⟩, 2), (⟨"SharedSyntax", "takeTurns", "()V"⟩, 6)]
theorem lw_r2 : ∀ q ∈ lw_privs_2, lw_okq q := List.forall_mem_cons.mpr ⟨lw_p16, List.forall_mem_cons.mpr ⟨lw_p17, List.forall_mem_cons.mpr ⟨lw_p18, List.forall_mem_cons.mpr ⟨lw_p19, List.forall_mem_cons.mpr ⟨lw_p20, List.forall_mem_cons.mpr ⟨lw_p21, List.forall_mem_cons.mpr ⟨lw_p22, List.forall_mem_cons.mpr ⟨lw_p23, List.forall_mem_cons.mpr ⟨lw_p24, List.forall_mem_cons.mpr ⟨lw_p25, List.forall_mem_cons.mpr ⟨lw_p26, List.forall_mem_cons.mpr ⟨lw_p27, List.forall_mem_cons.mpr ⟨lw_p28, List.forall_mem_cons.mpr ⟨lw_p29, List.forall_mem_cons.mpr ⟨lw_p30, List.forall_mem_cons.mpr ⟨lw_p31, fun _ h => absurd h List.not_mem_nil⟩⟩⟩⟩⟩⟩⟩⟩⟩⟩⟩⟩⟩⟩⟩⟩
theorem lw_p32 : lw_okq (⟨"SharedSyntax", "keptCount", "(II)I"⟩, 6) := ⟨⟨by decide +kernel, by decide +kernel⟩, List.mem_of_getElem? (i := 16) (by decide +kernel), List.mem_of_getElem? (i := 526) (by decide +kernel), List.mem_of_getElem? (i := 527) (by decide +kernel)⟩
theorem lw_p33 : lw_okq (⟨"SharedSyntax", "isKept", "(III)Z"⟩, 6) := ⟨⟨by decide +kernel, by decide +kernel⟩, List.mem_of_getElem? (i := 16) (by decide +kernel), List.mem_of_getElem? (i := 534) (by decide +kernel), List.mem_of_getElem? (i := 535) (by decide +kernel)⟩
theorem lw_p34 : lw_okq (⟨"SharedSyntax$Tree", "sameNode", "(ILSharedSyntax$Tree;I)Z"⟩, 9) := ⟨⟨by decide +kernel, by decide +kernel⟩, List.mem_of_getElem? (i := 47) (by decide +kernel), List.mem_of_getElem? (i := 546) (by decide +kernel), List.mem_of_getElem? (i := 547) (by decide +kernel)⟩
theorem lw_p35 : lw_okq (⟨"SharedSyntax$Tree", "sameLetters", "(ILSharedSyntax$Tree;I)Z"⟩, 9) := ⟨⟨by decide +kernel, by decide +kernel⟩, List.mem_of_getElem? (i := 47) (by decide +kernel), List.mem_of_getElem? (i := 555) (by decide +kernel), List.mem_of_getElem? (i := 556) (by decide +kernel)⟩
theorem lw_p36 : lw_okq (⟨"SharedSyntax$Tree", "sameFaults", "(ILSharedSyntax$Tree;I)Z"⟩, 9) := ⟨⟨by decide +kernel, by decide +kernel⟩, List.mem_of_getElem? (i := 47) (by decide +kernel), List.mem_of_getElem? (i := 560) (by decide +kernel), List.mem_of_getElem? (i := 561) (by decide +kernel)⟩
theorem lw_p37 : lw_okq (⟨"SharedSyntax$Tree", "isFirstOfItsLike", "(I)Z"⟩, 9) := ⟨⟨by decide +kernel, by decide +kernel⟩, List.mem_of_getElem? (i := 47) (by decide +kernel), List.mem_of_getElem? (i := 644) (by decide +kernel), List.mem_of_getElem? (i := 645) (by decide +kernel)⟩
theorem lw_p38 : lw_okq (⟨"SharedSyntaxModel", "parse", "(I)V"⟩, 43) := ⟨⟨by decide +kernel, by decide +kernel⟩, List.mem_of_getElem? (i := 649) (by decide +kernel), List.mem_of_getElem? (i := 655) (by decide +kernel), List.mem_of_getElem? (i := 656) (by decide +kernel)⟩
theorem lw_p39 : lw_okq (⟨"SharedSyntaxModel", "cut", "(I)V"⟩, 43) := ⟨⟨by decide +kernel, by decide +kernel⟩, List.mem_of_getElem? (i := 649) (by decide +kernel), List.mem_of_getElem? (i := 659) (by decide +kernel), List.mem_of_getElem? (i := 660) (by decide +kernel)⟩
theorem lw_p40 : lw_okq (⟨"SharedSyntaxModel", "blanks", "(II)I"⟩, 43) := ⟨⟨by decide +kernel, by decide +kernel⟩, List.mem_of_getElem? (i := 649) (by decide +kernel), List.mem_of_getElem? (i := 663) (by decide +kernel), List.mem_of_getElem? (i := 664) (by decide +kernel)⟩
theorem lw_p41 : lw_okq (⟨"SharedSyntaxModel", "look", "(II)C"⟩, 43) := ⟨⟨by decide +kernel, by decide +kernel⟩, List.mem_of_getElem? (i := 649) (by decide +kernel), List.mem_of_getElem? (i := 667) (by decide +kernel), List.mem_of_getElem? (i := 668) (by decide +kernel)⟩
theorem lw_p42 : lw_okq (⟨"SharedSyntaxModel", "behind", "(II)I"⟩, 43) := ⟨⟨by decide +kernel, by decide +kernel⟩, List.mem_of_getElem? (i := 649) (by decide +kernel), List.mem_of_getElem? (i := 671) (by decide +kernel), List.mem_of_getElem? (i := 672) (by decide +kernel)⟩
theorem lw_p43 : lw_okq (⟨"SharedSyntaxModel", "kindOf", "(III)I"⟩, 43) := ⟨⟨by decide +kernel, by decide +kernel⟩, List.mem_of_getElem? (i := 649) (by decide +kernel), List.mem_of_getElem? (i := 678) (by decide +kernel), List.mem_of_getElem? (i := 679) (by decide +kernel)⟩
theorem lw_p44 : lw_okq (⟨"SharedSyntaxModel", "add", "(III)V"⟩, 43) := ⟨⟨by decide +kernel, by decide +kernel⟩, List.mem_of_getElem? (i := 649) (by decide +kernel), List.mem_of_getElem? (i := 682) (by decide +kernel), List.mem_of_getElem? (i := 683) (by decide +kernel)⟩
theorem lw_p45 : lw_okq (⟨"SharedSyntaxModel", "perform", "(IIII)V"⟩, 43) := ⟨⟨by decide +kernel, by decide +kernel⟩, List.mem_of_getElem? (i := 649) (by decide +kernel), List.mem_of_getElem? (i := 687) (by decide +kernel), List.mem_of_getElem? (i := 688) (by decide +kernel)⟩
theorem lw_p46 : lw_okq (⟨"SharedSyntaxModel", "reduce", "(II)V"⟩, 43) := ⟨⟨by decide +kernel, by decide +kernel⟩, List.mem_of_getElem? (i := 649) (by decide +kernel), List.mem_of_getElem? (i := 691) (by decide +kernel), List.mem_of_getElem? (i := 692) (by decide +kernel)⟩
theorem lw_p47 : lw_okq (⟨"SharedSyntaxModel", "make", "(IIIII)V"⟩, 43) := ⟨⟨by decide +kernel, by decide +kernel⟩, List.mem_of_getElem? (i := 649) (by decide +kernel), List.mem_of_getElem? (i := 695) (by decide +kernel), List.mem_of_getElem? (i := 696) (by decide +kernel)⟩
def lw_privs_3 : List (MethodName × Nat) := [(⟨"SharedSyntax", "keptCount", "(II)I"⟩, 6), (⟨"SharedSyntax", "isKept", "(III)Z"⟩, 6), (⟨"SharedSyntax$Tree", "sameNode", "(ILSharedSyntax$Tree;I)Z"⟩, 9), (⟨"SharedSyntax$Tree", "sameLetters", "(ILSharedSyntax$Tree;I)Z"⟩, 9), (⟨"SharedSyntax$Tree", "sameFaults", "(ILSharedSyntax$Tree;I)Z"⟩, 9), (⟨"SharedSyntax$Tree", "isFirstOfItsLike", "(I)Z"⟩, 9), (⟨"SharedSyntaxModel", "parse", "(I)V"⟩, 43), (⟨"SharedSyntaxModel", "cut", "(I)V"⟩, 43), (⟨"SharedSyntaxModel", "blanks", "(II)I"⟩, 43), (⟨"SharedSyntaxModel", "look", "(II)C"⟩, 43), (⟨"SharedSyntaxModel", "behind", "(II)I"⟩, 43), (⟨"SharedSyntaxModel", "kindOf", "(III)I"⟩, 43), (⟨"SharedSyntaxModel", "add", "(III)V"⟩, 43), (⟨"SharedSyntaxModel", "perform", "(IIII)V"⟩, 43), (⟨"SharedSyntaxModel", "reduce", "(II)V"⟩, 43), (⟨"SharedSyntaxModel", "make", "(IIIII)V"⟩, 43)]
theorem lw_r3 : ∀ q ∈ lw_privs_3, lw_okq q := List.forall_mem_cons.mpr ⟨lw_p32, List.forall_mem_cons.mpr ⟨lw_p33, List.forall_mem_cons.mpr ⟨lw_p34, List.forall_mem_cons.mpr ⟨lw_p35, List.forall_mem_cons.mpr ⟨lw_p36, List.forall_mem_cons.mpr ⟨lw_p37, List.forall_mem_cons.mpr ⟨lw_p38, List.forall_mem_cons.mpr ⟨lw_p39, List.forall_mem_cons.mpr ⟨lw_p40, List.forall_mem_cons.mpr ⟨lw_p41, List.forall_mem_cons.mpr ⟨lw_p42, List.forall_mem_cons.mpr ⟨lw_p43, List.forall_mem_cons.mpr ⟨lw_p44, List.forall_mem_cons.mpr ⟨lw_p45, List.forall_mem_cons.mpr ⟨lw_p46, List.forall_mem_cons.mpr ⟨lw_p47, fun _ h => absurd h List.not_mem_nil⟩⟩⟩⟩⟩⟩⟩⟩⟩⟩⟩⟩⟩⟩⟩⟩
theorem lw_p48 : lw_okq (⟨"SharedSyntaxModel", "take", "()V"⟩, 43) := ⟨⟨by decide +kernel, by decide +kernel⟩, List.mem_of_getElem? (i := 649) (by decide +kernel), List.mem_of_getElem? (i := 699) (by decide +kernel), List.mem_of_getElem? (i := 700) (by decide +kernel)⟩
theorem lw_p49 : lw_okq (⟨"SharedSyntaxModel", "list", "(III)V"⟩, 43) := ⟨⟨by decide +kernel, by decide +kernel⟩, List.mem_of_getElem? (i := 649) (by decide +kernel), List.mem_of_getElem? (i := 703) (by decide +kernel), List.mem_of_getElem? (i := 704) (by decide +kernel)⟩
theorem lw_p50 : lw_okq (⟨"SharedSyntaxModel", "current", "()I"⟩, 43) := ⟨⟨by decide +kernel, by decide +kernel⟩, List.mem_of_getElem? (i := 649) (by decide +kernel), List.mem_of_getElem? (i := 707) (by decide +kernel), List.mem_of_getElem? (i := 708) (by decide +kernel)⟩
theorem lw_p51 : lw_okq (⟨"SharedSyntaxModel", "begins", "(I)Z"⟩, 43) := ⟨⟨by decide +kernel, by decide +kernel⟩, List.mem_of_getElem? (i := 649) (by decide +kernel), List.mem_of_getElem? (i := 711) (by decide +kernel), List.mem_of_getElem? (i := 712) (by decide +kernel)⟩
theorem lw_p52 : lw_okq (⟨"SharedSyntaxModel", "leaveOut", "(I)V"⟩, 43) := ⟨⟨by decide +kernel, by decide +kernel⟩, List.mem_of_getElem? (i := 649) (by decide +kernel), List.mem_of_getElem? (i := 718) (by decide +kernel), List.mem_of_getElem? (i := 719) (by decide +kernel)⟩
theorem lw_p53 : lw_okq (⟨"SharedSyntaxModel", "statement", "(I)V"⟩, 43) := ⟨⟨by decide +kernel, by decide +kernel⟩, List.mem_of_getElem? (i := 649) (by decide +kernel), List.mem_of_getElem? (i := 722) (by decide +kernel), List.mem_of_getElem? (i := 723) (by decide +kernel)⟩
theorem lw_p54 : lw_okq (⟨"SharedSyntaxModel", "expect", "(I)V"⟩, 43) := ⟨⟨by decide +kernel, by decide +kernel⟩, List.mem_of_getElem? (i := 649) (by decide +kernel), List.mem_of_getElem? (i := 726) (by decide +kernel), List.mem_of_getElem? (i := 727) (by decide +kernel)⟩
theorem lw_p55 : lw_okq (⟨"SharedSyntaxModel", "lack", "(II)V"⟩, 43) := ⟨⟨by decide +kernel, by decide +kernel⟩, List.mem_of_getElem? (i := 649) (by decide +kernel), List.mem_of_getElem? (i := 730) (by decide +kernel), List.mem_of_getElem? (i := 731) (by decide +kernel)⟩
theorem lw_p56 : lw_okq (⟨"SharedSyntaxModel", "other", "(I)V"⟩, 43) := ⟨⟨by decide +kernel, by decide +kernel⟩, List.mem_of_getElem? (i := 649) (by decide +kernel), List.mem_of_getElem? (i := 734) (by decide +kernel), List.mem_of_getElem? (i := 735) (by decide +kernel)⟩
theorem lw_p57 : lw_okq (⟨"SharedSyntaxModel", "part", "(I)V"⟩, 43) := ⟨⟨by decide +kernel, by decide +kernel⟩, List.mem_of_getElem? (i := 649) (by decide +kernel), List.mem_of_getElem? (i := 738) (by decide +kernel), List.mem_of_getElem? (i := 739) (by decide +kernel)⟩
theorem lw_p58 : lw_okq (⟨"SharedSyntaxModel", "more", "(II)V"⟩, 43) := ⟨⟨by decide +kernel, by decide +kernel⟩, List.mem_of_getElem? (i := 649) (by decide +kernel), List.mem_of_getElem? (i := 742) (by decide +kernel), List.mem_of_getElem? (i := 743) (by decide +kernel)⟩
theorem lw_p59 : lw_okq (⟨"SharedSyntaxModel", "operand", "(I)V"⟩, 43) := ⟨⟨by decide +kernel, by decide +kernel⟩, List.mem_of_getElem? (i := 649) (by decide +kernel), List.mem_of_getElem? (i := 749) (by decide +kernel), List.mem_of_getElem? (i := 750) (by decide +kernel)⟩
theorem lw_p60 : lw_okq (⟨"SharedSyntaxModel", "number", "(I)V"⟩, 43) := ⟨⟨by decide +kernel, by decide +kernel⟩, List.mem_of_getElem? (i := 649) (by decide +kernel), List.mem_of_getElem? (i := 753) (by decide +kernel), List.mem_of_getElem? (i := 754) (by decide +kernel)⟩
theorem lw_p61 : lw_okq (⟨"SharedSyntaxModel", "following", "(I)I"⟩, 43) := ⟨⟨by decide +kernel, by decide +kernel⟩, List.mem_of_getElem? (i := 649) (by decide +kernel), List.mem_of_getElem? (i := 757) (by decide +kernel), List.mem_of_getElem? (i := 758) (by decide +kernel)⟩
theorem lw_p62 : lw_okq (⟨"SharedSyntaxModel", "keep", "()V"⟩, 43) := ⟨⟨by decide +kernel, by decide +kernel⟩, List.mem_of_getElem? (i := 649) (by decide +kernel), List.mem_of_getElem? (i := 900) (by decide +kernel), List.mem_of_getElem? (i := 901) (by decide +kernel)⟩
theorem lw_p63 : lw_okq (⟨"SharedSyntaxModel", "reused", "(IIIII)Z"⟩, 43) := ⟨⟨by decide +kernel, by decide +kernel⟩, List.mem_of_getElem? (i := 649) (by decide +kernel), List.mem_of_getElem? (i := 904) (by decide +kernel), List.mem_of_getElem? (i := 905) (by decide +kernel)⟩
def lw_privs_4 : List (MethodName × Nat) := [(⟨"SharedSyntaxModel", "take", "()V"⟩, 43), (⟨"SharedSyntaxModel", "list", "(III)V"⟩, 43), (⟨"SharedSyntaxModel", "current", "()I"⟩, 43), (⟨"SharedSyntaxModel", "begins", "(I)Z"⟩, 43), (⟨"SharedSyntaxModel", "leaveOut", "(I)V"⟩, 43), (⟨"SharedSyntaxModel", "statement", "(I)V"⟩, 43), (⟨"SharedSyntaxModel", "expect", "(I)V"⟩, 43), (⟨"SharedSyntaxModel", "lack", "(II)V"⟩, 43), (⟨"SharedSyntaxModel", "other", "(I)V"⟩, 43), (⟨"SharedSyntaxModel", "part", "(I)V"⟩, 43), (⟨"SharedSyntaxModel", "more", "(II)V"⟩, 43), (⟨"SharedSyntaxModel", "operand", "(I)V"⟩, 43), (⟨"SharedSyntaxModel", "number", "(I)V"⟩, 43), (⟨"SharedSyntaxModel", "following", "(I)I"⟩, 43), (⟨"SharedSyntaxModel", "keep", "()V"⟩, 43), (⟨"SharedSyntaxModel", "reused", "(IIIII)Z"⟩, 43)]
theorem lw_r4 : ∀ q ∈ lw_privs_4, lw_okq q := List.forall_mem_cons.mpr ⟨lw_p48, List.forall_mem_cons.mpr ⟨lw_p49, List.forall_mem_cons.mpr ⟨lw_p50, List.forall_mem_cons.mpr ⟨lw_p51, List.forall_mem_cons.mpr ⟨lw_p52, List.forall_mem_cons.mpr ⟨lw_p53, List.forall_mem_cons.mpr ⟨lw_p54, List.forall_mem_cons.mpr ⟨lw_p55, List.forall_mem_cons.mpr ⟨lw_p56, List.forall_mem_cons.mpr ⟨lw_p57, List.forall_mem_cons.mpr ⟨lw_p58, List.forall_mem_cons.mpr ⟨lw_p59, List.forall_mem_cons.mpr ⟨lw_p60, List.forall_mem_cons.mpr ⟨lw_p61, List.forall_mem_cons.mpr ⟨lw_p62, List.forall_mem_cons.mpr ⟨lw_p63, fun _ h => absurd h List.not_mem_nil⟩⟩⟩⟩⟩⟩⟩⟩⟩⟩⟩⟩⟩⟩⟩⟩
theorem lw_p64 : lw_okq (⟨"SharedSyntaxModel", "alike", "(IIII)Z"⟩, 43) := ⟨⟨by decide +kernel, by decide +kernel⟩, List.mem_of_getElem? (i := 649) (by decide +kernel), List.mem_of_getElem? (i := 908) (by decide +kernel), List.mem_of_getElem? (i := 909) (by decide +kernel)⟩
theorem lw_p65 : lw_okq (⟨"SharedSyntaxModel", "sameLeaf", "(IIII)Z"⟩, 43) := ⟨⟨by decide +kernel, by decide +kernel⟩, List.mem_of_getElem? (i := 649) (by decide +kernel), List.mem_of_getElem? (i := 912) (by decide +kernel), List.mem_of_getElem? (i := 913) (by decide +kernel)⟩
theorem lw_p66 : lw_okq (⟨"SharedSyntaxModel", "there", "(I)Z"⟩, 43) := ⟨⟨by decide +kernel, by decide +kernel⟩, List.mem_of_getElem? (i := 649) (by decide +kernel), List.mem_of_getElem? (i := 932) (by decide +kernel), List.mem_of_getElem? (i := 933) (by decide +kernel)⟩
theorem lw_p67 : lw_okq (⟨"SharedSyntaxModel", "faultsOf", "(I)I"⟩, 43) := ⟨⟨by decide +kernel, by decide +kernel⟩, List.mem_of_getElem? (i := 649) (by decide +kernel), List.mem_of_getElem? (i := 936) (by decide +kernel), List.mem_of_getElem? (i := 937) (by decide +kernel)⟩
theorem lw_p68 : lw_okq (⟨"SharedSyntaxModel", "faultIn", "(II)I"⟩, 43) := ⟨⟨by decide +kernel, by decide +kernel⟩, List.mem_of_getElem? (i := 649) (by decide +kernel), List.mem_of_getElem? (i := 956) (by decide +kernel), List.mem_of_getElem? (i := 957) (by decide +kernel)⟩
theorem lw_p69 : lw_okq (⟨"SharedSyntaxModel", "leaves", "()I"⟩, 43) := ⟨⟨by decide +kernel, by decide +kernel⟩, List.mem_of_getElem? (i := 649) (by decide +kernel), List.mem_of_getElem? (i := 964) (by decide +kernel), List.mem_of_getElem? (i := 965) (by decide +kernel)⟩
theorem lw_p70 : lw_okq (⟨"SharedSyntaxModel", "different", "()I"⟩, 43) := ⟨⟨by decide +kernel, by decide +kernel⟩, List.mem_of_getElem? (i := 649) (by decide +kernel), List.mem_of_getElem? (i := 969) (by decide +kernel), List.mem_of_getElem? (i := 970) (by decide +kernel)⟩
def lw_privs_5 : List (MethodName × Nat) := [(⟨"SharedSyntaxModel", "alike", "(IIII)Z"⟩, 43), (⟨"SharedSyntaxModel", "sameLeaf", "(IIII)Z"⟩, 43), (⟨"SharedSyntaxModel", "there", "(I)Z"⟩, 43), (⟨"SharedSyntaxModel", "faultsOf", "(I)I"⟩, 43), (⟨"SharedSyntaxModel", "faultIn", "(II)I"⟩, 43), (⟨"SharedSyntaxModel", "leaves", "()I"⟩, 43), (⟨"SharedSyntaxModel", "different", "()I"⟩, 43)]
theorem lw_r5 : ∀ q ∈ lw_privs_5, lw_okq q := List.forall_mem_cons.mpr ⟨lw_p64, List.forall_mem_cons.mpr ⟨lw_p65, List.forall_mem_cons.mpr ⟨lw_p66, List.forall_mem_cons.mpr ⟨lw_p67, List.forall_mem_cons.mpr ⟨lw_p68, List.forall_mem_cons.mpr ⟨lw_p69, List.forall_mem_cons.mpr ⟨lw_p70, fun _ h => absurd h List.not_mem_nil⟩⟩⟩⟩⟩⟩⟩
def lw_privs : List (MethodName × Nat) := lw_privs_1 ++ (lw_privs_2 ++ (lw_privs_3 ++ (lw_privs_4 ++ (lw_privs_5))))
def lw_tbl : List Cond := k2_sels lw_privs ++ tables_1
theorem lw_privs_ok : ∀ q ∈ lw_privs, lw_okq q := by
  show ∀ q ∈ lw_privs_1 ++ (lw_privs_2 ++ (lw_privs_3 ++ (lw_privs_4 ++ (lw_privs_5)))), lw_okq q
  exact List.forall_mem_append.mpr ⟨lw_r1, List.forall_mem_append.mpr ⟨lw_r2, List.forall_mem_append.mpr ⟨lw_r3, List.forall_mem_append.mpr ⟨lw_r4, lw_r5⟩⟩⟩⟩
end
section
/-! names: classes and their fields (by names.py) -/
abbrev RcL : String := "SharedSyntax$Letters"
def TcL : u_T := fun k => match k with
  | 0 => ("SharedSyntax$Letters", "row", "[I", true)
  | _ => ("SharedSyntax$Letters", "size", "I", false)
def tycL : Nat → FieldType := fun k => match k with
  | 0 => (.array .int)
  | _ => .int
theorem nmcL : ∀ a, a < 2 → ∀ b, b < 2 → a ≠ b → (TcL a).2.1 ≠ (TcL b).2.1 := by decide +kernel
theorem tycL_ok : ∀ k, k < 2 → parseFieldDescriptor (TcL k).2.2.1 = some (tycL k) := by decide +kernel
abbrev RcK : String := "SharedSyntax$Tokens"
def TcK : u_T := fun k => match k with
  | 0 => ("SharedSyntax$Tokens", "text", "LSharedSyntax$Letters;", true)
  | 1 => ("SharedSyntax$Tokens", "kinds", "[I", true)
  | 2 => ("SharedSyntax$Tokens", "owns", "[I", true)
  | 3 => ("SharedSyntax$Tokens", "ends", "[I", true)
  | 4 => ("SharedSyntax$Tokens", "used", "I", false)
  | _ => ("SharedSyntax$Tokens", "at", "I", false)
def tycK : Nat → FieldType := fun k => match k with
  | 0 => (.object "SharedSyntax$Letters")
  | 1 => (.array .int)
  | 2 => (.array .int)
  | 3 => (.array .int)
  | 4 => .int
  | _ => .int
theorem nmcK : ∀ a, a < 6 → ∀ b, b < 6 → a ≠ b → (TcK a).2.1 ≠ (TcK b).2.1 := by decide +kernel
theorem tycK_ok : ∀ k, k < 6 → parseFieldDescriptor (TcK k).2.2.1 = some (tycK k) := by decide +kernel
abbrev RcT : String := "SharedSyntax$Tree"
def TcT : u_T := fun k => match k with
  | 0 => ("SharedSyntax$Tree", "text", "LSharedSyntax$Letters;", true)
  | 1 => ("SharedSyntax$Tree", "kinds", "[I", true)
  | 2 => ("SharedSyntax$Tree", "sizes", "[I", true)
  | 3 => ("SharedSyntax$Tree", "begins", "[I", true)
  | 4 => ("SharedSyntax$Tree", "owns", "[I", true)
  | 5 => ("SharedSyntax$Tree", "faultsBefore", "[I", true)
  | 6 => ("SharedSyntax$Tree", "faults", "[I", true)
  | 7 => ("SharedSyntax$Tree", "used", "I", false)
  | _ => ("SharedSyntax$Tree", "faultCount", "I", false)
def tycT : Nat → FieldType := fun k => match k with
  | 0 => (.object "SharedSyntax$Letters")
  | 1 => (.array .int)
  | 2 => (.array .int)
  | 3 => (.array .int)
  | 4 => (.array .int)
  | 5 => (.array .int)
  | 6 => (.array .int)
  | 7 => .int
  | _ => .int
theorem nmcT : ∀ a, a < 9 → ∀ b, b < 9 → a ≠ b → (TcT a).2.1 ≠ (TcT b).2.1 := by decide +kernel
theorem tycT_ok : ∀ k, k < 9 → parseFieldDescriptor (TcT k).2.2.1 = some (tycT k) := by decide +kernel
abbrev RcR : String := "SharedSyntax$Reading"
def TcR : u_T := fun k => match k with
  | 0 => ("SharedSyntax$Reading", "text", "LSharedSyntax$Letters;", true)
  | 1 => ("SharedSyntax$Reading", "tree", "LSharedSyntax$Tree;", true)
  | 2 => ("SharedSyntax$Reading", "tokens", "LSharedSyntax$Tokens;", true)
  | 3 => ("SharedSyntax$Reading", "place", "I", false)
  | 4 => ("SharedSyntax$Reading", "skippedPlaces", "[I", true)
  | 5 => ("SharedSyntax$Reading", "skippedFaults", "[I", true)
  | 6 => ("SharedSyntax$Reading", "skipped", "I", false)
  | 7 => ("SharedSyntax$Reading", "openNodes", "[I", true)
  | 8 => ("SharedSyntax$Reading", "openBindings", "[I", true)
  | _ => ("SharedSyntax$Reading", "open", "I", false)
def tycR : Nat → FieldType := fun k => match k with
  | 0 => (.object "SharedSyntax$Letters")
  | 1 => (.object "SharedSyntax$Tree")
  | 2 => (.object "SharedSyntax$Tokens")
  | 3 => .int
  | 4 => (.array .int)
  | 5 => (.array .int)
  | 6 => .int
  | 7 => (.array .int)
  | 8 => (.array .int)
  | _ => .int
theorem nmcR : ∀ a, a < 10 → ∀ b, b < 10 → a ≠ b → (TcR a).2.1 ≠ (TcR b).2.1 := by decide +kernel
theorem tycR_ok : ∀ k, k < 10 → parseFieldDescriptor (TcR k).2.2.1 = some (tycR k) := by decide +kernel
abbrev RcH : String := "SharedSyntax$History"
def TcH : u_T := fun k => match k with
  | 0 => ("SharedSyntax$History", "texts", "[LSharedSyntax$Letters;", true)
  | _ => ("SharedSyntax$History", "stored", "I", false)
def tycH : Nat → FieldType := fun k => match k with
  | 0 => (.array (.object "SharedSyntax$Letters"))
  | _ => .int
theorem nmcH : ∀ a, a < 2 → ∀ b, b < 2 → a ≠ b → (TcH a).2.1 ≠ (TcH b).2.1 := by decide +kernel
theorem tycH_ok : ∀ k, k < 2 → parseFieldDescriptor (TcH k).2.2.1 = some (tycH k) := by decide +kernel
abbrev RcX : String := "SharedSyntax"
def TcX : u_T := fun k => match k with
  | 0 => ("SharedSyntax", "buffer", "LSharedSyntax$Letters;", true)
  | 1 => ("SharedSyntax", "history", "LSharedSyntax$History;", true)
  | 2 => ("SharedSyntax", "current", "LSharedSyntax$Reading;", false)
  | 3 => ("SharedSyntax", "spare", "LSharedSyntax$Reading;", false)
  | 4 => ("SharedSyntax", "version", "I", false)
  | _ => ("SharedSyntax", "kept", "I", false)
def tycX : Nat → FieldType := fun k => match k with
  | 0 => (.object "SharedSyntax$Letters")
  | 1 => (.object "SharedSyntax$History")
  | 2 => (.object "SharedSyntax$Reading")
  | 3 => (.object "SharedSyntax$Reading")
  | 4 => .int
  | _ => .int
theorem nmcX : ∀ a, a < 6 → ∀ b, b < 6 → a ≠ b → (TcX a).2.1 ≠ (TcX b).2.1 := by decide +kernel
theorem tycX_ok : ∀ k, k < 6 → parseFieldDescriptor (TcX k).2.2.1 = some (tycX k) := by decide +kernel
abbrev RcM : String := "SharedSyntaxModel"
def TcM : u_T := fun k => match k with
  | 0 => ("SharedSyntaxModel", "now", "I", false)
  | 1 => ("SharedSyntaxModel", "text", "[C", true)
  | 2 => ("SharedSyntaxModel", "size", "[I", true)
  | 3 => ("SharedSyntaxModel", "skip", "[I", true)
  | 4 => ("SharedSyntaxModel", "nodes", "[I", true)
  | 5 => ("SharedSyntaxModel", "kind", "[I", true)
  | 6 => ("SharedSyntaxModel", "from", "[I", true)
  | 7 => ("SharedSyntaxModel", "to", "[I", true)
  | 8 => ("SharedSyntaxModel", "own", "[I", true)
  | 9 => ("SharedSyntaxModel", "missing", "[I", true)
  | 10 => ("SharedSyntaxModel", "kids", "[I", true)
  | 11 => ("SharedSyntaxModel", "parent", "[I", true)
  | 12 => ("SharedSyntaxModel", "below", "[I", true)
  | 13 => ("SharedSyntaxModel", "past", "[C", true)
  | 14 => ("SharedSyntaxModel", "pastSize", "[I", true)
  | 15 => ("SharedSyntaxModel", "versions", "I", false)
  | 16 => ("SharedSyntaxModel", "version", "I", false)
  | 17 => ("SharedSyntaxModel", "same", "I", false)
  | 18 => ("SharedSyntaxModel", "buffer", "[C", true)
  | 19 => ("SharedSyntaxModel", "typed", "I", false)
  | 20 => ("SharedSyntaxModel", "tokens", "I", false)
  | 21 => ("SharedSyntaxModel", "tKind", "[I", true)
  | 22 => ("SharedSyntaxModel", "tFrom", "[I", true)
  | 23 => ("SharedSyntaxModel", "tTo", "[I", true)
  | 24 => ("SharedSyntaxModel", "at", "I", false)
  | 25 => ("SharedSyntaxModel", "end", "I", false)
  | 26 => ("SharedSyntaxModel", "made", "I", false)
  | 27 => ("SharedSyntaxModel", "rKind", "[I", true)
  | 28 => ("SharedSyntaxModel", "rFrom", "[I", true)
  | 29 => ("SharedSyntaxModel", "rTo", "[I", true)
  | 30 => ("SharedSyntaxModel", "rOwn", "[I", true)
  | 31 => ("SharedSyntaxModel", "rMissing", "[I", true)
  | 32 => ("SharedSyntaxModel", "rKids", "[I", true)
  | 33 => ("SharedSyntaxModel", "rFirst", "[I", true)
  | 34 => ("SharedSyntaxModel", "rNext", "[I", true)
  | 35 => ("SharedSyntaxModel", "rUp", "[I", true)
  | 36 => ("SharedSyntaxModel", "rNumber", "[I", true)
  | 37 => ("SharedSyntaxModel", "height", "I", false)
  | 38 => ("SharedSyntaxModel", "row", "[I", true)
  | 39 => ("SharedSyntaxModel", "tasks", "I", false)
  | 40 => ("SharedSyntaxModel", "task", "[I", true)
  | 41 => ("SharedSyntaxModel", "first", "[I", true)
  | _ => ("SharedSyntaxModel", "second", "[I", true)
def tycM : Nat → FieldType := fun k => match k with
  | 0 => .int
  | 1 => (.array .char)
  | 2 => (.array .int)
  | 3 => (.array .int)
  | 4 => (.array .int)
  | 5 => (.array .int)
  | 6 => (.array .int)
  | 7 => (.array .int)
  | 8 => (.array .int)
  | 9 => (.array .int)
  | 10 => (.array .int)
  | 11 => (.array .int)
  | 12 => (.array .int)
  | 13 => (.array .char)
  | 14 => (.array .int)
  | 15 => .int
  | 16 => .int
  | 17 => .int
  | 18 => (.array .char)
  | 19 => .int
  | 20 => .int
  | 21 => (.array .int)
  | 22 => (.array .int)
  | 23 => (.array .int)
  | 24 => .int
  | 25 => .int
  | 26 => .int
  | 27 => (.array .int)
  | 28 => (.array .int)
  | 29 => (.array .int)
  | 30 => (.array .int)
  | 31 => (.array .int)
  | 32 => (.array .int)
  | 33 => (.array .int)
  | 34 => (.array .int)
  | 35 => (.array .int)
  | 36 => (.array .int)
  | 37 => .int
  | 38 => (.array .int)
  | 39 => .int
  | 40 => (.array .int)
  | 41 => (.array .int)
  | _ => (.array .int)
theorem nmcM : ∀ a, a < 43 → ∀ b, b < 43 → a ≠ b → (TcM a).2.1 ≠ (TcM b).2.1 := by decide +kernel
theorem tycM_ok : ∀ k, k < 43 → parseFieldDescriptor (TcM k).2.2.1 = some (tycM k) := by decide +kernel
abbrev vwCl : List vw_C := [(RcL, TcL, 2), (RcK, TcK, 6), (RcT, TcT, 9), (RcR, TcR, 10), (RcH, TcH, 2), (RcX, TcX, 6), (RcM, TcM, 43)]
abbrev yX_init : MethodName := ⟨"SharedSyntax", "<init>", "()V"⟩
abbrev yX_type : MethodName := ⟨"SharedSyntax", "type", "(C)Z"⟩
abbrev yX_edit : MethodName := ⟨"SharedSyntax", "edit", "(II)Z"⟩
abbrev yX_undo : MethodName := ⟨"SharedSyntax", "undo", "()Z"⟩
abbrev yX_length : MethodName := ⟨"SharedSyntax", "length", "()I"⟩
abbrev yX_letter : MethodName := ⟨"SharedSyntax", "letter", "(I)I"⟩
abbrev yX_node : MethodName := ⟨"SharedSyntax", "node", "(II)I"⟩
abbrev yX_child : MethodName := ⟨"SharedSyntax", "child", "(II)I"⟩
abbrev yX_find : MethodName := ⟨"SharedSyntax", "find", "(I)I"⟩
abbrev yX_equal : MethodName := ⟨"SharedSyntax", "equal", "(II)Z"⟩
abbrev yX_fault : MethodName := ⟨"SharedSyntax", "fault", "(I)I"⟩
abbrev yX_count : MethodName := ⟨"SharedSyntax", "count", "(I)I"⟩
abbrev yX_fits : MethodName := ⟨"SharedSyntax", "fits", "(II)Z"⟩
abbrev yX_takeTurns : MethodName := ⟨"SharedSyntax", "takeTurns", "()V"⟩
abbrev yX_keptCount : MethodName := ⟨"SharedSyntax", "keptCount", "(II)I"⟩
abbrev yX_isKept : MethodName := ⟨"SharedSyntax", "isKept", "(III)Z"⟩
abbrev yM_init : MethodName := ⟨"SharedSyntaxModel", "<init>", "()V"⟩
abbrev yM_look : MethodName := ⟨"SharedSyntaxModel", "look", "(II)C"⟩
abbrev yM_blanks : MethodName := ⟨"SharedSyntaxModel", "blanks", "(II)I"⟩
abbrev yM_among : MethodName := ⟨"SharedSyntaxModel", "among", "(CZ)Z"⟩
abbrev yM_behind : MethodName := ⟨"SharedSyntaxModel", "behind", "(II)I"⟩
abbrev yM_kindOf : MethodName := ⟨"SharedSyntaxModel", "kindOf", "(III)I"⟩
abbrev yM_cut : MethodName := ⟨"SharedSyntaxModel", "cut", "(I)V"⟩
abbrev yM_current : MethodName := ⟨"SharedSyntaxModel", "current", "()I"⟩
abbrev yM_starts : MethodName := ⟨"SharedSyntaxModel", "starts", "(I)Z"⟩
abbrev yM_begins : MethodName := ⟨"SharedSyntaxModel", "begins", "(I)Z"⟩
abbrev yM_make : MethodName := ⟨"SharedSyntaxModel", "make", "(IIIII)V"⟩
abbrev yM_take : MethodName := ⟨"SharedSyntaxModel", "take", "()V"⟩
abbrev yM_lack : MethodName := ⟨"SharedSyntaxModel", "lack", "(II)V"⟩
abbrev yM_expect : MethodName := ⟨"SharedSyntaxModel", "expect", "(I)V"⟩
abbrev yM_leaveOut : MethodName := ⟨"SharedSyntaxModel", "leaveOut", "(I)V"⟩
abbrev yM_reduce : MethodName := ⟨"SharedSyntaxModel", "reduce", "(II)V"⟩
abbrev yM_add : MethodName := ⟨"SharedSyntaxModel", "add", "(III)V"⟩
abbrev yM_perform : MethodName := ⟨"SharedSyntaxModel", "perform", "(IIII)V"⟩
abbrev yM_list : MethodName := ⟨"SharedSyntaxModel", "list", "(III)V"⟩
abbrev yM_statement : MethodName := ⟨"SharedSyntaxModel", "statement", "(I)V"⟩
abbrev yM_other : MethodName := ⟨"SharedSyntaxModel", "other", "(I)V"⟩
abbrev yM_part : MethodName := ⟨"SharedSyntaxModel", "part", "(I)V"⟩
abbrev yM_level : MethodName := ⟨"SharedSyntaxModel", "level", "(I)I"⟩
abbrev yM_more : MethodName := ⟨"SharedSyntaxModel", "more", "(II)V"⟩
abbrev yM_operand : MethodName := ⟨"SharedSyntaxModel", "operand", "(I)V"⟩
abbrev yM_parse : MethodName := ⟨"SharedSyntaxModel", "parse", "(I)V"⟩
abbrev yM_following : MethodName := ⟨"SharedSyntaxModel", "following", "(I)I"⟩
abbrev yM_number : MethodName := ⟨"SharedSyntaxModel", "number", "(I)V"⟩
abbrev yM_sameLeaf : MethodName := ⟨"SharedSyntaxModel", "sameLeaf", "(IIII)Z"⟩
abbrev yM_alike : MethodName := ⟨"SharedSyntaxModel", "alike", "(IIII)Z"⟩
abbrev yM_type : MethodName := ⟨"SharedSyntaxModel", "type", "(C)Z"⟩
abbrev yM_keep : MethodName := ⟨"SharedSyntaxModel", "keep", "()V"⟩
abbrev yM_reused : MethodName := ⟨"SharedSyntaxModel", "reused", "(IIIII)Z"⟩
abbrev yM_edit : MethodName := ⟨"SharedSyntaxModel", "edit", "(II)Z"⟩
abbrev yM_undo : MethodName := ⟨"SharedSyntaxModel", "undo", "()Z"⟩
abbrev yM_length : MethodName := ⟨"SharedSyntaxModel", "length", "()I"⟩
abbrev yM_letter : MethodName := ⟨"SharedSyntaxModel", "letter", "(I)I"⟩
abbrev yM_there : MethodName := ⟨"SharedSyntaxModel", "there", "(I)Z"⟩
abbrev yM_faultsOf : MethodName := ⟨"SharedSyntaxModel", "faultsOf", "(I)I"⟩
abbrev yM_node : MethodName := ⟨"SharedSyntaxModel", "node", "(II)I"⟩
abbrev yM_child : MethodName := ⟨"SharedSyntaxModel", "child", "(II)I"⟩
abbrev yM_find : MethodName := ⟨"SharedSyntaxModel", "find", "(I)I"⟩
abbrev yM_equal : MethodName := ⟨"SharedSyntaxModel", "equal", "(II)Z"⟩
abbrev yM_fault : MethodName := ⟨"SharedSyntaxModel", "fault", "(I)I"⟩
abbrev yM_faultIn : MethodName := ⟨"SharedSyntaxModel", "faultIn", "(II)I"⟩
abbrev yM_different : MethodName := ⟨"SharedSyntaxModel", "different", "()I"⟩
abbrev yM_leaves : MethodName := ⟨"SharedSyntaxModel", "leaves", "()I"⟩
abbrev yM_count : MethodName := ⟨"SharedSyntaxModel", "count", "(I)I"⟩
abbrev yH_init : MethodName := ⟨"SharedSyntax$History", "<init>", "()V"⟩
abbrev yH_store : MethodName := ⟨"SharedSyntax$History", "store", "(LSharedSyntax$Letters;)V"⟩
abbrev yH_takeLast : MethodName := ⟨"SharedSyntax$History", "takeLast", "(LSharedSyntax$Letters;)Z"⟩
abbrev yH_giveUpFirst : MethodName := ⟨"SharedSyntax$History", "giveUpFirst", "()V"⟩
abbrev yL_init : MethodName := ⟨"SharedSyntax$Letters", "<init>", "(I)V"⟩
abbrev yL_at : MethodName := ⟨"SharedSyntax$Letters", "at", "(I)I"⟩
abbrev yL_append : MethodName := ⟨"SharedSyntax$Letters", "append", "(I)Z"⟩
abbrev yL_clear : MethodName := ⟨"SharedSyntax$Letters", "clear", "()V"⟩
abbrev yL_copy : MethodName := ⟨"SharedSyntax$Letters", "copy", "(LSharedSyntax$Letters;)V"⟩
abbrev yL_splice : MethodName := ⟨"SharedSyntax$Letters", "splice", "(LSharedSyntax$Letters;IILSharedSyntax$Letters;)V"⟩
abbrev yL_appendPart : MethodName := ⟨"SharedSyntax$Letters", "appendPart", "(LSharedSyntax$Letters;II)V"⟩
abbrev yR_init : MethodName := ⟨"SharedSyntax$Reading", "<init>", "(LSharedSyntax$Letters;)V"⟩
abbrev yR_read : MethodName := ⟨"SharedSyntax$Reading", "read", "()V"⟩
abbrev yR_begin : MethodName := ⟨"SharedSyntax$Reading", "begin", "(I)I"⟩
abbrev yR_take : MethodName := ⟨"SharedSyntax$Reading", "take", "()V"⟩
abbrev yR_skip : MethodName := ⟨"SharedSyntax$Reading", "skip", "()V"⟩
abbrev yR_miss : MethodName := ⟨"SharedSyntax$Reading", "miss", "(II)V"⟩
abbrev yR_expect : MethodName := ⟨"SharedSyntax$Reading", "expect", "(I)V"⟩
abbrev yR_list : MethodName := ⟨"SharedSyntax$Reading", "list", "(I)V"⟩
abbrev yR_listEnds : MethodName := ⟨"SharedSyntax$Reading", "listEnds", "(I)Z"⟩
abbrev yR_statementFollows : MethodName := ⟨"SharedSyntax$Reading", "statementFollows", "(I)Z"⟩
abbrev yR_canBegin : MethodName := ⟨"SharedSyntax$Reading", "canBegin", "(I)Z"⟩
abbrev yR_statement : MethodName := ⟨"SharedSyntax$Reading", "statement", "(I)V"⟩
abbrev yR_emptyStatement : MethodName := ⟨"SharedSyntax$Reading", "emptyStatement", "()V"⟩
abbrev yR_block : MethodName := ⟨"SharedSyntax$Reading", "block", "(I)V"⟩
abbrev yR_ifStatement : MethodName := ⟨"SharedSyntax$Reading", "ifStatement", "(I)V"⟩
abbrev yR_whileStatement : MethodName := ⟨"SharedSyntax$Reading", "whileStatement", "(I)V"⟩
abbrev yR_simpleStatement : MethodName := ⟨"SharedSyntax$Reading", "simpleStatement", "()V"⟩
abbrev yR_condition : MethodName := ⟨"SharedSyntax$Reading", "condition", "()V"⟩
abbrev yR_part : MethodName := ⟨"SharedSyntax$Reading", "part", "(I)V"⟩
abbrev yR_expression : MethodName := ⟨"SharedSyntax$Reading", "expression", "(I)V"⟩
abbrev yR_closeSigns : MethodName := ⟨"SharedSyntax$Reading", "closeSigns", "(III)I"⟩
abbrev yR_openSign : MethodName := ⟨"SharedSyntax$Reading", "openSign", "(II)V"⟩
abbrev yR_bindingOf : MethodName := ⟨"SharedSyntax$Reading", "bindingOf", "(I)I"⟩
abbrev yR_operand : MethodName := ⟨"SharedSyntax$Reading", "operand", "(I)V"⟩
abbrev yR_parentheses : MethodName := ⟨"SharedSyntax$Reading", "parentheses", "(I)V"⟩
abbrev yR_negative : MethodName := ⟨"SharedSyntax$Reading", "negative", "(I)V"⟩
abbrev yK_init : MethodName := ⟨"SharedSyntax$Tokens", "<init>", "(LSharedSyntax$Letters;)V"⟩
abbrev yK_kind : MethodName := ⟨"SharedSyntax$Tokens", "kind", "()I"⟩
abbrev yK_own : MethodName := ⟨"SharedSyntax$Tokens", "own", "()I"⟩
abbrev yK_end : MethodName := ⟨"SharedSyntax$Tokens", "end", "()I"⟩
abbrev yK_advance : MethodName := ⟨"SharedSyntax$Tokens", "advance", "()V"⟩
abbrev yK_cut : MethodName := ⟨"SharedSyntax$Tokens", "cut", "()V"⟩
abbrev yK_behindBlanks : MethodName := ⟨"SharedSyntax$Tokens", "behindBlanks", "(I)I"⟩
abbrev yK_behindOwn : MethodName := ⟨"SharedSyntax$Tokens", "behindOwn", "(I)I"⟩
abbrev yK_kindOf : MethodName := ⟨"SharedSyntax$Tokens", "kindOf", "(II)I"⟩
abbrev yK_wordKind : MethodName := ⟨"SharedSyntax$Tokens", "wordKind", "(II)I"⟩
abbrev yK_spells : MethodName := ⟨"SharedSyntax$Tokens", "spells", "(IILjava/lang/String;)Z"⟩
abbrev yK_signKind : MethodName := ⟨"SharedSyntax$Tokens", "signKind", "(I)I"⟩
abbrev yK_isSmallLetter : MethodName := ⟨"SharedSyntax$Tokens", "isSmallLetter", "(I)Z"⟩
abbrev yK_isDigit : MethodName := ⟨"SharedSyntax$Tokens", "isDigit", "(I)Z"⟩
abbrev yT_init : MethodName := ⟨"SharedSyntax$Tree", "<init>", "(LSharedSyntax$Letters;)V"⟩
abbrev yT_clear : MethodName := ⟨"SharedSyntax$Tree", "clear", "()V"⟩
abbrev yT_add : MethodName := ⟨"SharedSyntax$Tree", "add", "(III)I"⟩
abbrev yT_addFault : MethodName := ⟨"SharedSyntax$Tree", "addFault", "(II)V"⟩
abbrev yT_wrap : MethodName := ⟨"SharedSyntax$Tree", "wrap", "(II)V"⟩
abbrev yT_shift : MethodName := ⟨"SharedSyntax$Tree", "shift", "([II)V"⟩
abbrev yT_close : MethodName := ⟨"SharedSyntax$Tree", "close", "(I)V"⟩
abbrev yT_finish : MethodName := ⟨"SharedSyntax$Tree", "finish", "()V"⟩
abbrev yT_has : MethodName := ⟨"SharedSyntax$Tree", "has", "(I)Z"⟩
abbrev yT_isLeaf : MethodName := ⟨"SharedSyntax$Tree", "isLeaf", "(I)Z"⟩
abbrev yT_isStatement : MethodName := ⟨"SharedSyntax$Tree", "isStatement", "(I)Z"⟩
abbrev yT_isMissing : MethodName := ⟨"SharedSyntax$Tree", "isMissing", "(I)Z"⟩
abbrev yT_stretchOf : MethodName := ⟨"SharedSyntax$Tree", "stretchOf", "(I)I"⟩
abbrev yT_faultsIn : MethodName := ⟨"SharedSyntax$Tree", "faultsIn", "(I)I"⟩
abbrev yT_ownPlaceOf : MethodName := ⟨"SharedSyntax$Tree", "ownPlaceOf", "(I)I"⟩
abbrev yT_childrenOf : MethodName := ⟨"SharedSyntax$Tree", "childrenOf", "(I)I"⟩
abbrev yT_childOf : MethodName := ⟨"SharedSyntax$Tree", "childOf", "(II)I"⟩
abbrev yT_parentOf : MethodName := ⟨"SharedSyntax$Tree", "parentOf", "(I)I"⟩
abbrev yT_leafAt : MethodName := ⟨"SharedSyntax$Tree", "leafAt", "(I)I"⟩
abbrev yT_leafCount : MethodName := ⟨"SharedSyntax$Tree", "leafCount", "()I"⟩
abbrev yT_differentCount : MethodName := ⟨"SharedSyntax$Tree", "differentCount", "()I"⟩
abbrev yT_isFirstOfItsLike : MethodName := ⟨"SharedSyntax$Tree", "isFirstOfItsLike", "(I)Z"⟩
abbrev yT_matches : MethodName := ⟨"SharedSyntax$Tree", "matches", "(ILSharedSyntax$Tree;I)Z"⟩
abbrev yT_sameNode : MethodName := ⟨"SharedSyntax$Tree", "sameNode", "(ILSharedSyntax$Tree;I)Z"⟩
abbrev yT_sameLetters : MethodName := ⟨"SharedSyntax$Tree", "sameLetters", "(ILSharedSyntax$Tree;I)Z"⟩
abbrev yT_sameFaults : MethodName := ⟨"SharedSyntax$Tree", "sameFaults", "(ILSharedSyntax$Tree;I)Z"⟩
/-- the words that every contract has: all of the tables that are good for it -/
def TB : List Cond := lw_tbl.filter goodWord
theorem tb_in {w : Cond} (h : w ∈ tables_1) (g : goodWord w = true) : w ∈ TB := List.mem_filter.mpr ⟨List.mem_append_right _ h, g⟩
theorem tb_sel {q : MethodName × Nat} (h : q ∈ lw_privs) : Cond.selects q.1.cls q.1 q.1 ∈ TB := List.mem_filter.mpr ⟨List.mem_append_left _ (List.mem_map.mpr ⟨q, h, rfl⟩), rfl⟩
theorem tb_good {c w : Cond} (h : w ∈ TB) : GoodIn (c :: TB) (w :: TB) := by
  have key : ∀ v ∈ TB, v ∈ c :: TB ∧ ((v.onTables && v.keeps) = true ∨ ∃ ty, v = .arrayClass ty) := fun v hv => ⟨List.mem_cons_of_mem _ hv, good_of_word (List.mem_filter.mp hv).2⟩
  intro v hv
  rcases List.mem_cons.mp hv with e | hv
  · rw [e]
    exact key w h
  · exact key v hv
end
section
/-! own rows: pure states, and the walk's bundle (used by the texts that lift.py writes) -/
abbrev jS : Type := (Nat → Int32) × (Nat → Nat → Int32)
def jgI (s : jS) (k : Nat) : Int32 := s.1 k
def jgA (s : jS) (a i : Nat) : Int32 := s.2 a i
def jsI (s : jS) (k : Nat) (v : Int32) : jS := (fun j => if j = k then v else s.1 j, s.2)
def jsF (s : jS) (a : Nat) (f : Nat → Int32) : jS := (s.1, fun b => if b = a then f else s.2 b)
def jsA (s : jS) (a i : Nat) (v : Int32) : jS := jsF s a (upd (jgA s a) i v)
def jIn (i : Int32) (n : Nat) : Bool := decide (0 ≤ i.toInt) && decide (i.toInt < (n : Int))
def jBo (v : Int32) : Bool := decide (v = 0) || decide (v = 1)
def jCh (v : Int32) : Bool := decide (0 ≤ v.toInt) && decide (v.toInt < 65536)
def jB {σ ρ : Type} (x : Option (Int32 × σ)) (k : Int32 → σ → Option ρ) : Option ρ := match x with
  | none => none
  | some q => k q.1 q.2
theorem jB_some {σ ρ : Type} {x : Option (Int32 × σ)} {k : Int32 → σ → Option ρ} {z : ρ} (h : jB x k = some z) : ∃ (r : Int32) (s : σ), x = some (r, s) ∧ k r s = some z := by
  cases x with
  | none => cases h
  | some q => exact ⟨q.1, q.2, rfl, h⟩
theorem jIn_vp {i : Int32} {n : Nat} (h : jIn i n = true) : vp_in i n := by
  simp only [jIn, Bool.and_eq_true, decide_eq_true_eq] at h
  exact vp_in_iff.mpr h
theorem jC_in {α : Type} {i : Int32} {n : Nat} {x : Option α} {z : α} (h : (if jIn i n = true then x else none) = some z) : vp_in i n ∧ x = some z := by
  by_cases c : jIn i n = true
  · rw [if_pos c] at h
    exact ⟨jIn_vp c, h⟩
  · rw [if_neg c] at h
    cases h
theorem jC_b {α : Type} {b : Bool} {x : Option α} {z : α} (h : (if b = true then x else none) = some z) : b = true ∧ x = some z := by
  by_cases c : b = true
  · rw [if_pos c] at h
    exact ⟨c, h⟩
  · rw [if_neg c] at h
    cases h
theorem jif_t {α : Type} {c : Prop} [Decidable c] {a b z : α} (h : c) (e : (if c then a else b) = z) : a = z := by rw [if_pos h] at e; exact e
theorem jif_f {α : Type} {c : Prop} [Decidable c] {a b z : α} (h : ¬ c) (e : (if c then a else b) = z) : b = z := by rw [if_neg h] at e; exact e
theorem jBo_n {v : Int32} (h : jBo v = true) : narrow .boolean (.int v) = .int v := by
  simp only [jBo, Bool.or_eq_true, decide_eq_true_eq] at h
  rcases h with rfl | rfl <;> decide +kernel
/-- the world, its frame, what has been written -/
def jcx (D : va_G) (cl : List vw_C) (A : Nat → Prop) (H0 : Heap) (w : va_W) (H : Heap) (locs : List Loc) : Prop := va_P D cl w H ∧ va_D A w ∧ va_S A H0 H locs
/-- words of the tables that don't stand in a contract's list: links to a nest mate's private members -/
def jnw (NW : List Cond) (U : State) : Prop := ∀ w ∈ NW, va_Nw w U
def jNest : Cond → Bool
  | .fieldLinkNest .. => true
  | .methodLinkNest .. => true
  | _ => false
theorem jnw.warm {NW : List Cond} (hN : NW.all jNest = true) {s U : State} (hW : s.WarmedH U.vm) (h : jnw NW s) : jnw NW U := by
  intro w hw
  have h1 := List.all_eq_true.mp hN w hw
  have h2 := h w hw
  cases w <;> first | exact va_Nw.warmF hW h2 | exact va_Nw.warmM hW h2 | (simp [jNest] at h1)
theorem jnw.same {NW : List Cond} (hN : NW.all jNest = true) {u U : State} (hv : u.vm = U.vm) (h : jnw NW u) : jnw NW U := by
  intro w hw
  have h1 := List.all_eq_true.mp hN w hw
  have h2 := h w hw
  cases w <;> first | exact va_Nw.same rfl hv h2 | (simp [jNest] at h1)
def jPc (D : va_G) (cl : List vw_C) (tys : List (ClassId × FieldType)) (NW : List Cond) (av : List Value) (w : va_W) (sz : Nat) : Array Value → State → Prop := va_Pc av (fun U => U.heap.size = sz ∧ va_P D cl w U.heap ∧ va_K D cl tys U ∧ va_D (fun _ => True) w ∧ jnw NW U)
def jQi (D : va_G) (cl : List vw_C) (tys : List (ClassId × FieldType)) (w w' : va_W) (sz : Nat) (r : Int32) : Array Value → State → Outcome → State → Prop := va_Qi (fun (x : Int32) (_ : Unit) => x = r) (fun _ t => va_P D cl w' t.heap ∧ va_K D cl tys t ∧ va_D (va_A w sz) w') (va_A w sz)
def jQv (D : va_G) (cl : List vw_C) (tys : List (ClassId × FieldType)) (w w' : va_W) (sz : Nat) : Array Value → State → Outcome → State → Prop := va_Qv (fun (_ : Unit) => True) (fun _ t => va_P D cl w' t.heap ∧ va_K D cl tys t ∧ va_D (va_A w sz) w') (va_A w sz)
/-- a contract: the method turns the world w into w', and answers r -/
def Ci (l : Launch) (y : MethodName) (ws : List Cond) (rm : Room) (D : va_G) (cl : List vw_C) (tys : List (ClassId × FieldType)) (NW : List Cond) (av : List Value) (w w' : va_W) (r : Int32) : Prop := ∀ sz : Nat, Met l y ws rm (jPc D cl tys NW av w sz) (jQi D cl tys w w' sz r) 0 0 (va_A w sz)
def Cv (l : Launch) (y : MethodName) (ws : List Cond) (rm : Room) (D : va_G) (cl : List vw_C) (tys : List (ClassId × FieldType)) (NW : List Cond) (av : List Value) (w w' : va_W) : Prop := ∀ sz : Nat, Met l y ws rm (jPc D cl tys NW av w sz) (jQv D cl tys w w' sz) 0 0 (va_A w sz)
def jFx (p : Program) (s : State) (m : MethodId) (args : Array Value) (meth : Method) (c : Code) (cc : ByteArray) (nL : Nat) (ret : Option FieldType) (ws : List Cond) (own : String) : Prop :=
  p.tables.exec = Jvm.exec ∧ c.code = cc ∧ c.maxLocals = nL ∧ s.vm.findClass own = some m.cls ∧ (∀ w ∈ ws, w.before args s = true) ∧ meth.sig.returnType = ret ∧ meth.locks = false
section JW
variable {l : Launch} {y : MethodName} {ws ws' : List Cond} {rm : Room} {D : va_G} {cl : List vw_C} {tys : List (ClassId × FieldType)} {NW : List Cond} {av : List Value} {w w' : va_W} {r : Int32} {cc : ByteArray} {maxL : Nat} {ret : Option FieldType}
theorem Ci_of (hy : plainName y.cls = true) (hw : ws = Cond.code y cc maxL ret :: ws') (hlen : (lg_sl av).length ≤ maxL)
    (body : ∀ (p : Program) (e : Env) (s : State) (m : MethodId) (below : List Frame) (meth : Method) (c : Code) (ls : Array Slot), jFx p s m av.toArray meth c cc maxL ret ws y.cls → lv_has ls maxL (lv_args 0 av) → va_K D cl tys s → jnw NW s → jcx D cl (va_A w s.heap.size) s.heap w s.heap [] →
      W p l e rm s m av.toArray below meth c s.heap [] 0 0 (MQ below (jQi D cl tys w w' s.heap.size r) av.toArray s 0 0 (va_A w s.heap.size)) (F0 m 0 ls [])) : Ci l y ws rm D cl tys NW av w w' r := by
  intro sz
  refine Met.ofW (cc := cc) (maxL := maxL) (ret := ret) hy hw ?_
  intro p e s m args below meth c s₁ B hml hv
  obtain ⟨rfl, hsz, hP, hK, hD0, hN⟩ := hv
  subst hsz
  have hl := lv_entry av (n := maxL) hlen
  rw [lg_entry_eq]
  exact body p e s m below meth c _ ⟨B.exec, B.bytes, hml, findClass_of_methodNamed B.named, atoms_spec (ws := ws) B.pre, B.returns, B.notSynchronized⟩ hl hK hN ⟨hP, hD0.self, va_S.rf⟩
theorem Cv_of (hy : plainName y.cls = true) (hw : ws = Cond.code y cc maxL ret :: ws') (hlen : (lg_sl av).length ≤ maxL)
    (body : ∀ (p : Program) (e : Env) (s : State) (m : MethodId) (below : List Frame) (meth : Method) (c : Code) (ls : Array Slot), jFx p s m av.toArray meth c cc maxL ret ws y.cls → lv_has ls maxL (lv_args 0 av) → va_K D cl tys s → jnw NW s → jcx D cl (va_A w s.heap.size) s.heap w s.heap [] →
      W p l e rm s m av.toArray below meth c s.heap [] 0 0 (MQ below (jQv D cl tys w w' s.heap.size) av.toArray s 0 0 (va_A w s.heap.size)) (F0 m 0 ls [])) : Cv l y ws rm D cl tys NW av w w' := by
  intro sz
  refine Met.ofW (cc := cc) (maxL := maxL) (ret := ret) hy hw ?_
  intro p e s m args below meth c s₁ B hml hv
  obtain ⟨rfl, hsz, hP, hK, hD0, hN⟩ := hv
  subst hsz
  have hl := lv_entry av (n := maxL) hlen
  rw [lg_entry_eq]
  exact body p e s m below meth c _ ⟨B.exec, B.bytes, hml, findClass_of_methodNamed B.named, atoms_spec (ws := ws) B.pre, B.returns, B.notSynchronized⟩ hl hK hN ⟨hP, hD0.self, va_S.rf⟩
end JW
section JR
variable {p : Program} {l : Launch} {e : Env} {R : Room} {s : State} {m : MethodId} {args : Array Value} {below : List Frame} {meth : Method} {c : Code} {H : Heap} {locs : List Loc} {cells slots : Nat} {Q : State → Prop}
variable {cc : ByteArray} {pc : Nat} {ls : Array Slot} {rest : List Value} {D : va_G} {cl : List vw_C} {A : Nat → Prop} {tys : List (ClassId × FieldType)} {w w' : va_W} {H0 : Heap} {r : Int32}
theorem jret_i (hx : p.tables.exec = Jvm.exec) (hb : c.code = cc) (hr : meth.sig.returnType = some .int) (hlk : meth.locks = false) (hC : jcx D cl (va_A w s.heap.size) s.heap w' H locs) (hK : va_K D cl tys s) (hdg : decode cc pc = .ok (.ireturn, 1)) :
    W p l e R s m args below meth c H locs 0 0 (MQ below (jQi D cl tys w w' s.heap.size r) args s 0 0 (va_A w s.heap.size)) (F0 m pc ls [.int r]) :=
  W.iret hx hb hr (fun t ht hW => ⟨⟨r, (), rfl, rfl, by rw [ht]; exact hC.1, va_K.moved hW.alike hK, hC.2.1⟩, hC.2.2.F ht⟩) hC.2.2.2.2 hdg hlk
theorem jret_z {ty : FieldType} (hx : p.tables.exec = Jvm.exec) (hb : c.code = cc) (hr : meth.sig.returnType = some ty) (hn : narrow ty (.int r) = .int r) (hlk : meth.locks = false) (hC : jcx D cl (va_A w s.heap.size) s.heap w' H locs) (hK : va_K D cl tys s) (hdg : decode cc pc = .ok (.ireturn, 1)) :
    W p l e R s m args below meth c H locs 0 0 (MQ below (jQi D cl tys w w' s.heap.size r) args s 0 0 (va_A w s.heap.size)) (F0 m pc ls [.int r]) :=
  W.zret hx hb hr hn (fun t ht hW => ⟨⟨r, (), rfl, rfl, by rw [ht]; exact hC.1, va_K.moved hW.alike hK, hC.2.1⟩, hC.2.2.F ht⟩) hC.2.2.2.2 hdg hlk
theorem jret_v (hx : p.tables.exec = Jvm.exec) (hb : c.code = cc) (hr : meth.sig.returnType = none) (hlk : meth.locks = false) (hC : jcx D cl (va_A w s.heap.size) s.heap w' H locs) (hK : va_K D cl tys s) (hdg : decode cc pc = .ok (.return_, 1)) :
    W p l e R s m args below meth c H locs 0 0 (MQ below (jQv D cl tys w w' s.heap.size) args s 0 0 (va_A w s.heap.size)) (F0 m pc ls []) :=
  W.vret hx hb hr (fun t ht hW => ⟨⟨(), rfl, trivial, by rw [ht]; exact hC.1, va_K.moved hW.alike hK, hC.2.1⟩, hC.2.2.F ht⟩) hC.2.2.2.2 hdg hlk
theorem jast_i {a : Nat} (hx : p.tables.exec = Jvm.exec) (hb : c.code = cc) (hK : va_K D cl tys s) (hC : jcx D cl A H0 w H locs) (q0 t0 : Nat) {cA : ClassId} {n : Nat} {f : Nat → Int32} (ha : w[q0]? = some (a, .inl (cA, n, .inl f))) (ht : tys[t0]? = some (cA, .int)) {i x : Int32} (hin : vp_in i n) (hdg : decode cc pc = .ok (.iastore, 1)) (hw : w.set q0 (a, .inl (cA, n, .inl (upd f i.toNatClampNeg x))) = w')
    (kk : ∀ (H1 : Heap) (locs1 : List Loc), jcx D cl A H0 w' H1 locs1 → W p l e R s m args below meth c H1 locs1 cells slots Q (F0 m (pc + 1) ls rest)) : W p l e R s m args below meth c H locs cells slots Q (F0 m pc ls (.int x :: .int i :: .ref a :: rest)) := by
  subst hw
  exact va_iast hx hb hK hC.1 hC.2.1 hC.2.2 q0 t0 ha ht hin hdg (fun H1 locs1 h1 h2 h3 => kk H1 locs1 ⟨h1, h2, h3⟩)
theorem jast_c {a : Nat} (hx : p.tables.exec = Jvm.exec) (hb : c.code = cc) (hK : va_K D cl tys s) (hC : jcx D cl A H0 w H locs) (q0 t0 : Nat) {cA : ClassId} {n : Nat} {f : Nat → Int32} (ha : w[q0]? = some (a, .inl (cA, n, .inl f))) (ht : tys[t0]? = some (cA, .char)) {i x : Int32} (hin : vp_in i n) (hdg : decode cc pc = .ok (.castore, 1)) (hw : w.set q0 (a, .inl (cA, n, .inl (upd f i.toNatClampNeg (vp_nar .char x)))) = w')
    (kk : ∀ (H1 : Heap) (locs1 : List Loc), jcx D cl A H0 w' H1 locs1 → W p l e R s m args below meth c H1 locs1 cells slots Q (F0 m (pc + 1) ls rest)) : W p l e R s m args below meth c H locs cells slots Q (F0 m pc ls (.int x :: .int i :: .ref a :: rest)) := by
  subst hw
  exact va_cast hx hb hK hC.1 hC.2.1 hC.2.2 q0 t0 ha ht hin hdg (fun H1 locs1 h1 h2 h3 => kk H1 locs1 ⟨h1, h2, h3⟩)
theorem jput {a : Nat} (hx : p.tables.exec = Jvm.exec) (hb : c.code = cc) {own ref C : String} {T : u_T} {N ci index : Nat} {Ts : List Cond} (hts : ∀ w ∈ Ts, w.before args s = true) (hin : ∀ w ∈ u_ws C T N, w ∈ Ts) (ty0 : Nat → FieldType) (hty : ∀ k, k < N → parseFieldDescriptor (T k).2.2.1 = some (ty0 k)) (hnm : ∀ a, a < N → ∀ b, b < N → a ≠ b → (T a).2.1 ≠ (T b).2.1) (hown : s.vm.findClass own = some m.cls) (hK : va_K D cl tys s) (hC : jcx D cl A H0 w H locs) (q0 : Nat) {fs : List Value} (he : w[q0]? = some (a, .inr (ci, fs))) (hc : cl[ci]? = some (C, T, N)) (k : Nat) (hk : k < N) (hlink : (Cond.fieldLink own index ref (T k).2.1 (T k).2.2.1).before args s = true) (hsame : ∀ x, s.fieldFound? (T k).1 (T k).2.1 (T k).2.2.1 = some x → s.fieldFound? ref (T k).2.1 (T k).2.2.1 = some x) (hfin : (T k).2.2.2 = false) {v : Int32} (hd : parseFieldDescriptor (T k).2.2.1 = some .int) (hl : k < fs.length)
    (hdg : decode cc pc = .ok (.putfield index, 3)) (hw : w.set q0 (a, .inr (ci, fs.set k (.int v))) = w') (kk : ∀ (H1 : Heap) (locs1 : List Loc), jcx D cl A H0 w' H1 locs1 → W p l e R s m args below meth c H1 locs1 cells slots Q (F0 m (pc + 3) ls rest)) : W p l e R s m args below meth c H locs cells slots Q (F0 m pc ls (.int v :: .ref a :: rest)) := by
  subst hw
  exact va_put hx hb hts hin ty0 hty hnm hown hK hC.1 hC.2.1 hC.2.2 q0 he hc k hk hlink hsame hfin hd rfl rfl hl hdg (fun H1 locs1 h1 h2 h3 => kk H1 locs1 ⟨h1, h2, h3⟩)
theorem jputN {a : Nat} (hx : p.tables.exec = Jvm.exec) (hb : c.code = cc) {own ref C host : String} {T : u_T} {N ci index : Nat} {Ts : List Cond} (hts : ∀ w ∈ Ts, w.before args s = true) (hin : ∀ w ∈ u_ws C T N, w ∈ Ts) (ty0 : Nat → FieldType) (hty : ∀ k, k < N → parseFieldDescriptor (T k).2.2.1 = some (ty0 k)) (hnm : ∀ a, a < N → ∀ b, b < N → a ≠ b → (T a).2.1 ≠ (T b).2.1) (hown : s.vm.findClass own = some m.cls) (hK : va_K D cl tys s) (hC : jcx D cl A H0 w H locs) (q0 : Nat) {fs : List Value} (he : w[q0]? = some (a, .inr (ci, fs))) (hc : cl[ci]? = some (C, T, N)) (k : Nat) (hk : k < N) (hlink : (Cond.fieldLinkNest own index ref (T k).2.1 (T k).2.2.1 host).before args s = true) (hsame : ∀ x, s.fieldFound? (T k).1 (T k).2.1 (T k).2.2.1 = some x → s.fieldFound? ref (T k).2.1 (T k).2.2.1 = some x) (hfin : (T k).2.2.2 = false) {v : Int32} (hd : parseFieldDescriptor (T k).2.2.1 = some .int) (hl : k < fs.length)
    (hdg : decode cc pc = .ok (.putfield index, 3)) (hw : w.set q0 (a, .inr (ci, fs.set k (.int v))) = w') (kk : ∀ (H1 : Heap) (locs1 : List Loc), jcx D cl A H0 w' H1 locs1 → W p l e R s m args below meth c H1 locs1 cells slots Q (F0 m (pc + 3) ls rest)) : W p l e R s m args below meth c H locs cells slots Q (F0 m pc ls (.int v :: .ref a :: rest)) := by
  subst hw
  exact va_putN hx hb hts hin ty0 hty hnm hown hK hC.1 hC.2.1 hC.2.2 q0 he hc k hk hlink hsame hfin hd rfl rfl hl hdg (fun H1 locs1 h1 h2 h3 => kk H1 locs1 ⟨h1, h2, h3⟩)
end JR
def jCp (sp dp n : Int32) (L : Nat) : Bool := decide (¬ sp < 0) && decide (¬ dp < 0) && decide (¬ n < 0) && decide (sp.toNatClampNeg + n.toNatClampNeg ≤ L) && decide (dp.toNatClampNeg + n.toNatClampNeg ≤ L)
theorem jCp_s {sp dp n : Int32} {L : Nat} (h : jCp sp dp n L = true) : ¬ sp < 0 ∧ ¬ dp < 0 ∧ ¬ n < 0 ∧ sp.toNatClampNeg + n.toNatClampNeg ≤ L ∧ dp.toNatClampNeg + n.toNatClampNeg ≤ L := by
  simp only [jCp, Bool.and_eq_true, decide_eq_true_eq] at h
  exact ⟨h.1.1.1.1, h.1.1.1.2, h.1.1.2, h.1.2, h.2⟩
section JC
variable {p : Program} {l : Launch} {e : Env} {R : Room} {s : State} {m : MethodId} {args : Array Value} {below : List Frame} {meth : Method} {c : Code} {H : Heap} {locs : List Loc} {cells slots : Nat} {Q : State → Prop}
variable {cc : ByteArray} {pc : Nat} {ls : Array Slot} {rest st0 : List Value} {D : va_G} {cl : List vw_C} {A : Nat → Prop} {tys : List (ClassId × FieldType)} {w w' : va_W} {H0 : Heap} {r : Int32} {NW : List Cond} {a : Array Value}
theorem jfree (hC : jcx D cl A H0 w H locs) (hA : ∀ q, H0.size ≤ q → A q) : ∀ q, va_A w H.size q → A q := fun q h => by
  rcases h with ⟨k, e, h⟩ | h
  · exact hC.2.1.2 k (q, e) h
  · exact hA q (Nat.le_trans hC.2.2.1 h)
theorem jcall_i (hr : va_Run p l e R s m args below meth c H locs cells slots 0 0 (F0 m pc ls st0) rest (jQi D cl tys w w' H.size r a) (va_A w H.size)) (hC : jcx D cl A H0 w H locs) (hA : ∀ q, H0.size ≤ q → A q)
    (kk : ∀ (H1 : Heap) (locs1 : List Loc), jcx D cl A H0 w' H1 locs1 → W p l e R s m args below meth c H1 locs1 cells slots Q (F0 m (pc + 3) ls (.int r :: rest))) : W p l e R s m args below meth c H locs cells slots Q (F0 m pc ls st0) := by
  have hF := jfree hC hA
  refine va_calli (A1 := va_A w H.size) hr hC.2.2 (fun q _ h => hF q h) hF (fun x u t H1 locs1 ht hvm hp hB hz hk hS => ?_)
  obtain ⟨hP1, hK1, hD1⟩ := hB
  have hp : x = r := hp
  rw [ht] at hP1
  rw [hp]
  exact kk H1 locs1 ⟨hP1, hD1.weaken (fun k q _ h => hF q.1 h), hS⟩
theorem jcall_v (hr : va_Run p l e R s m args below meth c H locs cells slots 0 0 (F0 m pc ls st0) rest (jQv D cl tys w w' H.size a) (va_A w H.size)) (hC : jcx D cl A H0 w H locs) (hA : ∀ q, H0.size ≤ q → A q)
    (kk : ∀ (H1 : Heap) (locs1 : List Loc), jcx D cl A H0 w' H1 locs1 → W p l e R s m args below meth c H1 locs1 cells slots Q (F0 m (pc + 3) ls rest)) : W p l e R s m args below meth c H locs cells slots Q (F0 m pc ls st0) := by
  have hF := jfree hC hA
  refine va_callv (A1 := va_A w H.size) hr hC.2.2 (fun q _ h => hF q h) hF (fun u t H1 locs1 ht hvm hp hB hz hk hS => ?_)
  obtain ⟨hP1, hK1, hD1⟩ := hB
  rw [ht] at hP1
  exact kk H1 locs1 ⟨hP1, hD1.weaken (fun k q _ h => hF q.1 h), hS⟩
theorem jblind (hNW : NW.all jNest = true) (av : List Value) (sz : Nat) : FrameBlind (jPc D cl tys NW av w sz) := by
  intro a U g mk q
  obtain ⟨q0, q1, qP, qK, qD, qN⟩ := q
  exact ⟨q0, q1, qP, va_K.moved (u := U) (U := U.calling g mk a) (Vm.Alike.refl U.vm) qK, qD, jnw.same (u := U) (U := U.calling g mk a) hNW rfl qN⟩
theorem jpre (hNW : NW.all jNest = true) (hC : jcx D cl A H0 w H locs) (hK : va_K D cl tys s) (hN : jnw NW s) (av : List Value) : ∀ U : State, U.heap = H → s.WarmedH U.vm → jPc D cl tys NW av w H.size av.toArray U :=
  fun U hU hW => ⟨rfl, by rw [hU], by rw [hU]; exact hC.1, va_K.moved hW.alike hK, hC.2.1.weaken (fun _ _ _ _ => trivial), jnw.warm hNW hW hN⟩
theorem jpreV (hNW : NW.all jNest = true) (hC : jcx D cl A H0 w H locs) (hK : va_K D cl tys s) (hN : jnw NW s) {b q0 ci : Nat} {fs : List Value} {qc : vw_C} {C : String} (he : w[q0]? = some (b, .inr (ci, fs))) (hc : cl[ci]? = some qc) (hCn : qc.1 = C) (As : List Value) : PreV s H C b (jPc D cl tys NW (.ref b :: As) w H.size) As := by
  subst hCn
  exact ⟨jblind hNW _ _, va_recv hK hC.1 hc he, jpre hNW hC hK hN _⟩
theorem jpreS (hNW : NW.all jNest = true) (hC : jcx D cl A H0 w H locs) (hK : va_K D cl tys s) (hN : jnw NW s) (As : List Value) : PreS s H (jPc D cl tys NW As w H.size) As := ⟨jblind hNW _ _, jpre hNW hC hK hN _⟩
theorem jcopy {a : Nat} (hx : p.tables.exec = Jvm.exec) (hb : c.code = cc) (hml : c.maxLocals = ls.size) {own : String} {index : Nat} (hown : s.vm.findClass own = some m.cls) (hlink : (Cond.methodLink own index arraycopyName).before args s = true) (hnat : (Cond.native arraycopyName).before args s = true) (hstat : (Cond.static arraycopyName).before args s = true) (hini : (Cond.initialized "java/lang/System").before args s = true)
    (hK : va_K D cl tys s) (hC : jcx D cl A H0 w H locs) (q0 t0 : Nat) {cA : ClassId} {n0 : Nat} {f : Nat → Int32} (ha : w[q0]? = some (a, .inl (cA, n0, .inl f))) (ht : tys[t0]? = some (cA, .int)) {sp dp n : Int32} (h1 : ¬ sp < 0) (h2 : ¬ dp < 0) (h3 : ¬ n < 0) (h4 : sp.toNatClampNeg + n.toNatClampNeg ≤ n0) (h5 : dp.toNatClampNeg + n.toNatClampNeg ≤ n0)
    (hframes : 1 ≤ R.frames) (hlocals : (rest.map fun v => v.category).sum + (nativeFrameWords "java/lang/System" "arraycopy" 5 + 11) ≤ R.locals) (hdg : decode cc pc = .ok (.invokestatic index, 3)) (hw : w.set q0 (a, .inl (cA, n0, .inl (va_cpy f f sp.toNatClampNeg dp.toNatClampNeg n.toNatClampNeg))) = w')
    (kk : ∀ (H1 : Heap) (locs1 : List Loc), jcx D cl A H0 w' H1 locs1 → W p l e R s m args below meth c H1 locs1 cells slots Q (F0 m (pc + 3) ls rest)) : W p l e R s m args below meth c H locs cells slots Q (F0 m pc ls (.int n :: .int dp :: .ref a :: .int sp :: .ref a :: rest)) := by
  subst hw
  exact va_copyi hx hb hml hown hlink hnat hstat hini hK hC.1 hC.2.1 hC.2.2 q0 q0 t0 t0 ha ha ht ht rfl h1 h2 h3 h4 h5 (fun _ _ => rfl) hframes hlocals hdg (fun H1 locs1 g1 g2 g3 => kk H1 locs1 ⟨g1, g2, g3⟩)
end JC
end
section
/-! words of the tables, by their places -/
theorem tw0 : (Jvm.Cond.initialized "SharedSyntaxLaw") ∈ TB := tb_in (List.mem_of_getElem? (i := 0) (by decide +kernel)) rfl
theorem tw1 : (Jvm.Cond.initialized "SharedSyntax") ∈ TB := tb_in (List.mem_of_getElem? (i := 1) (by decide +kernel)) rfl
theorem tw2 : (Jvm.Cond.initialized "SharedSyntax$Reading") ∈ TB := tb_in (List.mem_of_getElem? (i := 2) (by decide +kernel)) rfl
theorem tw3 : (Jvm.Cond.initialized "SharedSyntax$Letters") ∈ TB := tb_in (List.mem_of_getElem? (i := 3) (by decide +kernel)) rfl
theorem tw4 : (Jvm.Cond.initialized "SharedSyntax$Tree") ∈ TB := tb_in (List.mem_of_getElem? (i := 4) (by decide +kernel)) rfl
theorem tw5 : (Jvm.Cond.initialized "SharedSyntax$Tokens") ∈ TB := tb_in (List.mem_of_getElem? (i := 5) (by decide +kernel)) rfl
theorem tw6 : (Jvm.Cond.initialized "java/lang/String") ∈ TB := tb_in (List.mem_of_getElem? (i := 6) (by decide +kernel)) rfl
theorem tw7 : (Jvm.Cond.initialized "java/lang/StringLatin1") ∈ TB := tb_in (List.mem_of_getElem? (i := 7) (by decide +kernel)) rfl
theorem tw8 : (Jvm.Cond.initialized "jdk/internal/util/Preconditions") ∈ TB := tb_in (List.mem_of_getElem? (i := 8) (by decide +kernel)) rfl
theorem tw9 : (Jvm.Cond.initialized "java/lang/StringUTF16") ∈ TB := tb_in (List.mem_of_getElem? (i := 9) (by decide +kernel)) rfl
theorem tw10 : (Jvm.Cond.initialized "java/lang/Math") ∈ TB := tb_in (List.mem_of_getElem? (i := 10) (by decide +kernel)) rfl
theorem tw11 : (Jvm.Cond.initialized "java/lang/Character") ∈ TB := tb_in (List.mem_of_getElem? (i := 11) (by decide +kernel)) rfl
theorem tw12 : (Jvm.Cond.initialized "java/lang/System") ∈ TB := tb_in (List.mem_of_getElem? (i := 12) (by decide +kernel)) rfl
theorem tw13 : (Jvm.Cond.initialized "SharedSyntax$History") ∈ TB := tb_in (List.mem_of_getElem? (i := 13) (by decide +kernel)) rfl
theorem tw14 : (Jvm.Cond.initialized "SharedSyntaxModel") ∈ TB := tb_in (List.mem_of_getElem? (i := 14) (by decide +kernel)) rfl
theorem tw15 : (Jvm.Cond.classLink "SharedSyntaxLaw" (7 : Nat) "SharedSyntax") ∈ TB := tb_in (List.mem_of_getElem? (i := 15) (by decide +kernel)) rfl
theorem tw16 : (Jvm.Cond.instantiable "SharedSyntax" (6 : Nat)) ∈ TB := tb_in (List.mem_of_getElem? (i := 16) (by decide +kernel)) rfl
theorem tw17 : (Jvm.Cond.methodLink "SharedSyntaxLaw" (9 : Nat) ({ cls := "SharedSyntax", name := "<init>", desc := "()V" } : Jvm.MethodName)) ∈ TB := tb_in (List.mem_of_getElem? (i := 17) (by decide +kernel)) rfl
theorem tw18 : (Jvm.Cond.instanceMethod ({ cls := "SharedSyntax", name := "<init>", desc := "()V" } : Jvm.MethodName)) ∈ TB := tb_in (List.mem_of_getElem? (i := 18) (by decide +kernel)) rfl
theorem tw19 : (Jvm.Cond.code ({ cls := "SharedSyntax", name := "<init>", desc := "()V" } : Jvm.MethodName) prog_1_method_1_code (2 : Nat) (Option.none : Option Jvm.ClassFile.FieldType)) ∈ TB := tb_in (List.mem_of_getElem? (i := 19) (by decide +kernel)) rfl
theorem tw20 : (Jvm.Cond.methodLink "SharedSyntax" (3 : Nat) ({ cls := "java/lang/Object", name := "<init>", desc := "()V" } : Jvm.MethodName)) ∈ TB := tb_in (List.mem_of_getElem? (i := 20) (by decide +kernel)) rfl
theorem tw21 : (Jvm.Cond.instanceMethod ({ cls := "java/lang/Object", name := "<init>", desc := "()V" } : Jvm.MethodName)) ∈ TB := tb_in (List.mem_of_getElem? (i := 21) (by decide +kernel)) rfl
theorem tw22 : (Jvm.Cond.code ({ cls := "java/lang/Object", name := "<init>", desc := "()V" } : Jvm.MethodName) object_method_1_code (1 : Nat) (Option.none : Option Jvm.ClassFile.FieldType)) ∈ TB := tb_in (List.mem_of_getElem? (i := 22) (by decide +kernel)) rfl
theorem tw23 : (Jvm.Cond.classLink "SharedSyntax" (9 : Nat) "SharedSyntax$Reading") ∈ TB := tb_in (List.mem_of_getElem? (i := 23) (by decide +kernel)) rfl
theorem tw24 : (Jvm.Cond.instantiable "SharedSyntax$Reading" (10 : Nat)) ∈ TB := tb_in (List.mem_of_getElem? (i := 24) (by decide +kernel)) rfl
theorem tw25 : (Jvm.Cond.classLink "SharedSyntax" (11 : Nat) "SharedSyntax$Letters") ∈ TB := tb_in (List.mem_of_getElem? (i := 25) (by decide +kernel)) rfl
theorem tw26 : (Jvm.Cond.instantiable "SharedSyntax$Letters" (2 : Nat)) ∈ TB := tb_in (List.mem_of_getElem? (i := 26) (by decide +kernel)) rfl
theorem tw27 : (Jvm.Cond.methodLink "SharedSyntax" (13 : Nat) ({ cls := "SharedSyntax$Letters", name := "<init>", desc := "(I)V" } : Jvm.MethodName)) ∈ TB := tb_in (List.mem_of_getElem? (i := 27) (by decide +kernel)) rfl
theorem tw28 : (Jvm.Cond.instanceMethod ({ cls := "SharedSyntax$Letters", name := "<init>", desc := "(I)V" } : Jvm.MethodName)) ∈ TB := tb_in (List.mem_of_getElem? (i := 28) (by decide +kernel)) rfl
theorem tw29 : (Jvm.Cond.code ({ cls := "SharedSyntax$Letters", name := "<init>", desc := "(I)V" } : Jvm.MethodName) prog_3_method_1_code (2 : Nat) (Option.none : Option Jvm.ClassFile.FieldType)) ∈ TB := tb_in (List.mem_of_getElem? (i := 29) (by decide +kernel)) rfl
theorem tw30 : (Jvm.Cond.methodLink "SharedSyntax$Letters" (1 : Nat) ({ cls := "java/lang/Object", name := "<init>", desc := "()V" } : Jvm.MethodName)) ∈ TB := tb_in (List.mem_of_getElem? (i := 30) (by decide +kernel)) rfl
theorem tw31 : (Jvm.Cond.fieldLink "SharedSyntax$Letters" (7 : Nat) "SharedSyntax$Letters" "row" "[I") ∈ TB := tb_in (List.mem_of_getElem? (i := 31) (by decide +kernel)) rfl
theorem tw32 : (Jvm.Cond.fieldLink "SharedSyntax$Letters" (13 : Nat) "SharedSyntax$Letters" "size" "I") ∈ TB := tb_in (List.mem_of_getElem? (i := 32) (by decide +kernel)) rfl
theorem tw33 : (Jvm.Cond.fieldLinkNest "SharedSyntax$Tokens" (32 : Nat) "SharedSyntax$Letters" "size" "I" "SharedSyntax") ∈ tables_1 := List.mem_of_getElem? (i := 33) (by decide +kernel)
theorem tw34 : (Jvm.Cond.fieldLinkNest "SharedSyntax" (79 : Nat) "SharedSyntax$Letters" "size" "I" "SharedSyntax") ∈ tables_1 := List.mem_of_getElem? (i := 34) (by decide +kernel)
theorem tw35 : (Jvm.Cond.fieldLinkNest "SharedSyntax$Tree" (55 : Nat) "SharedSyntax$Letters" "size" "I" "SharedSyntax") ∈ tables_1 := List.mem_of_getElem? (i := 35) (by decide +kernel)
theorem tw36 : (Jvm.Cond.laysFinal "SharedSyntax$Letters" "SharedSyntax$Letters" "row" "[I") ∈ TB := tb_in (List.mem_of_getElem? (i := 36) (by decide +kernel)) rfl
theorem tw38 : (Jvm.Cond.lays "SharedSyntax$Letters" "SharedSyntax$Letters" "size" "I") ∈ TB := tb_in (List.mem_of_getElem? (i := 38) (by decide +kernel)) rfl
theorem tw41 : (Jvm.Cond.arrayClass Jvm.ClassFile.FieldType.int) ∈ TB := tb_in (List.mem_of_getElem? (i := 41) (by decide +kernel)) rfl
theorem tw42 : (Jvm.Cond.methodLink "SharedSyntax" (16 : Nat) ({ cls := "SharedSyntax$Reading", name := "<init>", desc := "(LSharedSyntax$Letters;)V" } : Jvm.MethodName)) ∈ TB := tb_in (List.mem_of_getElem? (i := 42) (by decide +kernel)) rfl
theorem tw43 : (Jvm.Cond.instanceMethod ({ cls := "SharedSyntax$Reading", name := "<init>", desc := "(LSharedSyntax$Letters;)V" } : Jvm.MethodName)) ∈ TB := tb_in (List.mem_of_getElem? (i := 43) (by decide +kernel)) rfl
theorem tw44 : (Jvm.Cond.code ({ cls := "SharedSyntax$Reading", name := "<init>", desc := "(LSharedSyntax$Letters;)V" } : Jvm.MethodName) prog_4_method_1_code (2 : Nat) (Option.none : Option Jvm.ClassFile.FieldType)) ∈ TB := tb_in (List.mem_of_getElem? (i := 44) (by decide +kernel)) rfl
theorem tw45 : (Jvm.Cond.methodLink "SharedSyntax$Reading" (3 : Nat) ({ cls := "java/lang/Object", name := "<init>", desc := "()V" } : Jvm.MethodName)) ∈ TB := tb_in (List.mem_of_getElem? (i := 45) (by decide +kernel)) rfl
theorem tw46 : (Jvm.Cond.classLink "SharedSyntax$Reading" (15 : Nat) "SharedSyntax$Tree") ∈ TB := tb_in (List.mem_of_getElem? (i := 46) (by decide +kernel)) rfl
theorem tw47 : (Jvm.Cond.instantiable "SharedSyntax$Tree" (9 : Nat)) ∈ TB := tb_in (List.mem_of_getElem? (i := 47) (by decide +kernel)) rfl
theorem tw48 : (Jvm.Cond.methodLink "SharedSyntax$Reading" (17 : Nat) ({ cls := "SharedSyntax$Tree", name := "<init>", desc := "(LSharedSyntax$Letters;)V" } : Jvm.MethodName)) ∈ TB := tb_in (List.mem_of_getElem? (i := 48) (by decide +kernel)) rfl
theorem tw49 : (Jvm.Cond.instanceMethod ({ cls := "SharedSyntax$Tree", name := "<init>", desc := "(LSharedSyntax$Letters;)V" } : Jvm.MethodName)) ∈ TB := tb_in (List.mem_of_getElem? (i := 49) (by decide +kernel)) rfl
theorem tw50 : (Jvm.Cond.code ({ cls := "SharedSyntax$Tree", name := "<init>", desc := "(LSharedSyntax$Letters;)V" } : Jvm.MethodName) prog_6_method_1_code (2 : Nat) (Option.none : Option Jvm.ClassFile.FieldType)) ∈ TB := tb_in (List.mem_of_getElem? (i := 50) (by decide +kernel)) rfl
theorem tw51 : (Jvm.Cond.methodLink "SharedSyntax$Tree" (3 : Nat) ({ cls := "java/lang/Object", name := "<init>", desc := "()V" } : Jvm.MethodName)) ∈ TB := tb_in (List.mem_of_getElem? (i := 51) (by decide +kernel)) rfl
theorem tw52 : (Jvm.Cond.fieldLink "SharedSyntax$Tree" (9 : Nat) "SharedSyntax$Tree" "text" "LSharedSyntax$Letters;") ∈ TB := tb_in (List.mem_of_getElem? (i := 52) (by decide +kernel)) rfl
theorem tw53 : (Jvm.Cond.fieldLink "SharedSyntax$Tree" (15 : Nat) "SharedSyntax$Tree" "kinds" "[I") ∈ TB := tb_in (List.mem_of_getElem? (i := 53) (by decide +kernel)) rfl
theorem tw54 : (Jvm.Cond.fieldLinkNest "SharedSyntax" (95 : Nat) "SharedSyntax$Tree" "kinds" "[I" "SharedSyntax") ∈ tables_1 := List.mem_of_getElem? (i := 54) (by decide +kernel)
theorem tw55 : (Jvm.Cond.fieldLink "SharedSyntax$Tree" (19 : Nat) "SharedSyntax$Tree" "sizes" "[I") ∈ TB := tb_in (List.mem_of_getElem? (i := 55) (by decide +kernel)) rfl
theorem tw56 : (Jvm.Cond.fieldLinkNest "SharedSyntax" (120 : Nat) "SharedSyntax$Tree" "sizes" "[I" "SharedSyntax") ∈ tables_1 := List.mem_of_getElem? (i := 56) (by decide +kernel)
theorem tw57 : (Jvm.Cond.fieldLink "SharedSyntax$Tree" (22 : Nat) "SharedSyntax$Tree" "begins" "[I") ∈ TB := tb_in (List.mem_of_getElem? (i := 57) (by decide +kernel)) rfl
theorem tw58 : (Jvm.Cond.fieldLinkNest "SharedSyntax" (99 : Nat) "SharedSyntax$Tree" "begins" "[I" "SharedSyntax") ∈ tables_1 := List.mem_of_getElem? (i := 58) (by decide +kernel)
theorem tw59 : (Jvm.Cond.fieldLink "SharedSyntax$Tree" (25 : Nat) "SharedSyntax$Tree" "owns" "[I") ∈ TB := tb_in (List.mem_of_getElem? (i := 59) (by decide +kernel)) rfl
theorem tw60 : (Jvm.Cond.fieldLink "SharedSyntax$Tree" (28 : Nat) "SharedSyntax$Tree" "faultsBefore" "[I") ∈ TB := tb_in (List.mem_of_getElem? (i := 60) (by decide +kernel)) rfl
theorem tw61 : (Jvm.Cond.fieldLink "SharedSyntax$Tree" (31 : Nat) "SharedSyntax$Tree" "faults" "[I") ∈ TB := tb_in (List.mem_of_getElem? (i := 61) (by decide +kernel)) rfl
theorem tw62 : (Jvm.Cond.fieldLinkNest "SharedSyntax" (136 : Nat) "SharedSyntax$Tree" "faults" "[I" "SharedSyntax") ∈ tables_1 := List.mem_of_getElem? (i := 62) (by decide +kernel)
theorem tw63 : (Jvm.Cond.fieldLink "SharedSyntax$Tree" (34 : Nat) "SharedSyntax$Tree" "used" "I") ∈ TB := tb_in (List.mem_of_getElem? (i := 63) (by decide +kernel)) rfl
theorem tw64 : (Jvm.Cond.fieldLinkNest "SharedSyntax" (139 : Nat) "SharedSyntax$Tree" "used" "I" "SharedSyntax") ∈ tables_1 := List.mem_of_getElem? (i := 64) (by decide +kernel)
theorem tw65 : (Jvm.Cond.fieldLinkNest "SharedSyntax$Reading" (144 : Nat) "SharedSyntax$Tree" "used" "I" "SharedSyntax") ∈ tables_1 := List.mem_of_getElem? (i := 65) (by decide +kernel)
theorem tw66 : (Jvm.Cond.fieldLink "SharedSyntax$Tree" (38 : Nat) "SharedSyntax$Tree" "faultCount" "I") ∈ TB := tb_in (List.mem_of_getElem? (i := 66) (by decide +kernel)) rfl
theorem tw67 : (Jvm.Cond.fieldLinkNest "SharedSyntax" (133 : Nat) "SharedSyntax$Tree" "faultCount" "I" "SharedSyntax") ∈ tables_1 := List.mem_of_getElem? (i := 67) (by decide +kernel)
theorem tw68 : (Jvm.Cond.laysFinal "SharedSyntax$Tree" "SharedSyntax$Tree" "text" "LSharedSyntax$Letters;") ∈ TB := tb_in (List.mem_of_getElem? (i := 68) (by decide +kernel)) rfl
theorem tw70 : (Jvm.Cond.laysFinal "SharedSyntax$Tree" "SharedSyntax$Tree" "kinds" "[I") ∈ TB := tb_in (List.mem_of_getElem? (i := 70) (by decide +kernel)) rfl
theorem tw72 : (Jvm.Cond.laysFinal "SharedSyntax$Tree" "SharedSyntax$Tree" "sizes" "[I") ∈ TB := tb_in (List.mem_of_getElem? (i := 72) (by decide +kernel)) rfl
theorem tw74 : (Jvm.Cond.laysFinal "SharedSyntax$Tree" "SharedSyntax$Tree" "begins" "[I") ∈ TB := tb_in (List.mem_of_getElem? (i := 74) (by decide +kernel)) rfl
theorem tw76 : (Jvm.Cond.laysFinal "SharedSyntax$Tree" "SharedSyntax$Tree" "owns" "[I") ∈ TB := tb_in (List.mem_of_getElem? (i := 76) (by decide +kernel)) rfl
theorem tw78 : (Jvm.Cond.laysFinal "SharedSyntax$Tree" "SharedSyntax$Tree" "faultsBefore" "[I") ∈ TB := tb_in (List.mem_of_getElem? (i := 78) (by decide +kernel)) rfl
theorem tw80 : (Jvm.Cond.laysFinal "SharedSyntax$Tree" "SharedSyntax$Tree" "faults" "[I") ∈ TB := tb_in (List.mem_of_getElem? (i := 80) (by decide +kernel)) rfl
theorem tw82 : (Jvm.Cond.lays "SharedSyntax$Tree" "SharedSyntax$Tree" "used" "I") ∈ TB := tb_in (List.mem_of_getElem? (i := 82) (by decide +kernel)) rfl
theorem tw84 : (Jvm.Cond.lays "SharedSyntax$Tree" "SharedSyntax$Tree" "faultCount" "I") ∈ TB := tb_in (List.mem_of_getElem? (i := 84) (by decide +kernel)) rfl
theorem tw87 : (Jvm.Cond.classLink "SharedSyntax$Reading" (24 : Nat) "SharedSyntax$Tokens") ∈ TB := tb_in (List.mem_of_getElem? (i := 87) (by decide +kernel)) rfl
theorem tw88 : (Jvm.Cond.instantiable "SharedSyntax$Tokens" (6 : Nat)) ∈ TB := tb_in (List.mem_of_getElem? (i := 88) (by decide +kernel)) rfl
theorem tw89 : (Jvm.Cond.methodLink "SharedSyntax$Reading" (26 : Nat) ({ cls := "SharedSyntax$Tokens", name := "<init>", desc := "(LSharedSyntax$Letters;)V" } : Jvm.MethodName)) ∈ TB := tb_in (List.mem_of_getElem? (i := 89) (by decide +kernel)) rfl
theorem tw90 : (Jvm.Cond.instanceMethod ({ cls := "SharedSyntax$Tokens", name := "<init>", desc := "(LSharedSyntax$Letters;)V" } : Jvm.MethodName)) ∈ TB := tb_in (List.mem_of_getElem? (i := 90) (by decide +kernel)) rfl
theorem tw91 : (Jvm.Cond.code ({ cls := "SharedSyntax$Tokens", name := "<init>", desc := "(LSharedSyntax$Letters;)V" } : Jvm.MethodName) prog_5_method_1_code (2 : Nat) (Option.none : Option Jvm.ClassFile.FieldType)) ∈ TB := tb_in (List.mem_of_getElem? (i := 91) (by decide +kernel)) rfl
theorem tw92 : (Jvm.Cond.methodLink "SharedSyntax$Tokens" (3 : Nat) ({ cls := "java/lang/Object", name := "<init>", desc := "()V" } : Jvm.MethodName)) ∈ TB := tb_in (List.mem_of_getElem? (i := 92) (by decide +kernel)) rfl
theorem tw93 : (Jvm.Cond.fieldLink "SharedSyntax$Tokens" (9 : Nat) "SharedSyntax$Tokens" "text" "LSharedSyntax$Letters;") ∈ TB := tb_in (List.mem_of_getElem? (i := 93) (by decide +kernel)) rfl
theorem tw94 : (Jvm.Cond.fieldLink "SharedSyntax$Tokens" (15 : Nat) "SharedSyntax$Tokens" "kinds" "[I") ∈ TB := tb_in (List.mem_of_getElem? (i := 94) (by decide +kernel)) rfl
theorem tw95 : (Jvm.Cond.fieldLink "SharedSyntax$Tokens" (19 : Nat) "SharedSyntax$Tokens" "owns" "[I") ∈ TB := tb_in (List.mem_of_getElem? (i := 95) (by decide +kernel)) rfl
theorem tw96 : (Jvm.Cond.fieldLink "SharedSyntax$Tokens" (22 : Nat) "SharedSyntax$Tokens" "ends" "[I") ∈ TB := tb_in (List.mem_of_getElem? (i := 96) (by decide +kernel)) rfl
theorem tw97 : (Jvm.Cond.fieldLink "SharedSyntax$Tokens" (25 : Nat) "SharedSyntax$Tokens" "used" "I") ∈ TB := tb_in (List.mem_of_getElem? (i := 97) (by decide +kernel)) rfl
theorem tw98 : (Jvm.Cond.fieldLink "SharedSyntax$Tokens" (29 : Nat) "SharedSyntax$Tokens" "at" "I") ∈ TB := tb_in (List.mem_of_getElem? (i := 98) (by decide +kernel)) rfl
theorem tw99 : (Jvm.Cond.laysFinal "SharedSyntax$Tokens" "SharedSyntax$Tokens" "text" "LSharedSyntax$Letters;") ∈ TB := tb_in (List.mem_of_getElem? (i := 99) (by decide +kernel)) rfl
theorem tw101 : (Jvm.Cond.laysFinal "SharedSyntax$Tokens" "SharedSyntax$Tokens" "kinds" "[I") ∈ TB := tb_in (List.mem_of_getElem? (i := 101) (by decide +kernel)) rfl
theorem tw103 : (Jvm.Cond.laysFinal "SharedSyntax$Tokens" "SharedSyntax$Tokens" "owns" "[I") ∈ TB := tb_in (List.mem_of_getElem? (i := 103) (by decide +kernel)) rfl
theorem tw105 : (Jvm.Cond.laysFinal "SharedSyntax$Tokens" "SharedSyntax$Tokens" "ends" "[I") ∈ TB := tb_in (List.mem_of_getElem? (i := 105) (by decide +kernel)) rfl
theorem tw107 : (Jvm.Cond.lays "SharedSyntax$Tokens" "SharedSyntax$Tokens" "used" "I") ∈ TB := tb_in (List.mem_of_getElem? (i := 107) (by decide +kernel)) rfl
theorem tw109 : (Jvm.Cond.lays "SharedSyntax$Tokens" "SharedSyntax$Tokens" "at" "I") ∈ TB := tb_in (List.mem_of_getElem? (i := 109) (by decide +kernel)) rfl
theorem tw112 : (Jvm.Cond.fieldLink "SharedSyntax$Reading" (9 : Nat) "SharedSyntax$Reading" "text" "LSharedSyntax$Letters;") ∈ TB := tb_in (List.mem_of_getElem? (i := 112) (by decide +kernel)) rfl
theorem tw113 : (Jvm.Cond.fieldLinkNest "SharedSyntax" (55 : Nat) "SharedSyntax$Reading" "text" "LSharedSyntax$Letters;" "SharedSyntax") ∈ tables_1 := List.mem_of_getElem? (i := 113) (by decide +kernel)
theorem tw114 : (Jvm.Cond.fieldLink "SharedSyntax$Reading" (20 : Nat) "SharedSyntax$Reading" "tree" "LSharedSyntax$Tree;") ∈ TB := tb_in (List.mem_of_getElem? (i := 114) (by decide +kernel)) rfl
theorem tw115 : (Jvm.Cond.fieldLinkNest "SharedSyntax" (86 : Nat) "SharedSyntax$Reading" "tree" "LSharedSyntax$Tree;" "SharedSyntax") ∈ tables_1 := List.mem_of_getElem? (i := 115) (by decide +kernel)
theorem tw116 : (Jvm.Cond.fieldLink "SharedSyntax$Reading" (27 : Nat) "SharedSyntax$Reading" "tokens" "LSharedSyntax$Tokens;") ∈ TB := tb_in (List.mem_of_getElem? (i := 116) (by decide +kernel)) rfl
theorem tw117 : (Jvm.Cond.fieldLink "SharedSyntax$Reading" (44 : Nat) "SharedSyntax$Reading" "place" "I") ∈ TB := tb_in (List.mem_of_getElem? (i := 117) (by decide +kernel)) rfl
theorem tw118 : (Jvm.Cond.fieldLink "SharedSyntax$Reading" (31 : Nat) "SharedSyntax$Reading" "skippedPlaces" "[I") ∈ TB := tb_in (List.mem_of_getElem? (i := 118) (by decide +kernel)) rfl
theorem tw119 : (Jvm.Cond.fieldLink "SharedSyntax$Reading" (35 : Nat) "SharedSyntax$Reading" "skippedFaults" "[I") ∈ TB := tb_in (List.mem_of_getElem? (i := 119) (by decide +kernel)) rfl
theorem tw120 : (Jvm.Cond.fieldLink "SharedSyntax$Reading" (48 : Nat) "SharedSyntax$Reading" "skipped" "I") ∈ TB := tb_in (List.mem_of_getElem? (i := 120) (by decide +kernel)) rfl
theorem tw121 : (Jvm.Cond.fieldLink "SharedSyntax$Reading" (38 : Nat) "SharedSyntax$Reading" "openNodes" "[I") ∈ TB := tb_in (List.mem_of_getElem? (i := 121) (by decide +kernel)) rfl
theorem tw122 : (Jvm.Cond.fieldLink "SharedSyntax$Reading" (41 : Nat) "SharedSyntax$Reading" "openBindings" "[I") ∈ TB := tb_in (List.mem_of_getElem? (i := 122) (by decide +kernel)) rfl
theorem tw123 : (Jvm.Cond.fieldLink "SharedSyntax$Reading" (51 : Nat) "SharedSyntax$Reading" "open" "I") ∈ TB := tb_in (List.mem_of_getElem? (i := 123) (by decide +kernel)) rfl
theorem tw124 : (Jvm.Cond.laysFinal "SharedSyntax$Reading" "SharedSyntax$Reading" "text" "LSharedSyntax$Letters;") ∈ TB := tb_in (List.mem_of_getElem? (i := 124) (by decide +kernel)) rfl
theorem tw126 : (Jvm.Cond.laysFinal "SharedSyntax$Reading" "SharedSyntax$Reading" "tree" "LSharedSyntax$Tree;") ∈ TB := tb_in (List.mem_of_getElem? (i := 126) (by decide +kernel)) rfl
theorem tw128 : (Jvm.Cond.laysFinal "SharedSyntax$Reading" "SharedSyntax$Reading" "tokens" "LSharedSyntax$Tokens;") ∈ TB := tb_in (List.mem_of_getElem? (i := 128) (by decide +kernel)) rfl
theorem tw130 : (Jvm.Cond.lays "SharedSyntax$Reading" "SharedSyntax$Reading" "place" "I") ∈ TB := tb_in (List.mem_of_getElem? (i := 130) (by decide +kernel)) rfl
theorem tw132 : (Jvm.Cond.laysFinal "SharedSyntax$Reading" "SharedSyntax$Reading" "skippedPlaces" "[I") ∈ TB := tb_in (List.mem_of_getElem? (i := 132) (by decide +kernel)) rfl
theorem tw134 : (Jvm.Cond.laysFinal "SharedSyntax$Reading" "SharedSyntax$Reading" "skippedFaults" "[I") ∈ TB := tb_in (List.mem_of_getElem? (i := 134) (by decide +kernel)) rfl
theorem tw136 : (Jvm.Cond.lays "SharedSyntax$Reading" "SharedSyntax$Reading" "skipped" "I") ∈ TB := tb_in (List.mem_of_getElem? (i := 136) (by decide +kernel)) rfl
theorem tw138 : (Jvm.Cond.laysFinal "SharedSyntax$Reading" "SharedSyntax$Reading" "openNodes" "[I") ∈ TB := tb_in (List.mem_of_getElem? (i := 138) (by decide +kernel)) rfl
theorem tw140 : (Jvm.Cond.laysFinal "SharedSyntax$Reading" "SharedSyntax$Reading" "openBindings" "[I") ∈ TB := tb_in (List.mem_of_getElem? (i := 140) (by decide +kernel)) rfl
theorem tw142 : (Jvm.Cond.lays "SharedSyntax$Reading" "SharedSyntax$Reading" "open" "I") ∈ TB := tb_in (List.mem_of_getElem? (i := 142) (by decide +kernel)) rfl
theorem tw145 : (Jvm.Cond.methodLink "SharedSyntax" (19 : Nat) ({ cls := "SharedSyntax$Reading", name := "read", desc := "()V" } : Jvm.MethodName)) ∈ TB := tb_in (List.mem_of_getElem? (i := 145) (by decide +kernel)) rfl
theorem tw146 : (Jvm.Cond.instanceMethod ({ cls := "SharedSyntax$Reading", name := "read", desc := "()V" } : Jvm.MethodName)) ∈ TB := tb_in (List.mem_of_getElem? (i := 146) (by decide +kernel)) rfl
theorem tw147 : (Jvm.Cond.selects "SharedSyntax$Reading" ({ cls := "SharedSyntax$Reading", name := "read", desc := "()V" } : Jvm.MethodName) ({ cls := "SharedSyntax$Reading", name := "read", desc := "()V" } : Jvm.MethodName)) ∈ TB := tb_in (List.mem_of_getElem? (i := 147) (by decide +kernel)) rfl
theorem tw148 : (Jvm.Cond.code ({ cls := "SharedSyntax$Reading", name := "read", desc := "()V" } : Jvm.MethodName) prog_4_method_2_code (2 : Nat) (Option.none : Option Jvm.ClassFile.FieldType)) ∈ TB := tb_in (List.mem_of_getElem? (i := 148) (by decide +kernel)) rfl
theorem tw149 : (Jvm.Cond.methodLink "SharedSyntax$Reading" (54 : Nat) ({ cls := "SharedSyntax$Tree", name := "clear", desc := "()V" } : Jvm.MethodName)) ∈ TB := tb_in (List.mem_of_getElem? (i := 149) (by decide +kernel)) rfl
theorem tw150 : (Jvm.Cond.instanceMethod ({ cls := "SharedSyntax$Tree", name := "clear", desc := "()V" } : Jvm.MethodName)) ∈ TB := tb_in (List.mem_of_getElem? (i := 150) (by decide +kernel)) rfl
theorem tw151 : (Jvm.Cond.selects "SharedSyntax$Tree" ({ cls := "SharedSyntax$Tree", name := "clear", desc := "()V" } : Jvm.MethodName) ({ cls := "SharedSyntax$Tree", name := "clear", desc := "()V" } : Jvm.MethodName)) ∈ TB := tb_in (List.mem_of_getElem? (i := 151) (by decide +kernel)) rfl
theorem tw152 : (Jvm.Cond.code ({ cls := "SharedSyntax$Tree", name := "clear", desc := "()V" } : Jvm.MethodName) prog_6_method_2_code (1 : Nat) (Option.none : Option Jvm.ClassFile.FieldType)) ∈ TB := tb_in (List.mem_of_getElem? (i := 152) (by decide +kernel)) rfl
theorem tw153 : (Jvm.Cond.methodLink "SharedSyntax$Reading" (57 : Nat) ({ cls := "SharedSyntax$Tokens", name := "cut", desc := "()V" } : Jvm.MethodName)) ∈ TB := tb_in (List.mem_of_getElem? (i := 153) (by decide +kernel)) rfl
theorem tw154 : (Jvm.Cond.instanceMethod ({ cls := "SharedSyntax$Tokens", name := "cut", desc := "()V" } : Jvm.MethodName)) ∈ TB := tb_in (List.mem_of_getElem? (i := 154) (by decide +kernel)) rfl
theorem tw155 : (Jvm.Cond.selects "SharedSyntax$Tokens" ({ cls := "SharedSyntax$Tokens", name := "cut", desc := "()V" } : Jvm.MethodName) ({ cls := "SharedSyntax$Tokens", name := "cut", desc := "()V" } : Jvm.MethodName)) ∈ TB := tb_in (List.mem_of_getElem? (i := 155) (by decide +kernel)) rfl
theorem tw156 : (Jvm.Cond.code ({ cls := "SharedSyntax$Tokens", name := "cut", desc := "()V" } : Jvm.MethodName) prog_5_method_6_code (4 : Nat) (Option.none : Option Jvm.ClassFile.FieldType)) ∈ TB := tb_in (List.mem_of_getElem? (i := 156) (by decide +kernel)) rfl
theorem tw157 : (Jvm.Cond.methodLink "SharedSyntax$Tokens" (37 : Nat) ({ cls := "SharedSyntax$Tokens", name := "behindBlanks", desc := "(I)I" } : Jvm.MethodName)) ∈ TB := tb_in (List.mem_of_getElem? (i := 157) (by decide +kernel)) rfl
theorem tw159 : (Jvm.Cond.instanceMethod ({ cls := "SharedSyntax$Tokens", name := "behindBlanks", desc := "(I)I" } : Jvm.MethodName)) ∈ TB := tb_in (List.mem_of_getElem? (i := 159) (by decide +kernel)) rfl
theorem tw160 : (Jvm.Cond.code ({ cls := "SharedSyntax$Tokens", name := "behindBlanks", desc := "(I)I" } : Jvm.MethodName) prog_5_method_7_code (5 : Nat) (Option.some Jvm.ClassFile.FieldType.int)) ∈ TB := tb_in (List.mem_of_getElem? (i := 160) (by decide +kernel)) rfl
theorem tw161 : (Jvm.Cond.methodLink "SharedSyntax$Tokens" (48 : Nat) ({ cls := "SharedSyntax$Letters", name := "at", desc := "(I)I" } : Jvm.MethodName)) ∈ TB := tb_in (List.mem_of_getElem? (i := 161) (by decide +kernel)) rfl
theorem tw162 : (Jvm.Cond.instanceMethod ({ cls := "SharedSyntax$Letters", name := "at", desc := "(I)I" } : Jvm.MethodName)) ∈ TB := tb_in (List.mem_of_getElem? (i := 162) (by decide +kernel)) rfl
theorem tw163 : (Jvm.Cond.selects "SharedSyntax$Letters" ({ cls := "SharedSyntax$Letters", name := "at", desc := "(I)I" } : Jvm.MethodName) ({ cls := "SharedSyntax$Letters", name := "at", desc := "(I)I" } : Jvm.MethodName)) ∈ TB := tb_in (List.mem_of_getElem? (i := 163) (by decide +kernel)) rfl
theorem tw164 : (Jvm.Cond.code ({ cls := "SharedSyntax$Letters", name := "at", desc := "(I)I" } : Jvm.MethodName) prog_3_method_2_code (2 : Nat) (Option.some Jvm.ClassFile.FieldType.int)) ∈ TB := tb_in (List.mem_of_getElem? (i := 164) (by decide +kernel)) rfl
theorem tw165 : (Jvm.Cond.methodLink "SharedSyntax$Tokens" (41 : Nat) ({ cls := "SharedSyntax$Tokens", name := "behindOwn", desc := "(I)I" } : Jvm.MethodName)) ∈ TB := tb_in (List.mem_of_getElem? (i := 165) (by decide +kernel)) rfl
theorem tw167 : (Jvm.Cond.instanceMethod ({ cls := "SharedSyntax$Tokens", name := "behindOwn", desc := "(I)I" } : Jvm.MethodName)) ∈ TB := tb_in (List.mem_of_getElem? (i := 167) (by decide +kernel)) rfl
theorem tw168 : (Jvm.Cond.code ({ cls := "SharedSyntax$Tokens", name := "behindOwn", desc := "(I)I" } : Jvm.MethodName) prog_5_method_8_code (4 : Nat) (Option.some Jvm.ClassFile.FieldType.int)) ∈ TB := tb_in (List.mem_of_getElem? (i := 168) (by decide +kernel)) rfl
theorem tw169 : (Jvm.Cond.methodLink "SharedSyntax$Tokens" (50 : Nat) ({ cls := "SharedSyntax$Tokens", name := "isSmallLetter", desc := "(I)Z" } : Jvm.MethodName)) ∈ TB := tb_in (List.mem_of_getElem? (i := 169) (by decide +kernel)) rfl
theorem tw170 : (Jvm.Cond.static ({ cls := "SharedSyntax$Tokens", name := "isSmallLetter", desc := "(I)Z" } : Jvm.MethodName)) ∈ TB := tb_in (List.mem_of_getElem? (i := 170) (by decide +kernel)) rfl
theorem tw171 : (Jvm.Cond.code ({ cls := "SharedSyntax$Tokens", name := "isSmallLetter", desc := "(I)Z" } : Jvm.MethodName) prog_5_method_13_code (1 : Nat) (Option.some Jvm.ClassFile.FieldType.boolean)) ∈ TB := tb_in (List.mem_of_getElem? (i := 171) (by decide +kernel)) rfl
theorem tw172 : (Jvm.Cond.methodLink "SharedSyntax$Tokens" (54 : Nat) ({ cls := "SharedSyntax$Tokens", name := "isDigit", desc := "(I)Z" } : Jvm.MethodName)) ∈ TB := tb_in (List.mem_of_getElem? (i := 172) (by decide +kernel)) rfl
theorem tw173 : (Jvm.Cond.static ({ cls := "SharedSyntax$Tokens", name := "isDigit", desc := "(I)Z" } : Jvm.MethodName)) ∈ TB := tb_in (List.mem_of_getElem? (i := 173) (by decide +kernel)) rfl
theorem tw174 : (Jvm.Cond.code ({ cls := "SharedSyntax$Tokens", name := "isDigit", desc := "(I)Z" } : Jvm.MethodName) prog_5_method_14_code (1 : Nat) (Option.some Jvm.ClassFile.FieldType.boolean)) ∈ TB := tb_in (List.mem_of_getElem? (i := 174) (by decide +kernel)) rfl
theorem tw175 : (Jvm.Cond.methodLink "SharedSyntax$Tokens" (44 : Nat) ({ cls := "SharedSyntax$Tokens", name := "kindOf", desc := "(II)I" } : Jvm.MethodName)) ∈ TB := tb_in (List.mem_of_getElem? (i := 175) (by decide +kernel)) rfl
theorem tw177 : (Jvm.Cond.instanceMethod ({ cls := "SharedSyntax$Tokens", name := "kindOf", desc := "(II)I" } : Jvm.MethodName)) ∈ TB := tb_in (List.mem_of_getElem? (i := 177) (by decide +kernel)) rfl
theorem tw178 : (Jvm.Cond.code ({ cls := "SharedSyntax$Tokens", name := "kindOf", desc := "(II)I" } : Jvm.MethodName) prog_5_method_9_code (4 : Nat) (Option.some Jvm.ClassFile.FieldType.int)) ∈ TB := tb_in (List.mem_of_getElem? (i := 178) (by decide +kernel)) rfl
theorem tw179 : (Jvm.Cond.methodLink "SharedSyntax$Tokens" (57 : Nat) ({ cls := "SharedSyntax$Tokens", name := "wordKind", desc := "(II)I" } : Jvm.MethodName)) ∈ TB := tb_in (List.mem_of_getElem? (i := 179) (by decide +kernel)) rfl
theorem tw181 : (Jvm.Cond.instanceMethod ({ cls := "SharedSyntax$Tokens", name := "wordKind", desc := "(II)I" } : Jvm.MethodName)) ∈ TB := tb_in (List.mem_of_getElem? (i := 181) (by decide +kernel)) rfl
theorem tw182 : (Jvm.Cond.code ({ cls := "SharedSyntax$Tokens", name := "wordKind", desc := "(II)I" } : Jvm.MethodName) prog_5_method_10_code (3 : Nat) (Option.some Jvm.ClassFile.FieldType.int)) ∈ TB := tb_in (List.mem_of_getElem? (i := 182) (by decide +kernel)) rfl
theorem tw183 : (Jvm.Cond.stringRef "SharedSyntax$Tokens" (63 : Nat) "if") ∈ tables_1 := List.mem_of_getElem? (i := 183) (by decide +kernel)
theorem tw184 : (Jvm.Cond.methodLink "SharedSyntax$Tokens" (65 : Nat) ({ cls := "SharedSyntax$Tokens", name := "spells", desc := "(IILjava/lang/String;)Z" } : Jvm.MethodName)) ∈ TB := tb_in (List.mem_of_getElem? (i := 184) (by decide +kernel)) rfl
theorem tw186 : (Jvm.Cond.instanceMethod ({ cls := "SharedSyntax$Tokens", name := "spells", desc := "(IILjava/lang/String;)Z" } : Jvm.MethodName)) ∈ TB := tb_in (List.mem_of_getElem? (i := 186) (by decide +kernel)) rfl
theorem tw187 : (Jvm.Cond.code ({ cls := "SharedSyntax$Tokens", name := "spells", desc := "(IILjava/lang/String;)Z" } : Jvm.MethodName) prog_5_method_11_code (5 : Nat) (Option.some Jvm.ClassFile.FieldType.boolean)) ∈ TB := tb_in (List.mem_of_getElem? (i := 187) (by decide +kernel)) rfl
theorem tw188 : (Jvm.Cond.methodLink "SharedSyntax$Tokens" (73 : Nat) ({ cls := "java/lang/String", name := "length", desc := "()I" } : Jvm.MethodName)) ∈ TB := tb_in (List.mem_of_getElem? (i := 188) (by decide +kernel)) rfl
theorem tw189 : (Jvm.Cond.instanceMethod ({ cls := "java/lang/String", name := "length", desc := "()I" } : Jvm.MethodName)) ∈ TB := tb_in (List.mem_of_getElem? (i := 189) (by decide +kernel)) rfl
theorem tw190 : (Jvm.Cond.selects "java/lang/String" ({ cls := "java/lang/String", name := "length", desc := "()I" } : Jvm.MethodName) ({ cls := "java/lang/String", name := "length", desc := "()I" } : Jvm.MethodName)) ∈ TB := tb_in (List.mem_of_getElem? (i := 190) (by decide +kernel)) rfl
theorem tw191 : (Jvm.Cond.code ({ cls := "java/lang/String", name := "length", desc := "()I" } : Jvm.MethodName) prog_11_method_54_code (1 : Nat) (Option.some Jvm.ClassFile.FieldType.int)) ∈ TB := tb_in (List.mem_of_getElem? (i := 191) (by decide +kernel)) rfl
theorem tw192 : (Jvm.Cond.methodLink "java/lang/String" (335 : Nat) ({ cls := "java/lang/String", name := "coder", desc := "()B" } : Jvm.MethodName)) ∈ TB := tb_in (List.mem_of_getElem? (i := 192) (by decide +kernel)) rfl
theorem tw193 : (Jvm.Cond.instanceMethod ({ cls := "java/lang/String", name := "coder", desc := "()B" } : Jvm.MethodName)) ∈ TB := tb_in (List.mem_of_getElem? (i := 193) (by decide +kernel)) rfl
theorem tw194 : (Jvm.Cond.selects "java/lang/String" ({ cls := "java/lang/String", name := "coder", desc := "()B" } : Jvm.MethodName) ({ cls := "java/lang/String", name := "coder", desc := "()B" } : Jvm.MethodName)) ∈ TB := tb_in (List.mem_of_getElem? (i := 194) (by decide +kernel)) rfl
theorem tw195 : (Jvm.Cond.code ({ cls := "java/lang/String", name := "coder", desc := "()B" } : Jvm.MethodName) prog_11_method_152_code (1 : Nat) (Option.some Jvm.ClassFile.FieldType.byte)) ∈ TB := tb_in (List.mem_of_getElem? (i := 195) (by decide +kernel)) rfl
theorem tw196 : (Jvm.Cond.fieldLink "java/lang/String" (38 : Nat) "java/lang/String" "COMPACT_STRINGS" "Z") ∈ TB := tb_in (List.mem_of_getElem? (i := 196) (by decide +kernel)) rfl
theorem tw198 : (Jvm.Cond.methodLink "SharedSyntax$Tokens" (79 : Nat) ({ cls := "java/lang/String", name := "charAt", desc := "(I)C" } : Jvm.MethodName)) ∈ TB := tb_in (List.mem_of_getElem? (i := 198) (by decide +kernel)) rfl
theorem tw199 : (Jvm.Cond.instanceMethod ({ cls := "java/lang/String", name := "charAt", desc := "(I)C" } : Jvm.MethodName)) ∈ TB := tb_in (List.mem_of_getElem? (i := 199) (by decide +kernel)) rfl
theorem tw200 : (Jvm.Cond.selects "java/lang/String" ({ cls := "java/lang/String", name := "charAt", desc := "(I)C" } : Jvm.MethodName) ({ cls := "java/lang/String", name := "charAt", desc := "(I)C" } : Jvm.MethodName)) ∈ TB := tb_in (List.mem_of_getElem? (i := 200) (by decide +kernel)) rfl
theorem tw201 : (Jvm.Cond.code ({ cls := "java/lang/String", name := "charAt", desc := "(I)C" } : Jvm.MethodName) prog_11_method_56_code (2 : Nat) (Option.some Jvm.ClassFile.FieldType.char)) ∈ TB := tb_in (List.mem_of_getElem? (i := 201) (by decide +kernel)) rfl
theorem tw202 : (Jvm.Cond.methodLink "java/lang/String" (492 : Nat) ({ cls := "java/lang/String", name := "isLatin1", desc := "()Z" } : Jvm.MethodName)) ∈ TB := tb_in (List.mem_of_getElem? (i := 202) (by decide +kernel)) rfl
theorem tw203 : (Jvm.Cond.instanceMethod ({ cls := "java/lang/String", name := "isLatin1", desc := "()Z" } : Jvm.MethodName)) ∈ TB := tb_in (List.mem_of_getElem? (i := 203) (by decide +kernel)) rfl
theorem tw204 : (Jvm.Cond.selects "java/lang/String" ({ cls := "java/lang/String", name := "isLatin1", desc := "()Z" } : Jvm.MethodName) ({ cls := "java/lang/String", name := "isLatin1", desc := "()Z" } : Jvm.MethodName)) ∈ TB := tb_in (List.mem_of_getElem? (i := 204) (by decide +kernel)) rfl
theorem tw205 : (Jvm.Cond.code ({ cls := "java/lang/String", name := "isLatin1", desc := "()Z" } : Jvm.MethodName) prog_11_method_154_code (1 : Nat) (Option.some Jvm.ClassFile.FieldType.boolean)) ∈ TB := tb_in (List.mem_of_getElem? (i := 205) (by decide +kernel)) rfl
theorem tw206 : (Jvm.Cond.methodLink "java/lang/String" (495 : Nat) ({ cls := "java/lang/StringLatin1", name := "charAt", desc := "([BI)C" } : Jvm.MethodName)) ∈ TB := tb_in (List.mem_of_getElem? (i := 206) (by decide +kernel)) rfl
theorem tw207 : (Jvm.Cond.static ({ cls := "java/lang/StringLatin1", name := "charAt", desc := "([BI)C" } : Jvm.MethodName)) ∈ TB := tb_in (List.mem_of_getElem? (i := 207) (by decide +kernel)) rfl
theorem tw208 : (Jvm.Cond.code ({ cls := "java/lang/StringLatin1", name := "charAt", desc := "([BI)C" } : Jvm.MethodName) prog_12_method_2_code (2 : Nat) (Option.some Jvm.ClassFile.FieldType.char)) ∈ TB := tb_in (List.mem_of_getElem? (i := 208) (by decide +kernel)) rfl
theorem tw209 : (Jvm.Cond.methodLink "java/lang/StringLatin1" (9 : Nat) ({ cls := "java/lang/String", name := "checkIndex", desc := "(II)V" } : Jvm.MethodName)) ∈ TB := tb_in (List.mem_of_getElem? (i := 209) (by decide +kernel)) rfl
theorem tw210 : (Jvm.Cond.static ({ cls := "java/lang/String", name := "checkIndex", desc := "(II)V" } : Jvm.MethodName)) ∈ TB := tb_in (List.mem_of_getElem? (i := 210) (by decide +kernel)) rfl
theorem tw211 : (Jvm.Cond.code ({ cls := "java/lang/String", name := "checkIndex", desc := "(II)V" } : Jvm.MethodName) prog_11_method_155_code (2 : Nat) (Option.none : Option Jvm.ClassFile.FieldType)) ∈ TB := tb_in (List.mem_of_getElem? (i := 211) (by decide +kernel)) rfl
theorem tw212 : (Jvm.Cond.fieldLink "java/lang/String" (1053 : Nat) "jdk/internal/util/Preconditions" "SIOOBE_FORMATTER" "Ljava/util/function/BiFunction;") ∈ TB := tb_in (List.mem_of_getElem? (i := 212) (by decide +kernel)) rfl
theorem tw214 : (Jvm.Cond.methodLink "java/lang/String" (1059 : Nat) ({ cls := "jdk/internal/util/Preconditions", name := "checkIndex", desc := "(IILjava/util/function/BiFunction;)I" } : Jvm.MethodName)) ∈ TB := tb_in (List.mem_of_getElem? (i := 214) (by decide +kernel)) rfl
theorem tw215 : (Jvm.Cond.static ({ cls := "jdk/internal/util/Preconditions", name := "checkIndex", desc := "(IILjava/util/function/BiFunction;)I" } : Jvm.MethodName)) ∈ TB := tb_in (List.mem_of_getElem? (i := 215) (by decide +kernel)) rfl
theorem tw216 : (Jvm.Cond.code ({ cls := "jdk/internal/util/Preconditions", name := "checkIndex", desc := "(IILjava/util/function/BiFunction;)I" } : Jvm.MethodName) prog_15_method_11_code (3 : Nat) (Option.some Jvm.ClassFile.FieldType.int)) ∈ TB := tb_in (List.mem_of_getElem? (i := 216) (by decide +kernel)) rfl
theorem tw217 : (Jvm.Cond.methodLink "java/lang/String" (498 : Nat) ({ cls := "java/lang/StringUTF16", name := "charAt", desc := "([BI)C" } : Jvm.MethodName)) ∈ TB := tb_in (List.mem_of_getElem? (i := 217) (by decide +kernel)) rfl
theorem tw218 : (Jvm.Cond.static ({ cls := "java/lang/StringUTF16", name := "charAt", desc := "([BI)C" } : Jvm.MethodName)) ∈ TB := tb_in (List.mem_of_getElem? (i := 218) (by decide +kernel)) rfl
theorem tw219 : (Jvm.Cond.code ({ cls := "java/lang/StringUTF16", name := "charAt", desc := "([BI)C" } : Jvm.MethodName) prog_13_method_83_code (2 : Nat) (Option.some Jvm.ClassFile.FieldType.char)) ∈ TB := tb_in (List.mem_of_getElem? (i := 219) (by decide +kernel)) rfl
theorem tw220 : (Jvm.Cond.methodLink "java/lang/StringUTF16" (67 : Nat) ({ cls := "java/lang/StringUTF16", name := "checkIndex", desc := "(I[B)V" } : Jvm.MethodName)) ∈ TB := tb_in (List.mem_of_getElem? (i := 220) (by decide +kernel)) rfl
theorem tw221 : (Jvm.Cond.static ({ cls := "java/lang/StringUTF16", name := "checkIndex", desc := "(I[B)V" } : Jvm.MethodName)) ∈ TB := tb_in (List.mem_of_getElem? (i := 221) (by decide +kernel)) rfl
theorem tw222 : (Jvm.Cond.code ({ cls := "java/lang/StringUTF16", name := "checkIndex", desc := "(I[B)V" } : Jvm.MethodName) prog_13_method_91_code (2 : Nat) (Option.none : Option Jvm.ClassFile.FieldType)) ∈ TB := tb_in (List.mem_of_getElem? (i := 222) (by decide +kernel)) rfl
theorem tw223 : (Jvm.Cond.methodLink "java/lang/StringUTF16" (48 : Nat) ({ cls := "java/lang/StringUTF16", name := "length", desc := "([B)I" } : Jvm.MethodName)) ∈ TB := tb_in (List.mem_of_getElem? (i := 223) (by decide +kernel)) rfl
theorem tw224 : (Jvm.Cond.static ({ cls := "java/lang/StringUTF16", name := "length", desc := "([B)I" } : Jvm.MethodName)) ∈ TB := tb_in (List.mem_of_getElem? (i := 224) (by decide +kernel)) rfl
theorem tw225 : (Jvm.Cond.code ({ cls := "java/lang/StringUTF16", name := "length", desc := "([B)I" } : Jvm.MethodName) prog_13_method_6_code (1 : Nat) (Option.some Jvm.ClassFile.FieldType.int)) ∈ TB := tb_in (List.mem_of_getElem? (i := 225) (by decide +kernel)) rfl
theorem tw226 : (Jvm.Cond.methodLink "java/lang/StringUTF16" (414 : Nat) ({ cls := "java/lang/String", name := "checkIndex", desc := "(II)V" } : Jvm.MethodName)) ∈ TB := tb_in (List.mem_of_getElem? (i := 226) (by decide +kernel)) rfl
theorem tw227 : (Jvm.Cond.methodLink "java/lang/StringUTF16" (71 : Nat) ({ cls := "java/lang/StringUTF16", name := "getChar", desc := "([BI)C" } : Jvm.MethodName)) ∈ TB := tb_in (List.mem_of_getElem? (i := 227) (by decide +kernel)) rfl
theorem tw228 : (Jvm.Cond.static ({ cls := "java/lang/StringUTF16", name := "getChar", desc := "([BI)C" } : Jvm.MethodName)) ∈ TB := tb_in (List.mem_of_getElem? (i := 228) (by decide +kernel)) rfl
theorem tw229 : (Jvm.Cond.code ({ cls := "java/lang/StringUTF16", name := "getChar", desc := "([BI)C" } : Jvm.MethodName) prog_13_method_5_code (2 : Nat) (Option.some Jvm.ClassFile.FieldType.char)) ∈ TB := tb_in (List.mem_of_getElem? (i := 229) (by decide +kernel)) rfl
theorem tw230 : (Jvm.Cond.fieldLink "java/lang/StringUTF16" (44 : Nat) "java/lang/StringUTF16" "$assertionsDisabled" "Z") ∈ TB := tb_in (List.mem_of_getElem? (i := 230) (by decide +kernel)) rfl
theorem tw232 : (Jvm.Cond.fieldLink "java/lang/StringUTF16" (59 : Nat) "java/lang/StringUTF16" "HI_BYTE_SHIFT" "I") ∈ TB := tb_in (List.mem_of_getElem? (i := 232) (by decide +kernel)) rfl
theorem tw234 : (Jvm.Cond.fieldLink "java/lang/StringUTF16" (63 : Nat) "java/lang/StringUTF16" "LO_BYTE_SHIFT" "I") ∈ TB := tb_in (List.mem_of_getElem? (i := 234) (by decide +kernel)) rfl
theorem tw236 : (Jvm.Cond.stringRef "SharedSyntax$Tokens" (69 : Nat) "else") ∈ tables_1 := List.mem_of_getElem? (i := 236) (by decide +kernel)
theorem tw237 : (Jvm.Cond.stringRef "SharedSyntax$Tokens" (71 : Nat) "while") ∈ tables_1 := List.mem_of_getElem? (i := 237) (by decide +kernel)
theorem tw238 : (Jvm.Cond.methodLink "SharedSyntax$Tokens" (60 : Nat) ({ cls := "SharedSyntax$Tokens", name := "signKind", desc := "(I)I" } : Jvm.MethodName)) ∈ TB := tb_in (List.mem_of_getElem? (i := 238) (by decide +kernel)) rfl
theorem tw239 : (Jvm.Cond.static ({ cls := "SharedSyntax$Tokens", name := "signKind", desc := "(I)I" } : Jvm.MethodName)) ∈ TB := tb_in (List.mem_of_getElem? (i := 239) (by decide +kernel)) rfl
theorem tw240 : (Jvm.Cond.code ({ cls := "SharedSyntax$Tokens", name := "signKind", desc := "(I)I" } : Jvm.MethodName) prog_5_method_12_code (2 : Nat) (Option.some Jvm.ClassFile.FieldType.int)) ∈ TB := tb_in (List.mem_of_getElem? (i := 240) (by decide +kernel)) rfl
theorem tw241 : (Jvm.Cond.stringRef "SharedSyntax$Tokens" (83 : Nat) ";{}()+-*<=") ∈ tables_1 := List.mem_of_getElem? (i := 241) (by decide +kernel)
theorem tw242 : (Jvm.Cond.methodLink "SharedSyntax$Tokens" (85 : Nat) ({ cls := "java/lang/String", name := "indexOf", desc := "(I)I" } : Jvm.MethodName)) ∈ TB := tb_in (List.mem_of_getElem? (i := 242) (by decide +kernel)) rfl
theorem tw243 : (Jvm.Cond.instanceMethod ({ cls := "java/lang/String", name := "indexOf", desc := "(I)I" } : Jvm.MethodName)) ∈ TB := tb_in (List.mem_of_getElem? (i := 243) (by decide +kernel)) rfl
theorem tw244 : (Jvm.Cond.selects "java/lang/String" ({ cls := "java/lang/String", name := "indexOf", desc := "(I)I" } : Jvm.MethodName) ({ cls := "java/lang/String", name := "indexOf", desc := "(I)I" } : Jvm.MethodName)) ∈ TB := tb_in (List.mem_of_getElem? (i := 244) (by decide +kernel)) rfl
theorem tw245 : (Jvm.Cond.code ({ cls := "java/lang/String", name := "indexOf", desc := "(I)I" } : Jvm.MethodName) prog_11_method_79_code (2 : Nat) (Option.some Jvm.ClassFile.FieldType.int)) ∈ TB := tb_in (List.mem_of_getElem? (i := 245) (by decide +kernel)) rfl
theorem tw246 : (Jvm.Cond.methodLink "java/lang/String" (633 : Nat) ({ cls := "java/lang/String", name := "indexOf", desc := "(II)I" } : Jvm.MethodName)) ∈ TB := tb_in (List.mem_of_getElem? (i := 246) (by decide +kernel)) rfl
theorem tw247 : (Jvm.Cond.instanceMethod ({ cls := "java/lang/String", name := "indexOf", desc := "(II)I" } : Jvm.MethodName)) ∈ TB := tb_in (List.mem_of_getElem? (i := 247) (by decide +kernel)) rfl
theorem tw248 : (Jvm.Cond.selects "java/lang/String" ({ cls := "java/lang/String", name := "indexOf", desc := "(II)I" } : Jvm.MethodName) ({ cls := "java/lang/String", name := "indexOf", desc := "(II)I" } : Jvm.MethodName)) ∈ TB := tb_in (List.mem_of_getElem? (i := 248) (by decide +kernel)) rfl
theorem tw249 : (Jvm.Cond.code ({ cls := "java/lang/String", name := "indexOf", desc := "(II)I" } : Jvm.MethodName) prog_11_method_80_code (3 : Nat) (Option.some Jvm.ClassFile.FieldType.int)) ∈ TB := tb_in (List.mem_of_getElem? (i := 249) (by decide +kernel)) rfl
theorem tw250 : (Jvm.Cond.methodLink "java/lang/String" (505 : Nat) ({ cls := "java/lang/String", name := "length", desc := "()I" } : Jvm.MethodName)) ∈ TB := tb_in (List.mem_of_getElem? (i := 250) (by decide +kernel)) rfl
theorem tw251 : (Jvm.Cond.methodLink "java/lang/String" (637 : Nat) ({ cls := "java/lang/StringLatin1", name := "indexOf", desc := "([BIII)I" } : Jvm.MethodName)) ∈ TB := tb_in (List.mem_of_getElem? (i := 251) (by decide +kernel)) rfl
theorem tw252 : (Jvm.Cond.static ({ cls := "java/lang/StringLatin1", name := "indexOf", desc := "([BIII)I" } : Jvm.MethodName)) ∈ TB := tb_in (List.mem_of_getElem? (i := 252) (by decide +kernel)) rfl
theorem tw253 : (Jvm.Cond.code ({ cls := "java/lang/StringLatin1", name := "indexOf", desc := "([BIII)I" } : Jvm.MethodName) prog_12_method_22_code (4 : Nat) (Option.some Jvm.ClassFile.FieldType.int)) ∈ TB := tb_in (List.mem_of_getElem? (i := 253) (by decide +kernel)) rfl
theorem tw254 : (Jvm.Cond.methodLink "java/lang/StringLatin1" (88 : Nat) ({ cls := "java/lang/StringLatin1", name := "canEncode", desc := "(I)Z" } : Jvm.MethodName)) ∈ TB := tb_in (List.mem_of_getElem? (i := 254) (by decide +kernel)) rfl
theorem tw255 : (Jvm.Cond.static ({ cls := "java/lang/StringLatin1", name := "canEncode", desc := "(I)Z" } : Jvm.MethodName)) ∈ TB := tb_in (List.mem_of_getElem? (i := 255) (by decide +kernel)) rfl
theorem tw256 : (Jvm.Cond.code ({ cls := "java/lang/StringLatin1", name := "canEncode", desc := "(I)Z" } : Jvm.MethodName) prog_12_method_4_code (1 : Nat) (Option.some Jvm.ClassFile.FieldType.boolean)) ∈ TB := tb_in (List.mem_of_getElem? (i := 256) (by decide +kernel)) rfl
theorem tw257 : (Jvm.Cond.methodLink "java/lang/StringLatin1" (92 : Nat) ({ cls := "java/lang/Math", name := "max", desc := "(II)I" } : Jvm.MethodName)) ∈ TB := tb_in (List.mem_of_getElem? (i := 257) (by decide +kernel)) rfl
theorem tw258 : (Jvm.Cond.static ({ cls := "java/lang/Math", name := "max", desc := "(II)I" } : Jvm.MethodName)) ∈ TB := tb_in (List.mem_of_getElem? (i := 258) (by decide +kernel)) rfl
theorem tw259 : (Jvm.Cond.code ({ cls := "java/lang/Math", name := "max", desc := "(II)I" } : Jvm.MethodName) prog_10_method_65_code (2 : Nat) (Option.some Jvm.ClassFile.FieldType.int)) ∈ TB := tb_in (List.mem_of_getElem? (i := 259) (by decide +kernel)) rfl
theorem tw260 : (Jvm.Cond.methodLink "java/lang/StringLatin1" (38 : Nat) ({ cls := "java/lang/Math", name := "min", desc := "(II)I" } : Jvm.MethodName)) ∈ TB := tb_in (List.mem_of_getElem? (i := 260) (by decide +kernel)) rfl
theorem tw261 : (Jvm.Cond.static ({ cls := "java/lang/Math", name := "min", desc := "(II)I" } : Jvm.MethodName)) ∈ TB := tb_in (List.mem_of_getElem? (i := 261) (by decide +kernel)) rfl
theorem tw262 : (Jvm.Cond.code ({ cls := "java/lang/Math", name := "min", desc := "(II)I" } : Jvm.MethodName) prog_10_method_69_code (2 : Nat) (Option.some Jvm.ClassFile.FieldType.int)) ∈ TB := tb_in (List.mem_of_getElem? (i := 262) (by decide +kernel)) rfl
theorem tw263 : (Jvm.Cond.methodLink "java/lang/StringLatin1" (95 : Nat) ({ cls := "java/lang/StringLatin1", name := "indexOfChar", desc := "([BIII)I" } : Jvm.MethodName)) ∈ TB := tb_in (List.mem_of_getElem? (i := 263) (by decide +kernel)) rfl
theorem tw264 : (Jvm.Cond.static ({ cls := "java/lang/StringLatin1", name := "indexOfChar", desc := "([BIII)I" } : Jvm.MethodName)) ∈ TB := tb_in (List.mem_of_getElem? (i := 264) (by decide +kernel)) rfl
theorem tw265 : (Jvm.Cond.code ({ cls := "java/lang/StringLatin1", name := "indexOfChar", desc := "([BIII)I" } : Jvm.MethodName) prog_12_method_23_code (6 : Nat) (Option.some Jvm.ClassFile.FieldType.int)) ∈ TB := tb_in (List.mem_of_getElem? (i := 265) (by decide +kernel)) rfl
theorem tw266 : (Jvm.Cond.methodLink "java/lang/String" (640 : Nat) ({ cls := "java/lang/StringUTF16", name := "indexOf", desc := "([BIII)I" } : Jvm.MethodName)) ∈ TB := tb_in (List.mem_of_getElem? (i := 266) (by decide +kernel)) rfl
theorem tw267 : (Jvm.Cond.static ({ cls := "java/lang/StringUTF16", name := "indexOf", desc := "([BIII)I" } : Jvm.MethodName)) ∈ TB := tb_in (List.mem_of_getElem? (i := 267) (by decide +kernel)) rfl
theorem tw268 : (Jvm.Cond.code ({ cls := "java/lang/StringUTF16", name := "indexOf", desc := "([BIII)I" } : Jvm.MethodName) prog_13_method_40_code (4 : Nat) (Option.some Jvm.ClassFile.FieldType.int)) ∈ TB := tb_in (List.mem_of_getElem? (i := 268) (by decide +kernel)) rfl
theorem tw269 : (Jvm.Cond.methodLink "java/lang/StringUTF16" (224 : Nat) ({ cls := "java/lang/Math", name := "max", desc := "(II)I" } : Jvm.MethodName)) ∈ TB := tb_in (List.mem_of_getElem? (i := 269) (by decide +kernel)) rfl
theorem tw270 : (Jvm.Cond.methodLink "java/lang/StringUTF16" (183 : Nat) ({ cls := "java/lang/Math", name := "min", desc := "(II)I" } : Jvm.MethodName)) ∈ TB := tb_in (List.mem_of_getElem? (i := 270) (by decide +kernel)) rfl
theorem tw271 : (Jvm.Cond.constant "java/lang/StringUTF16" (227 : Nat) (65536 : Int32)) ∈ TB := tb_in (List.mem_of_getElem? (i := 271) (by decide +kernel)) rfl
theorem tw272 : (Jvm.Cond.methodLink "java/lang/StringUTF16" (228 : Nat) ({ cls := "java/lang/StringUTF16", name := "indexOfChar", desc := "([BIII)I" } : Jvm.MethodName)) ∈ TB := tb_in (List.mem_of_getElem? (i := 272) (by decide +kernel)) rfl
theorem tw273 : (Jvm.Cond.static ({ cls := "java/lang/StringUTF16", name := "indexOfChar", desc := "([BIII)I" } : Jvm.MethodName)) ∈ TB := tb_in (List.mem_of_getElem? (i := 273) (by decide +kernel)) rfl
theorem tw274 : (Jvm.Cond.code ({ cls := "java/lang/StringUTF16", name := "indexOfChar", desc := "([BIII)I" } : Jvm.MethodName) prog_13_method_47_code (4 : Nat) (Option.some Jvm.ClassFile.FieldType.int)) ∈ TB := tb_in (List.mem_of_getElem? (i := 274) (by decide +kernel)) rfl
theorem tw275 : (Jvm.Cond.methodLink "java/lang/StringUTF16" (96 : Nat) ({ cls := "java/lang/StringUTF16", name := "checkBoundsBeginEnd", desc := "(II[B)V" } : Jvm.MethodName)) ∈ TB := tb_in (List.mem_of_getElem? (i := 275) (by decide +kernel)) rfl
theorem tw276 : (Jvm.Cond.static ({ cls := "java/lang/StringUTF16", name := "checkBoundsBeginEnd", desc := "(II[B)V" } : Jvm.MethodName)) ∈ TB := tb_in (List.mem_of_getElem? (i := 276) (by decide +kernel)) rfl
theorem tw277 : (Jvm.Cond.code ({ cls := "java/lang/StringUTF16", name := "checkBoundsBeginEnd", desc := "(II[B)V" } : Jvm.MethodName) prog_13_method_93_code (3 : Nat) (Option.none : Option Jvm.ClassFile.FieldType)) ∈ TB := tb_in (List.mem_of_getElem? (i := 277) (by decide +kernel)) rfl
theorem tw278 : (Jvm.Cond.methodLink "java/lang/StringUTF16" (241 : Nat) ({ cls := "java/lang/String", name := "checkBoundsBeginEnd", desc := "(III)V" } : Jvm.MethodName)) ∈ TB := tb_in (List.mem_of_getElem? (i := 278) (by decide +kernel)) rfl
theorem tw279 : (Jvm.Cond.static ({ cls := "java/lang/String", name := "checkBoundsBeginEnd", desc := "(III)V" } : Jvm.MethodName)) ∈ TB := tb_in (List.mem_of_getElem? (i := 279) (by decide +kernel)) rfl
theorem tw280 : (Jvm.Cond.code ({ cls := "java/lang/String", name := "checkBoundsBeginEnd", desc := "(III)V" } : Jvm.MethodName) prog_11_method_158_code (3 : Nat) (Option.none : Option Jvm.ClassFile.FieldType)) ∈ TB := tb_in (List.mem_of_getElem? (i := 280) (by decide +kernel)) rfl
theorem tw281 : (Jvm.Cond.methodLink "java/lang/String" (1062 : Nat) ({ cls := "jdk/internal/util/Preconditions", name := "checkFromToIndex", desc := "(IIILjava/util/function/BiFunction;)I" } : Jvm.MethodName)) ∈ TB := tb_in (List.mem_of_getElem? (i := 281) (by decide +kernel)) rfl
theorem tw282 : (Jvm.Cond.static ({ cls := "jdk/internal/util/Preconditions", name := "checkFromToIndex", desc := "(IIILjava/util/function/BiFunction;)I" } : Jvm.MethodName)) ∈ TB := tb_in (List.mem_of_getElem? (i := 282) (by decide +kernel)) rfl
theorem tw283 : (Jvm.Cond.code ({ cls := "jdk/internal/util/Preconditions", name := "checkFromToIndex", desc := "(IIILjava/util/function/BiFunction;)I" } : Jvm.MethodName) prog_15_method_12_code (4 : Nat) (Option.some Jvm.ClassFile.FieldType.int)) ∈ TB := tb_in (List.mem_of_getElem? (i := 283) (by decide +kernel)) rfl
theorem tw284 : (Jvm.Cond.methodLink "java/lang/StringUTF16" (244 : Nat) ({ cls := "java/lang/StringUTF16", name := "indexOfCharUnsafe", desc := "([BIII)I" } : Jvm.MethodName)) ∈ TB := tb_in (List.mem_of_getElem? (i := 284) (by decide +kernel)) rfl
theorem tw285 : (Jvm.Cond.static ({ cls := "java/lang/StringUTF16", name := "indexOfCharUnsafe", desc := "([BIII)I" } : Jvm.MethodName)) ∈ TB := tb_in (List.mem_of_getElem? (i := 285) (by decide +kernel)) rfl
theorem tw286 : (Jvm.Cond.code ({ cls := "java/lang/StringUTF16", name := "indexOfCharUnsafe", desc := "([BIII)I" } : Jvm.MethodName) prog_13_method_48_code (5 : Nat) (Option.some Jvm.ClassFile.FieldType.int)) ∈ TB := tb_in (List.mem_of_getElem? (i := 286) (by decide +kernel)) rfl
theorem tw287 : (Jvm.Cond.methodLink "java/lang/StringUTF16" (232 : Nat) ({ cls := "java/lang/StringUTF16", name := "indexOfSupplementary", desc := "([BIII)I" } : Jvm.MethodName)) ∈ TB := tb_in (List.mem_of_getElem? (i := 287) (by decide +kernel)) rfl
theorem tw288 : (Jvm.Cond.static ({ cls := "java/lang/StringUTF16", name := "indexOfSupplementary", desc := "([BIII)I" } : Jvm.MethodName)) ∈ TB := tb_in (List.mem_of_getElem? (i := 288) (by decide +kernel)) rfl
theorem tw289 : (Jvm.Cond.code ({ cls := "java/lang/StringUTF16", name := "indexOfSupplementary", desc := "([BIII)I" } : Jvm.MethodName) prog_13_method_49_code (7 : Nat) (Option.some Jvm.ClassFile.FieldType.int)) ∈ TB := tb_in (List.mem_of_getElem? (i := 289) (by decide +kernel)) rfl
theorem tw290 : (Jvm.Cond.methodLink "java/lang/StringUTF16" (164 : Nat) ({ cls := "java/lang/Character", name := "isValidCodePoint", desc := "(I)Z" } : Jvm.MethodName)) ∈ TB := tb_in (List.mem_of_getElem? (i := 290) (by decide +kernel)) rfl
theorem tw291 : (Jvm.Cond.static ({ cls := "java/lang/Character", name := "isValidCodePoint", desc := "(I)Z" } : Jvm.MethodName)) ∈ TB := tb_in (List.mem_of_getElem? (i := 291) (by decide +kernel)) rfl
theorem tw292 : (Jvm.Cond.code ({ cls := "java/lang/Character", name := "isValidCodePoint", desc := "(I)Z" } : Jvm.MethodName) prog_9_method_11_code (2 : Nat) (Option.some Jvm.ClassFile.FieldType.boolean)) ∈ TB := tb_in (List.mem_of_getElem? (i := 292) (by decide +kernel)) rfl
theorem tw293 : (Jvm.Cond.methodLink "java/lang/StringUTF16" (157 : Nat) ({ cls := "java/lang/Character", name := "highSurrogate", desc := "(I)C" } : Jvm.MethodName)) ∈ TB := tb_in (List.mem_of_getElem? (i := 293) (by decide +kernel)) rfl
theorem tw294 : (Jvm.Cond.static ({ cls := "java/lang/Character", name := "highSurrogate", desc := "(I)C" } : Jvm.MethodName)) ∈ TB := tb_in (List.mem_of_getElem? (i := 294) (by decide +kernel)) rfl
theorem tw295 : (Jvm.Cond.code ({ cls := "java/lang/Character", name := "highSurrogate", desc := "(I)C" } : Jvm.MethodName) prog_9_method_28_code (1 : Nat) (Option.some Jvm.ClassFile.FieldType.char)) ∈ TB := tb_in (List.mem_of_getElem? (i := 295) (by decide +kernel)) rfl
theorem tw296 : (Jvm.Cond.constant "java/lang/Character" (110 : Nat) (55232 : Int32)) ∈ TB := tb_in (List.mem_of_getElem? (i := 296) (by decide +kernel)) rfl
theorem tw297 : (Jvm.Cond.methodLink "java/lang/StringUTF16" (161 : Nat) ({ cls := "java/lang/Character", name := "lowSurrogate", desc := "(I)C" } : Jvm.MethodName)) ∈ TB := tb_in (List.mem_of_getElem? (i := 297) (by decide +kernel)) rfl
theorem tw298 : (Jvm.Cond.static ({ cls := "java/lang/Character", name := "lowSurrogate", desc := "(I)C" } : Jvm.MethodName)) ∈ TB := tb_in (List.mem_of_getElem? (i := 298) (by decide +kernel)) rfl
theorem tw299 : (Jvm.Cond.code ({ cls := "java/lang/Character", name := "lowSurrogate", desc := "(I)C" } : Jvm.MethodName) prog_9_method_29_code (1 : Nat) (Option.some Jvm.ClassFile.FieldType.char)) ∈ TB := tb_in (List.mem_of_getElem? (i := 299) (by decide +kernel)) rfl
theorem tw300 : (Jvm.Cond.constant "java/lang/Character" (76 : Nat) (56320 : Int32)) ∈ TB := tb_in (List.mem_of_getElem? (i := 300) (by decide +kernel)) rfl
theorem tw301 : (Jvm.Cond.methodLink "SharedSyntax$Reading" (60 : Nat) ({ cls := "SharedSyntax$Reading", name := "begin", desc := "(I)I" } : Jvm.MethodName)) ∈ TB := tb_in (List.mem_of_getElem? (i := 301) (by decide +kernel)) rfl
theorem tw303 : (Jvm.Cond.instanceMethod ({ cls := "SharedSyntax$Reading", name := "begin", desc := "(I)I" } : Jvm.MethodName)) ∈ TB := tb_in (List.mem_of_getElem? (i := 303) (by decide +kernel)) rfl
theorem tw304 : (Jvm.Cond.code ({ cls := "SharedSyntax$Reading", name := "begin", desc := "(I)I" } : Jvm.MethodName) prog_4_method_3_code (2 : Nat) (Option.some Jvm.ClassFile.FieldType.int)) ∈ TB := tb_in (List.mem_of_getElem? (i := 304) (by decide +kernel)) rfl
theorem tw305 : (Jvm.Cond.methodLink "SharedSyntax$Reading" (77 : Nat) ({ cls := "SharedSyntax$Tree", name := "add", desc := "(III)I" } : Jvm.MethodName)) ∈ TB := tb_in (List.mem_of_getElem? (i := 305) (by decide +kernel)) rfl
theorem tw306 : (Jvm.Cond.instanceMethod ({ cls := "SharedSyntax$Tree", name := "add", desc := "(III)I" } : Jvm.MethodName)) ∈ TB := tb_in (List.mem_of_getElem? (i := 306) (by decide +kernel)) rfl
theorem tw307 : (Jvm.Cond.selects "SharedSyntax$Tree" ({ cls := "SharedSyntax$Tree", name := "add", desc := "(III)I" } : Jvm.MethodName) ({ cls := "SharedSyntax$Tree", name := "add", desc := "(III)I" } : Jvm.MethodName)) ∈ TB := tb_in (List.mem_of_getElem? (i := 307) (by decide +kernel)) rfl
theorem tw308 : (Jvm.Cond.code ({ cls := "SharedSyntax$Tree", name := "add", desc := "(III)I" } : Jvm.MethodName) prog_6_method_3_code (4 : Nat) (Option.some Jvm.ClassFile.FieldType.int)) ∈ TB := tb_in (List.mem_of_getElem? (i := 308) (by decide +kernel)) rfl
theorem tw309 : (Jvm.Cond.methodLink "SharedSyntax$Reading" (64 : Nat) ({ cls := "SharedSyntax$Reading", name := "list", desc := "(I)V" } : Jvm.MethodName)) ∈ TB := tb_in (List.mem_of_getElem? (i := 309) (by decide +kernel)) rfl
theorem tw311 : (Jvm.Cond.instanceMethod ({ cls := "SharedSyntax$Reading", name := "list", desc := "(I)V" } : Jvm.MethodName)) ∈ TB := tb_in (List.mem_of_getElem? (i := 311) (by decide +kernel)) rfl
theorem tw312 : (Jvm.Cond.code ({ cls := "SharedSyntax$Reading", name := "list", desc := "(I)V" } : Jvm.MethodName) prog_4_method_8_code (3 : Nat) (Option.none : Option Jvm.ClassFile.FieldType)) ∈ TB := tb_in (List.mem_of_getElem? (i := 312) (by decide +kernel)) rfl
theorem tw313 : (Jvm.Cond.methodLink "SharedSyntax$Reading" (105 : Nat) ({ cls := "SharedSyntax$Reading", name := "listEnds", desc := "(I)Z" } : Jvm.MethodName)) ∈ TB := tb_in (List.mem_of_getElem? (i := 313) (by decide +kernel)) rfl
theorem tw315 : (Jvm.Cond.instanceMethod ({ cls := "SharedSyntax$Reading", name := "listEnds", desc := "(I)Z" } : Jvm.MethodName)) ∈ TB := tb_in (List.mem_of_getElem? (i := 315) (by decide +kernel)) rfl
theorem tw316 : (Jvm.Cond.code ({ cls := "SharedSyntax$Reading", name := "listEnds", desc := "(I)Z" } : Jvm.MethodName) prog_4_method_9_code (3 : Nat) (Option.some Jvm.ClassFile.FieldType.boolean)) ∈ TB := tb_in (List.mem_of_getElem? (i := 316) (by decide +kernel)) rfl
theorem tw317 : (Jvm.Cond.methodLink "SharedSyntax$Reading" (81 : Nat) ({ cls := "SharedSyntax$Tokens", name := "kind", desc := "()I" } : Jvm.MethodName)) ∈ TB := tb_in (List.mem_of_getElem? (i := 317) (by decide +kernel)) rfl
theorem tw318 : (Jvm.Cond.instanceMethod ({ cls := "SharedSyntax$Tokens", name := "kind", desc := "()I" } : Jvm.MethodName)) ∈ TB := tb_in (List.mem_of_getElem? (i := 318) (by decide +kernel)) rfl
theorem tw319 : (Jvm.Cond.selects "SharedSyntax$Tokens" ({ cls := "SharedSyntax$Tokens", name := "kind", desc := "()I" } : Jvm.MethodName) ({ cls := "SharedSyntax$Tokens", name := "kind", desc := "()I" } : Jvm.MethodName)) ∈ TB := tb_in (List.mem_of_getElem? (i := 319) (by decide +kernel)) rfl
theorem tw320 : (Jvm.Cond.code ({ cls := "SharedSyntax$Tokens", name := "kind", desc := "()I" } : Jvm.MethodName) prog_5_method_2_code (1 : Nat) (Option.some Jvm.ClassFile.FieldType.int)) ∈ TB := tb_in (List.mem_of_getElem? (i := 320) (by decide +kernel)) rfl
theorem tw321 : (Jvm.Cond.methodLink "SharedSyntax$Reading" (108 : Nat) ({ cls := "SharedSyntax$Reading", name := "statementFollows", desc := "(I)Z" } : Jvm.MethodName)) ∈ TB := tb_in (List.mem_of_getElem? (i := 321) (by decide +kernel)) rfl
theorem tw323 : (Jvm.Cond.instanceMethod ({ cls := "SharedSyntax$Reading", name := "statementFollows", desc := "(I)Z" } : Jvm.MethodName)) ∈ TB := tb_in (List.mem_of_getElem? (i := 323) (by decide +kernel)) rfl
theorem tw324 : (Jvm.Cond.code ({ cls := "SharedSyntax$Reading", name := "statementFollows", desc := "(I)Z" } : Jvm.MethodName) prog_4_method_10_code (4 : Nat) (Option.some Jvm.ClassFile.FieldType.boolean)) ∈ TB := tb_in (List.mem_of_getElem? (i := 324) (by decide +kernel)) rfl
theorem tw325 : (Jvm.Cond.methodLink "SharedSyntax$Reading" (98 : Nat) ({ cls := "SharedSyntax$Reading", name := "canBegin", desc := "(I)Z" } : Jvm.MethodName)) ∈ TB := tb_in (List.mem_of_getElem? (i := 325) (by decide +kernel)) rfl
theorem tw326 : (Jvm.Cond.static ({ cls := "SharedSyntax$Reading", name := "canBegin", desc := "(I)Z" } : Jvm.MethodName)) ∈ TB := tb_in (List.mem_of_getElem? (i := 326) (by decide +kernel)) rfl
theorem tw327 : (Jvm.Cond.code ({ cls := "SharedSyntax$Reading", name := "canBegin", desc := "(I)Z" } : Jvm.MethodName) prog_4_method_11_code (1 : Nat) (Option.some Jvm.ClassFile.FieldType.boolean)) ∈ TB := tb_in (List.mem_of_getElem? (i := 327) (by decide +kernel)) rfl
theorem tw328 : (Jvm.Cond.methodLink "SharedSyntax$Reading" (111 : Nat) ({ cls := "SharedSyntax$Reading", name := "statement", desc := "(I)V" } : Jvm.MethodName)) ∈ TB := tb_in (List.mem_of_getElem? (i := 328) (by decide +kernel)) rfl
theorem tw330 : (Jvm.Cond.instanceMethod ({ cls := "SharedSyntax$Reading", name := "statement", desc := "(I)V" } : Jvm.MethodName)) ∈ TB := tb_in (List.mem_of_getElem? (i := 330) (by decide +kernel)) rfl
theorem tw331 : (Jvm.Cond.code ({ cls := "SharedSyntax$Reading", name := "statement", desc := "(I)V" } : Jvm.MethodName) prog_4_method_12_code (2 : Nat) (Option.none : Option Jvm.ClassFile.FieldType)) ∈ TB := tb_in (List.mem_of_getElem? (i := 331) (by decide +kernel)) rfl
theorem tw332 : (Jvm.Cond.methodLink "SharedSyntax$Reading" (117 : Nat) ({ cls := "SharedSyntax$Reading", name := "emptyStatement", desc := "()V" } : Jvm.MethodName)) ∈ TB := tb_in (List.mem_of_getElem? (i := 332) (by decide +kernel)) rfl
theorem tw334 : (Jvm.Cond.instanceMethod ({ cls := "SharedSyntax$Reading", name := "emptyStatement", desc := "()V" } : Jvm.MethodName)) ∈ TB := tb_in (List.mem_of_getElem? (i := 334) (by decide +kernel)) rfl
theorem tw335 : (Jvm.Cond.code ({ cls := "SharedSyntax$Reading", name := "emptyStatement", desc := "()V" } : Jvm.MethodName) prog_4_method_13_code (2 : Nat) (Option.none : Option Jvm.ClassFile.FieldType)) ∈ TB := tb_in (List.mem_of_getElem? (i := 335) (by decide +kernel)) rfl
theorem tw336 : (Jvm.Cond.methodLink "SharedSyntax$Reading" (68 : Nat) ({ cls := "SharedSyntax$Reading", name := "take", desc := "()V" } : Jvm.MethodName)) ∈ TB := tb_in (List.mem_of_getElem? (i := 336) (by decide +kernel)) rfl
theorem tw338 : (Jvm.Cond.instanceMethod ({ cls := "SharedSyntax$Reading", name := "take", desc := "()V" } : Jvm.MethodName)) ∈ TB := tb_in (List.mem_of_getElem? (i := 338) (by decide +kernel)) rfl
theorem tw339 : (Jvm.Cond.code ({ cls := "SharedSyntax$Reading", name := "take", desc := "()V" } : Jvm.MethodName) prog_4_method_4_code (2 : Nat) (Option.none : Option Jvm.ClassFile.FieldType)) ∈ TB := tb_in (List.mem_of_getElem? (i := 339) (by decide +kernel)) rfl
theorem tw340 : (Jvm.Cond.methodLink "SharedSyntax$Reading" (85 : Nat) ({ cls := "SharedSyntax$Tokens", name := "own", desc := "()I" } : Jvm.MethodName)) ∈ TB := tb_in (List.mem_of_getElem? (i := 340) (by decide +kernel)) rfl
theorem tw341 : (Jvm.Cond.instanceMethod ({ cls := "SharedSyntax$Tokens", name := "own", desc := "()I" } : Jvm.MethodName)) ∈ TB := tb_in (List.mem_of_getElem? (i := 341) (by decide +kernel)) rfl
theorem tw342 : (Jvm.Cond.selects "SharedSyntax$Tokens" ({ cls := "SharedSyntax$Tokens", name := "own", desc := "()I" } : Jvm.MethodName) ({ cls := "SharedSyntax$Tokens", name := "own", desc := "()I" } : Jvm.MethodName)) ∈ TB := tb_in (List.mem_of_getElem? (i := 342) (by decide +kernel)) rfl
theorem tw343 : (Jvm.Cond.code ({ cls := "SharedSyntax$Tokens", name := "own", desc := "()I" } : Jvm.MethodName) prog_5_method_3_code (1 : Nat) (Option.some Jvm.ClassFile.FieldType.int)) ∈ TB := tb_in (List.mem_of_getElem? (i := 343) (by decide +kernel)) rfl
theorem tw344 : (Jvm.Cond.methodLink "SharedSyntax$Reading" (88 : Nat) ({ cls := "SharedSyntax$Tree", name := "addFault", desc := "(II)V" } : Jvm.MethodName)) ∈ TB := tb_in (List.mem_of_getElem? (i := 344) (by decide +kernel)) rfl
theorem tw345 : (Jvm.Cond.instanceMethod ({ cls := "SharedSyntax$Tree", name := "addFault", desc := "(II)V" } : Jvm.MethodName)) ∈ TB := tb_in (List.mem_of_getElem? (i := 345) (by decide +kernel)) rfl
theorem tw346 : (Jvm.Cond.selects "SharedSyntax$Tree" ({ cls := "SharedSyntax$Tree", name := "addFault", desc := "(II)V" } : Jvm.MethodName) ({ cls := "SharedSyntax$Tree", name := "addFault", desc := "(II)V" } : Jvm.MethodName)) ∈ TB := tb_in (List.mem_of_getElem? (i := 346) (by decide +kernel)) rfl
theorem tw347 : (Jvm.Cond.code ({ cls := "SharedSyntax$Tree", name := "addFault", desc := "(II)V" } : Jvm.MethodName) prog_6_method_4_code (3 : Nat) (Option.none : Option Jvm.ClassFile.FieldType)) ∈ TB := tb_in (List.mem_of_getElem? (i := 347) (by decide +kernel)) rfl
theorem tw348 : (Jvm.Cond.methodLink "SharedSyntax$Reading" (92 : Nat) ({ cls := "SharedSyntax$Tokens", name := "end", desc := "()I" } : Jvm.MethodName)) ∈ TB := tb_in (List.mem_of_getElem? (i := 348) (by decide +kernel)) rfl
theorem tw349 : (Jvm.Cond.instanceMethod ({ cls := "SharedSyntax$Tokens", name := "end", desc := "()I" } : Jvm.MethodName)) ∈ TB := tb_in (List.mem_of_getElem? (i := 349) (by decide +kernel)) rfl
theorem tw350 : (Jvm.Cond.selects "SharedSyntax$Tokens" ({ cls := "SharedSyntax$Tokens", name := "end", desc := "()I" } : Jvm.MethodName) ({ cls := "SharedSyntax$Tokens", name := "end", desc := "()I" } : Jvm.MethodName)) ∈ TB := tb_in (List.mem_of_getElem? (i := 350) (by decide +kernel)) rfl
theorem tw351 : (Jvm.Cond.code ({ cls := "SharedSyntax$Tokens", name := "end", desc := "()I" } : Jvm.MethodName) prog_5_method_4_code (1 : Nat) (Option.some Jvm.ClassFile.FieldType.int)) ∈ TB := tb_in (List.mem_of_getElem? (i := 351) (by decide +kernel)) rfl
theorem tw352 : (Jvm.Cond.methodLink "SharedSyntax$Reading" (95 : Nat) ({ cls := "SharedSyntax$Tokens", name := "advance", desc := "()V" } : Jvm.MethodName)) ∈ TB := tb_in (List.mem_of_getElem? (i := 352) (by decide +kernel)) rfl
theorem tw353 : (Jvm.Cond.instanceMethod ({ cls := "SharedSyntax$Tokens", name := "advance", desc := "()V" } : Jvm.MethodName)) ∈ TB := tb_in (List.mem_of_getElem? (i := 353) (by decide +kernel)) rfl
theorem tw354 : (Jvm.Cond.selects "SharedSyntax$Tokens" ({ cls := "SharedSyntax$Tokens", name := "advance", desc := "()V" } : Jvm.MethodName) ({ cls := "SharedSyntax$Tokens", name := "advance", desc := "()V" } : Jvm.MethodName)) ∈ TB := tb_in (List.mem_of_getElem? (i := 354) (by decide +kernel)) rfl
theorem tw355 : (Jvm.Cond.code ({ cls := "SharedSyntax$Tokens", name := "advance", desc := "()V" } : Jvm.MethodName) prog_5_method_5_code (1 : Nat) (Option.none : Option Jvm.ClassFile.FieldType)) ∈ TB := tb_in (List.mem_of_getElem? (i := 355) (by decide +kernel)) rfl
theorem tw356 : (Jvm.Cond.methodLink "SharedSyntax$Reading" (71 : Nat) ({ cls := "SharedSyntax$Tree", name := "close", desc := "(I)V" } : Jvm.MethodName)) ∈ TB := tb_in (List.mem_of_getElem? (i := 356) (by decide +kernel)) rfl
theorem tw357 : (Jvm.Cond.instanceMethod ({ cls := "SharedSyntax$Tree", name := "close", desc := "(I)V" } : Jvm.MethodName)) ∈ TB := tb_in (List.mem_of_getElem? (i := 357) (by decide +kernel)) rfl
theorem tw358 : (Jvm.Cond.selects "SharedSyntax$Tree" ({ cls := "SharedSyntax$Tree", name := "close", desc := "(I)V" } : Jvm.MethodName) ({ cls := "SharedSyntax$Tree", name := "close", desc := "(I)V" } : Jvm.MethodName)) ∈ TB := tb_in (List.mem_of_getElem? (i := 358) (by decide +kernel)) rfl
theorem tw359 : (Jvm.Cond.code ({ cls := "SharedSyntax$Tree", name := "close", desc := "(I)V" } : Jvm.MethodName) prog_6_method_7_code (2 : Nat) (Option.none : Option Jvm.ClassFile.FieldType)) ∈ TB := tb_in (List.mem_of_getElem? (i := 359) (by decide +kernel)) rfl
theorem tw360 : (Jvm.Cond.methodLink "SharedSyntax$Tree" (41 : Nat) ({ cls := "SharedSyntax$Tree", name := "has", desc := "(I)Z" } : Jvm.MethodName)) ∈ TB := tb_in (List.mem_of_getElem? (i := 360) (by decide +kernel)) rfl
theorem tw361 : (Jvm.Cond.instanceMethod ({ cls := "SharedSyntax$Tree", name := "has", desc := "(I)Z" } : Jvm.MethodName)) ∈ TB := tb_in (List.mem_of_getElem? (i := 361) (by decide +kernel)) rfl
theorem tw362 : (Jvm.Cond.selects "SharedSyntax$Tree" ({ cls := "SharedSyntax$Tree", name := "has", desc := "(I)Z" } : Jvm.MethodName) ({ cls := "SharedSyntax$Tree", name := "has", desc := "(I)Z" } : Jvm.MethodName)) ∈ TB := tb_in (List.mem_of_getElem? (i := 362) (by decide +kernel)) rfl
theorem tw363 : (Jvm.Cond.code ({ cls := "SharedSyntax$Tree", name := "has", desc := "(I)Z" } : Jvm.MethodName) prog_6_method_9_code (2 : Nat) (Option.some Jvm.ClassFile.FieldType.boolean)) ∈ TB := tb_in (List.mem_of_getElem? (i := 363) (by decide +kernel)) rfl
theorem tw364 : (Jvm.Cond.methodLink "SharedSyntax$Reading" (120 : Nat) ({ cls := "SharedSyntax$Reading", name := "block", desc := "(I)V" } : Jvm.MethodName)) ∈ TB := tb_in (List.mem_of_getElem? (i := 364) (by decide +kernel)) rfl
theorem tw366 : (Jvm.Cond.instanceMethod ({ cls := "SharedSyntax$Reading", name := "block", desc := "(I)V" } : Jvm.MethodName)) ∈ TB := tb_in (List.mem_of_getElem? (i := 366) (by decide +kernel)) rfl
theorem tw367 : (Jvm.Cond.code ({ cls := "SharedSyntax$Reading", name := "block", desc := "(I)V" } : Jvm.MethodName) prog_4_method_14_code (3 : Nat) (Option.none : Option Jvm.ClassFile.FieldType)) ∈ TB := tb_in (List.mem_of_getElem? (i := 367) (by decide +kernel)) rfl
theorem tw368 : (Jvm.Cond.methodLink "SharedSyntax$Reading" (132 : Nat) ({ cls := "SharedSyntax$Reading", name := "expect", desc := "(I)V" } : Jvm.MethodName)) ∈ TB := tb_in (List.mem_of_getElem? (i := 368) (by decide +kernel)) rfl
theorem tw370 : (Jvm.Cond.instanceMethod ({ cls := "SharedSyntax$Reading", name := "expect", desc := "(I)V" } : Jvm.MethodName)) ∈ TB := tb_in (List.mem_of_getElem? (i := 370) (by decide +kernel)) rfl
theorem tw371 : (Jvm.Cond.code ({ cls := "SharedSyntax$Reading", name := "expect", desc := "(I)V" } : Jvm.MethodName) prog_4_method_7_code (2 : Nat) (Option.none : Option Jvm.ClassFile.FieldType)) ∈ TB := tb_in (List.mem_of_getElem? (i := 371) (by decide +kernel)) rfl
theorem tw372 : (Jvm.Cond.methodLink "SharedSyntax$Reading" (102 : Nat) ({ cls := "SharedSyntax$Reading", name := "miss", desc := "(II)V" } : Jvm.MethodName)) ∈ TB := tb_in (List.mem_of_getElem? (i := 372) (by decide +kernel)) rfl
theorem tw374 : (Jvm.Cond.instanceMethod ({ cls := "SharedSyntax$Reading", name := "miss", desc := "(II)V" } : Jvm.MethodName)) ∈ TB := tb_in (List.mem_of_getElem? (i := 374) (by decide +kernel)) rfl
theorem tw375 : (Jvm.Cond.code ({ cls := "SharedSyntax$Reading", name := "miss", desc := "(II)V" } : Jvm.MethodName) prog_4_method_6_code (3 : Nat) (Option.none : Option Jvm.ClassFile.FieldType)) ∈ TB := tb_in (List.mem_of_getElem? (i := 375) (by decide +kernel)) rfl
theorem tw376 : (Jvm.Cond.methodLink "SharedSyntax$Reading" (123 : Nat) ({ cls := "SharedSyntax$Reading", name := "ifStatement", desc := "(I)V" } : Jvm.MethodName)) ∈ TB := tb_in (List.mem_of_getElem? (i := 376) (by decide +kernel)) rfl
theorem tw378 : (Jvm.Cond.instanceMethod ({ cls := "SharedSyntax$Reading", name := "ifStatement", desc := "(I)V" } : Jvm.MethodName)) ∈ TB := tb_in (List.mem_of_getElem? (i := 378) (by decide +kernel)) rfl
theorem tw379 : (Jvm.Cond.code ({ cls := "SharedSyntax$Reading", name := "ifStatement", desc := "(I)V" } : Jvm.MethodName) prog_4_method_15_code (3 : Nat) (Option.none : Option Jvm.ClassFile.FieldType)) ∈ TB := tb_in (List.mem_of_getElem? (i := 379) (by decide +kernel)) rfl
theorem tw380 : (Jvm.Cond.methodLink "SharedSyntax$Reading" (135 : Nat) ({ cls := "SharedSyntax$Reading", name := "condition", desc := "()V" } : Jvm.MethodName)) ∈ TB := tb_in (List.mem_of_getElem? (i := 380) (by decide +kernel)) rfl
theorem tw382 : (Jvm.Cond.instanceMethod ({ cls := "SharedSyntax$Reading", name := "condition", desc := "()V" } : Jvm.MethodName)) ∈ TB := tb_in (List.mem_of_getElem? (i := 382) (by decide +kernel)) rfl
theorem tw383 : (Jvm.Cond.code ({ cls := "SharedSyntax$Reading", name := "condition", desc := "()V" } : Jvm.MethodName) prog_4_method_18_code (1 : Nat) (Option.none : Option Jvm.ClassFile.FieldType)) ∈ TB := tb_in (List.mem_of_getElem? (i := 383) (by decide +kernel)) rfl
theorem tw384 : (Jvm.Cond.methodLink "SharedSyntax$Reading" (141 : Nat) ({ cls := "SharedSyntax$Reading", name := "expression", desc := "(I)V" } : Jvm.MethodName)) ∈ TB := tb_in (List.mem_of_getElem? (i := 384) (by decide +kernel)) rfl
theorem tw386 : (Jvm.Cond.instanceMethod ({ cls := "SharedSyntax$Reading", name := "expression", desc := "(I)V" } : Jvm.MethodName)) ∈ TB := tb_in (List.mem_of_getElem? (i := 386) (by decide +kernel)) rfl
theorem tw387 : (Jvm.Cond.code ({ cls := "SharedSyntax$Reading", name := "expression", desc := "(I)V" } : Jvm.MethodName) prog_4_method_20_code (7 : Nat) (Option.none : Option Jvm.ClassFile.FieldType)) ∈ TB := tb_in (List.mem_of_getElem? (i := 387) (by decide +kernel)) rfl
theorem tw388 : (Jvm.Cond.methodLink "SharedSyntax$Reading" (147 : Nat) ({ cls := "SharedSyntax$Reading", name := "operand", desc := "(I)V" } : Jvm.MethodName)) ∈ TB := tb_in (List.mem_of_getElem? (i := 388) (by decide +kernel)) rfl
theorem tw390 : (Jvm.Cond.instanceMethod ({ cls := "SharedSyntax$Reading", name := "operand", desc := "(I)V" } : Jvm.MethodName)) ∈ TB := tb_in (List.mem_of_getElem? (i := 390) (by decide +kernel)) rfl
theorem tw391 : (Jvm.Cond.code ({ cls := "SharedSyntax$Reading", name := "operand", desc := "(I)V" } : Jvm.MethodName) prog_4_method_24_code (4 : Nat) (Option.none : Option Jvm.ClassFile.FieldType)) ∈ TB := tb_in (List.mem_of_getElem? (i := 391) (by decide +kernel)) rfl
theorem tw392 : (Jvm.Cond.methodLink "SharedSyntax$Reading" (162 : Nat) ({ cls := "SharedSyntax$Reading", name := "parentheses", desc := "(I)V" } : Jvm.MethodName)) ∈ TB := tb_in (List.mem_of_getElem? (i := 392) (by decide +kernel)) rfl
theorem tw394 : (Jvm.Cond.instanceMethod ({ cls := "SharedSyntax$Reading", name := "parentheses", desc := "(I)V" } : Jvm.MethodName)) ∈ TB := tb_in (List.mem_of_getElem? (i := 394) (by decide +kernel)) rfl
theorem tw395 : (Jvm.Cond.code ({ cls := "SharedSyntax$Reading", name := "parentheses", desc := "(I)V" } : Jvm.MethodName) prog_4_method_25_code (3 : Nat) (Option.none : Option Jvm.ClassFile.FieldType)) ∈ TB := tb_in (List.mem_of_getElem? (i := 395) (by decide +kernel)) rfl
theorem tw396 : (Jvm.Cond.methodLink "SharedSyntax$Reading" (165 : Nat) ({ cls := "SharedSyntax$Reading", name := "negative", desc := "(I)V" } : Jvm.MethodName)) ∈ TB := tb_in (List.mem_of_getElem? (i := 396) (by decide +kernel)) rfl
theorem tw398 : (Jvm.Cond.instanceMethod ({ cls := "SharedSyntax$Reading", name := "negative", desc := "(I)V" } : Jvm.MethodName)) ∈ TB := tb_in (List.mem_of_getElem? (i := 398) (by decide +kernel)) rfl
theorem tw399 : (Jvm.Cond.code ({ cls := "SharedSyntax$Reading", name := "negative", desc := "(I)V" } : Jvm.MethodName) prog_4_method_26_code (3 : Nat) (Option.none : Option Jvm.ClassFile.FieldType)) ∈ TB := tb_in (List.mem_of_getElem? (i := 399) (by decide +kernel)) rfl
theorem tw400 : (Jvm.Cond.methodLink "SharedSyntax$Reading" (150 : Nat) ({ cls := "SharedSyntax$Reading", name := "bindingOf", desc := "(I)I" } : Jvm.MethodName)) ∈ TB := tb_in (List.mem_of_getElem? (i := 400) (by decide +kernel)) rfl
theorem tw401 : (Jvm.Cond.static ({ cls := "SharedSyntax$Reading", name := "bindingOf", desc := "(I)I" } : Jvm.MethodName)) ∈ TB := tb_in (List.mem_of_getElem? (i := 401) (by decide +kernel)) rfl
theorem tw402 : (Jvm.Cond.code ({ cls := "SharedSyntax$Reading", name := "bindingOf", desc := "(I)I" } : Jvm.MethodName) prog_4_method_23_code (1 : Nat) (Option.some Jvm.ClassFile.FieldType.int)) ∈ TB := tb_in (List.mem_of_getElem? (i := 402) (by decide +kernel)) rfl
theorem tw403 : (Jvm.Cond.methodLink "SharedSyntax$Reading" (153 : Nat) ({ cls := "SharedSyntax$Reading", name := "closeSigns", desc := "(III)I" } : Jvm.MethodName)) ∈ TB := tb_in (List.mem_of_getElem? (i := 403) (by decide +kernel)) rfl
theorem tw405 : (Jvm.Cond.instanceMethod ({ cls := "SharedSyntax$Reading", name := "closeSigns", desc := "(III)I" } : Jvm.MethodName)) ∈ TB := tb_in (List.mem_of_getElem? (i := 405) (by decide +kernel)) rfl
theorem tw406 : (Jvm.Cond.code ({ cls := "SharedSyntax$Reading", name := "closeSigns", desc := "(III)I" } : Jvm.MethodName) prog_4_method_21_code (5 : Nat) (Option.some Jvm.ClassFile.FieldType.int)) ∈ TB := tb_in (List.mem_of_getElem? (i := 406) (by decide +kernel)) rfl
theorem tw407 : (Jvm.Cond.methodLink "SharedSyntax$Reading" (156 : Nat) ({ cls := "SharedSyntax$Tree", name := "wrap", desc := "(II)V" } : Jvm.MethodName)) ∈ TB := tb_in (List.mem_of_getElem? (i := 407) (by decide +kernel)) rfl
theorem tw408 : (Jvm.Cond.instanceMethod ({ cls := "SharedSyntax$Tree", name := "wrap", desc := "(II)V" } : Jvm.MethodName)) ∈ TB := tb_in (List.mem_of_getElem? (i := 408) (by decide +kernel)) rfl
theorem tw409 : (Jvm.Cond.selects "SharedSyntax$Tree" ({ cls := "SharedSyntax$Tree", name := "wrap", desc := "(II)V" } : Jvm.MethodName) ({ cls := "SharedSyntax$Tree", name := "wrap", desc := "(II)V" } : Jvm.MethodName)) ∈ TB := tb_in (List.mem_of_getElem? (i := 409) (by decide +kernel)) rfl
theorem tw410 : (Jvm.Cond.code ({ cls := "SharedSyntax$Tree", name := "wrap", desc := "(II)V" } : Jvm.MethodName) prog_6_method_5_code (3 : Nat) (Option.none : Option Jvm.ClassFile.FieldType)) ∈ TB := tb_in (List.mem_of_getElem? (i := 410) (by decide +kernel)) rfl
theorem tw411 : (Jvm.Cond.methodLink "SharedSyntax$Tree" (45 : Nat) ({ cls := "SharedSyntax$Tree", name := "shift", desc := "([II)V" } : Jvm.MethodName)) ∈ TB := tb_in (List.mem_of_getElem? (i := 411) (by decide +kernel)) rfl
theorem tw413 : (Jvm.Cond.instanceMethod ({ cls := "SharedSyntax$Tree", name := "shift", desc := "([II)V" } : Jvm.MethodName)) ∈ TB := tb_in (List.mem_of_getElem? (i := 413) (by decide +kernel)) rfl
theorem tw414 : (Jvm.Cond.code ({ cls := "SharedSyntax$Tree", name := "shift", desc := "([II)V" } : Jvm.MethodName) prog_6_method_6_code (3 : Nat) (Option.none : Option Jvm.ClassFile.FieldType)) ∈ TB := tb_in (List.mem_of_getElem? (i := 414) (by decide +kernel)) rfl
theorem tw415 : (Jvm.Cond.methodLink "SharedSyntax$Tree" (49 : Nat) ({ cls := "java/lang/System", name := "arraycopy", desc := "(Ljava/lang/Object;ILjava/lang/Object;II)V" } : Jvm.MethodName)) ∈ TB := tb_in (List.mem_of_getElem? (i := 415) (by decide +kernel)) rfl
theorem tw416 : (Jvm.Cond.static ({ cls := "java/lang/System", name := "arraycopy", desc := "(Ljava/lang/Object;ILjava/lang/Object;II)V" } : Jvm.MethodName)) ∈ TB := tb_in (List.mem_of_getElem? (i := 416) (by decide +kernel)) rfl
theorem tw417 : (Jvm.Cond.native ({ cls := "java/lang/System", name := "arraycopy", desc := "(Ljava/lang/Object;ILjava/lang/Object;II)V" } : Jvm.MethodName)) ∈ TB := tb_in (List.mem_of_getElem? (i := 417) (by decide +kernel)) rfl
theorem tw418 : (Jvm.Cond.methodLink "SharedSyntax$Reading" (159 : Nat) ({ cls := "SharedSyntax$Reading", name := "openSign", desc := "(II)V" } : Jvm.MethodName)) ∈ TB := tb_in (List.mem_of_getElem? (i := 418) (by decide +kernel)) rfl
theorem tw420 : (Jvm.Cond.instanceMethod ({ cls := "SharedSyntax$Reading", name := "openSign", desc := "(II)V" } : Jvm.MethodName)) ∈ TB := tb_in (List.mem_of_getElem? (i := 420) (by decide +kernel)) rfl
theorem tw421 : (Jvm.Cond.code ({ cls := "SharedSyntax$Reading", name := "openSign", desc := "(II)V" } : Jvm.MethodName) prog_4_method_22_code (3 : Nat) (Option.none : Option Jvm.ClassFile.FieldType)) ∈ TB := tb_in (List.mem_of_getElem? (i := 421) (by decide +kernel)) rfl
theorem tw422 : (Jvm.Cond.methodLink "SharedSyntax$Reading" (138 : Nat) ({ cls := "SharedSyntax$Reading", name := "part", desc := "(I)V" } : Jvm.MethodName)) ∈ TB := tb_in (List.mem_of_getElem? (i := 422) (by decide +kernel)) rfl
theorem tw424 : (Jvm.Cond.instanceMethod ({ cls := "SharedSyntax$Reading", name := "part", desc := "(I)V" } : Jvm.MethodName)) ∈ TB := tb_in (List.mem_of_getElem? (i := 424) (by decide +kernel)) rfl
theorem tw425 : (Jvm.Cond.code ({ cls := "SharedSyntax$Reading", name := "part", desc := "(I)V" } : Jvm.MethodName) prog_4_method_19_code (3 : Nat) (Option.none : Option Jvm.ClassFile.FieldType)) ∈ TB := tb_in (List.mem_of_getElem? (i := 425) (by decide +kernel)) rfl
theorem tw426 : (Jvm.Cond.methodLink "SharedSyntax$Reading" (126 : Nat) ({ cls := "SharedSyntax$Reading", name := "whileStatement", desc := "(I)V" } : Jvm.MethodName)) ∈ TB := tb_in (List.mem_of_getElem? (i := 426) (by decide +kernel)) rfl
theorem tw428 : (Jvm.Cond.instanceMethod ({ cls := "SharedSyntax$Reading", name := "whileStatement", desc := "(I)V" } : Jvm.MethodName)) ∈ TB := tb_in (List.mem_of_getElem? (i := 428) (by decide +kernel)) rfl
theorem tw429 : (Jvm.Cond.code ({ cls := "SharedSyntax$Reading", name := "whileStatement", desc := "(I)V" } : Jvm.MethodName) prog_4_method_16_code (3 : Nat) (Option.none : Option Jvm.ClassFile.FieldType)) ∈ TB := tb_in (List.mem_of_getElem? (i := 429) (by decide +kernel)) rfl
theorem tw430 : (Jvm.Cond.methodLink "SharedSyntax$Reading" (129 : Nat) ({ cls := "SharedSyntax$Reading", name := "simpleStatement", desc := "()V" } : Jvm.MethodName)) ∈ TB := tb_in (List.mem_of_getElem? (i := 430) (by decide +kernel)) rfl
theorem tw432 : (Jvm.Cond.instanceMethod ({ cls := "SharedSyntax$Reading", name := "simpleStatement", desc := "()V" } : Jvm.MethodName)) ∈ TB := tb_in (List.mem_of_getElem? (i := 432) (by decide +kernel)) rfl
theorem tw433 : (Jvm.Cond.code ({ cls := "SharedSyntax$Reading", name := "simpleStatement", desc := "()V" } : Jvm.MethodName) prog_4_method_17_code (2 : Nat) (Option.none : Option Jvm.ClassFile.FieldType)) ∈ TB := tb_in (List.mem_of_getElem? (i := 433) (by decide +kernel)) rfl
theorem tw434 : (Jvm.Cond.methodLink "SharedSyntax$Reading" (114 : Nat) ({ cls := "SharedSyntax$Reading", name := "skip", desc := "()V" } : Jvm.MethodName)) ∈ TB := tb_in (List.mem_of_getElem? (i := 434) (by decide +kernel)) rfl
theorem tw436 : (Jvm.Cond.instanceMethod ({ cls := "SharedSyntax$Reading", name := "skip", desc := "()V" } : Jvm.MethodName)) ∈ TB := tb_in (List.mem_of_getElem? (i := 436) (by decide +kernel)) rfl
theorem tw437 : (Jvm.Cond.code ({ cls := "SharedSyntax$Reading", name := "skip", desc := "()V" } : Jvm.MethodName) prog_4_method_5_code (1 : Nat) (Option.none : Option Jvm.ClassFile.FieldType)) ∈ TB := tb_in (List.mem_of_getElem? (i := 437) (by decide +kernel)) rfl
theorem tw438 : (Jvm.Cond.methodLink "SharedSyntax$Reading" (74 : Nat) ({ cls := "SharedSyntax$Tree", name := "finish", desc := "()V" } : Jvm.MethodName)) ∈ TB := tb_in (List.mem_of_getElem? (i := 438) (by decide +kernel)) rfl
theorem tw439 : (Jvm.Cond.instanceMethod ({ cls := "SharedSyntax$Tree", name := "finish", desc := "()V" } : Jvm.MethodName)) ∈ TB := tb_in (List.mem_of_getElem? (i := 439) (by decide +kernel)) rfl
theorem tw440 : (Jvm.Cond.selects "SharedSyntax$Tree" ({ cls := "SharedSyntax$Tree", name := "finish", desc := "()V" } : Jvm.MethodName) ({ cls := "SharedSyntax$Tree", name := "finish", desc := "()V" } : Jvm.MethodName)) ∈ TB := tb_in (List.mem_of_getElem? (i := 440) (by decide +kernel)) rfl
theorem tw441 : (Jvm.Cond.code ({ cls := "SharedSyntax$Tree", name := "finish", desc := "()V" } : Jvm.MethodName) prog_6_method_8_code (1 : Nat) (Option.none : Option Jvm.ClassFile.FieldType)) ∈ TB := tb_in (List.mem_of_getElem? (i := 441) (by decide +kernel)) rfl
theorem tw442 : (Jvm.Cond.classLink "SharedSyntax" (33 : Nat) "SharedSyntax$History") ∈ TB := tb_in (List.mem_of_getElem? (i := 442) (by decide +kernel)) rfl
theorem tw443 : (Jvm.Cond.instantiable "SharedSyntax$History" (2 : Nat)) ∈ TB := tb_in (List.mem_of_getElem? (i := 443) (by decide +kernel)) rfl
theorem tw444 : (Jvm.Cond.methodLink "SharedSyntax" (35 : Nat) ({ cls := "SharedSyntax$History", name := "<init>", desc := "()V" } : Jvm.MethodName)) ∈ TB := tb_in (List.mem_of_getElem? (i := 444) (by decide +kernel)) rfl
theorem tw445 : (Jvm.Cond.instanceMethod ({ cls := "SharedSyntax$History", name := "<init>", desc := "()V" } : Jvm.MethodName)) ∈ TB := tb_in (List.mem_of_getElem? (i := 445) (by decide +kernel)) rfl
theorem tw446 : (Jvm.Cond.code ({ cls := "SharedSyntax$History", name := "<init>", desc := "()V" } : Jvm.MethodName) prog_2_method_1_code (2 : Nat) (Option.none : Option Jvm.ClassFile.FieldType)) ∈ TB := tb_in (List.mem_of_getElem? (i := 446) (by decide +kernel)) rfl
theorem tw447 : (Jvm.Cond.methodLink "SharedSyntax$History" (3 : Nat) ({ cls := "java/lang/Object", name := "<init>", desc := "()V" } : Jvm.MethodName)) ∈ TB := tb_in (List.mem_of_getElem? (i := 447) (by decide +kernel)) rfl
theorem tw448 : (Jvm.Cond.classLink "SharedSyntax$History" (9 : Nat) "SharedSyntax$Letters") ∈ TB := tb_in (List.mem_of_getElem? (i := 448) (by decide +kernel)) rfl
theorem tw449 : (Jvm.Cond.arrayOver (Jvm.ClassFile.FieldType.object "SharedSyntax$Letters")) ∈ tables_1 := List.mem_of_getElem? (i := 449) (by decide +kernel)
theorem tw450 : (Jvm.Cond.methodLink "SharedSyntax$History" (17 : Nat) ({ cls := "SharedSyntax$Letters", name := "<init>", desc := "(I)V" } : Jvm.MethodName)) ∈ TB := tb_in (List.mem_of_getElem? (i := 450) (by decide +kernel)) rfl
theorem tw451 : (Jvm.Cond.fieldLink "SharedSyntax$History" (11 : Nat) "SharedSyntax$History" "texts" "[LSharedSyntax$Letters;") ∈ TB := tb_in (List.mem_of_getElem? (i := 451) (by decide +kernel)) rfl
theorem tw452 : (Jvm.Cond.fieldLink "SharedSyntax$History" (20 : Nat) "SharedSyntax$History" "stored" "I") ∈ TB := tb_in (List.mem_of_getElem? (i := 452) (by decide +kernel)) rfl
theorem tw453 : (Jvm.Cond.fieldLinkNest "SharedSyntax" (149 : Nat) "SharedSyntax$History" "stored" "I" "SharedSyntax") ∈ tables_1 := List.mem_of_getElem? (i := 453) (by decide +kernel)
theorem tw454 : (Jvm.Cond.laysFinal "SharedSyntax$History" "SharedSyntax$History" "texts" "[LSharedSyntax$Letters;") ∈ TB := tb_in (List.mem_of_getElem? (i := 454) (by decide +kernel)) rfl
theorem tw456 : (Jvm.Cond.lays "SharedSyntax$History" "SharedSyntax$History" "stored" "I") ∈ TB := tb_in (List.mem_of_getElem? (i := 456) (by decide +kernel)) rfl
theorem tw459 : (Jvm.Cond.arrayClass Jvm.ClassFile.FieldType.byte) ∈ TB := tb_in (List.mem_of_getElem? (i := 459) (by decide +kernel)) rfl
theorem tw460 : (Jvm.Cond.fieldLink "SharedSyntax" (29 : Nat) "SharedSyntax" "buffer" "LSharedSyntax$Letters;") ∈ TB := tb_in (List.mem_of_getElem? (i := 460) (by decide +kernel)) rfl
theorem tw461 : (Jvm.Cond.fieldLink "SharedSyntax" (36 : Nat) "SharedSyntax" "history" "LSharedSyntax$History;") ∈ TB := tb_in (List.mem_of_getElem? (i := 461) (by decide +kernel)) rfl
theorem tw462 : (Jvm.Cond.fieldLink "SharedSyntax" (22 : Nat) "SharedSyntax" "current" "LSharedSyntax$Reading;") ∈ TB := tb_in (List.mem_of_getElem? (i := 462) (by decide +kernel)) rfl
theorem tw463 : (Jvm.Cond.fieldLink "SharedSyntax" (26 : Nat) "SharedSyntax" "spare" "LSharedSyntax$Reading;") ∈ TB := tb_in (List.mem_of_getElem? (i := 463) (by decide +kernel)) rfl
theorem tw464 : (Jvm.Cond.fieldLink "SharedSyntax" (40 : Nat) "SharedSyntax" "version" "I") ∈ TB := tb_in (List.mem_of_getElem? (i := 464) (by decide +kernel)) rfl
theorem tw465 : (Jvm.Cond.fieldLink "SharedSyntax" (44 : Nat) "SharedSyntax" "kept" "I") ∈ TB := tb_in (List.mem_of_getElem? (i := 465) (by decide +kernel)) rfl
theorem tw466 : (Jvm.Cond.laysFinal "SharedSyntax" "SharedSyntax" "buffer" "LSharedSyntax$Letters;") ∈ TB := tb_in (List.mem_of_getElem? (i := 466) (by decide +kernel)) rfl
theorem tw468 : (Jvm.Cond.laysFinal "SharedSyntax" "SharedSyntax" "history" "LSharedSyntax$History;") ∈ TB := tb_in (List.mem_of_getElem? (i := 468) (by decide +kernel)) rfl
theorem tw470 : (Jvm.Cond.lays "SharedSyntax" "SharedSyntax" "current" "LSharedSyntax$Reading;") ∈ TB := tb_in (List.mem_of_getElem? (i := 470) (by decide +kernel)) rfl
theorem tw472 : (Jvm.Cond.lays "SharedSyntax" "SharedSyntax" "spare" "LSharedSyntax$Reading;") ∈ TB := tb_in (List.mem_of_getElem? (i := 472) (by decide +kernel)) rfl
theorem tw474 : (Jvm.Cond.lays "SharedSyntax" "SharedSyntax" "version" "I") ∈ TB := tb_in (List.mem_of_getElem? (i := 474) (by decide +kernel)) rfl
theorem tw476 : (Jvm.Cond.lays "SharedSyntax" "SharedSyntax" "kept" "I") ∈ TB := tb_in (List.mem_of_getElem? (i := 476) (by decide +kernel)) rfl
theorem tw479 : (Jvm.Cond.methodLink "SharedSyntaxLaw" (13 : Nat) ({ cls := "SharedSyntax", name := "type", desc := "(C)Z" } : Jvm.MethodName)) ∈ TB := tb_in (List.mem_of_getElem? (i := 479) (by decide +kernel)) rfl
theorem tw480 : (Jvm.Cond.instanceMethod ({ cls := "SharedSyntax", name := "type", desc := "(C)Z" } : Jvm.MethodName)) ∈ TB := tb_in (List.mem_of_getElem? (i := 480) (by decide +kernel)) rfl
theorem tw481 : (Jvm.Cond.selects "SharedSyntax" ({ cls := "SharedSyntax", name := "type", desc := "(C)Z" } : Jvm.MethodName) ({ cls := "SharedSyntax", name := "type", desc := "(C)Z" } : Jvm.MethodName)) ∈ TB := tb_in (List.mem_of_getElem? (i := 481) (by decide +kernel)) rfl
theorem tw482 : (Jvm.Cond.code ({ cls := "SharedSyntax", name := "type", desc := "(C)Z" } : Jvm.MethodName) prog_1_method_2_code (3 : Nat) (Option.some Jvm.ClassFile.FieldType.boolean)) ∈ TB := tb_in (List.mem_of_getElem? (i := 482) (by decide +kernel)) rfl
theorem tw483 : (Jvm.Cond.methodLink "SharedSyntax" (47 : Nat) ({ cls := "SharedSyntax$Letters", name := "append", desc := "(I)Z" } : Jvm.MethodName)) ∈ TB := tb_in (List.mem_of_getElem? (i := 483) (by decide +kernel)) rfl
theorem tw484 : (Jvm.Cond.instanceMethod ({ cls := "SharedSyntax$Letters", name := "append", desc := "(I)Z" } : Jvm.MethodName)) ∈ TB := tb_in (List.mem_of_getElem? (i := 484) (by decide +kernel)) rfl
theorem tw485 : (Jvm.Cond.selects "SharedSyntax$Letters" ({ cls := "SharedSyntax$Letters", name := "append", desc := "(I)Z" } : Jvm.MethodName) ({ cls := "SharedSyntax$Letters", name := "append", desc := "(I)Z" } : Jvm.MethodName)) ∈ TB := tb_in (List.mem_of_getElem? (i := 485) (by decide +kernel)) rfl
theorem tw486 : (Jvm.Cond.code ({ cls := "SharedSyntax$Letters", name := "append", desc := "(I)Z" } : Jvm.MethodName) prog_3_method_3_code (2 : Nat) (Option.some Jvm.ClassFile.FieldType.boolean)) ∈ TB := tb_in (List.mem_of_getElem? (i := 486) (by decide +kernel)) rfl
theorem tw487 : (Jvm.Cond.methodLink "SharedSyntaxLaw" (18 : Nat) ({ cls := "SharedSyntax", name := "edit", desc := "(II)Z" } : Jvm.MethodName)) ∈ TB := tb_in (List.mem_of_getElem? (i := 487) (by decide +kernel)) rfl
theorem tw488 : (Jvm.Cond.instanceMethod ({ cls := "SharedSyntax", name := "edit", desc := "(II)Z" } : Jvm.MethodName)) ∈ TB := tb_in (List.mem_of_getElem? (i := 488) (by decide +kernel)) rfl
theorem tw489 : (Jvm.Cond.selects "SharedSyntax" ({ cls := "SharedSyntax", name := "edit", desc := "(II)Z" } : Jvm.MethodName) ({ cls := "SharedSyntax", name := "edit", desc := "(II)Z" } : Jvm.MethodName)) ∈ TB := tb_in (List.mem_of_getElem? (i := 489) (by decide +kernel)) rfl
theorem tw490 : (Jvm.Cond.code ({ cls := "SharedSyntax", name := "edit", desc := "(II)Z" } : Jvm.MethodName) prog_1_method_3_code (4 : Nat) (Option.some Jvm.ClassFile.FieldType.boolean)) ∈ TB := tb_in (List.mem_of_getElem? (i := 490) (by decide +kernel)) rfl
theorem tw491 : (Jvm.Cond.methodLink "SharedSyntax" (51 : Nat) ({ cls := "SharedSyntax", name := "fits", desc := "(II)Z" } : Jvm.MethodName)) ∈ TB := tb_in (List.mem_of_getElem? (i := 491) (by decide +kernel)) rfl
theorem tw493 : (Jvm.Cond.instanceMethod ({ cls := "SharedSyntax", name := "fits", desc := "(II)Z" } : Jvm.MethodName)) ∈ TB := tb_in (List.mem_of_getElem? (i := 493) (by decide +kernel)) rfl
theorem tw494 : (Jvm.Cond.code ({ cls := "SharedSyntax", name := "fits", desc := "(II)Z" } : Jvm.MethodName) prog_1_method_13_code (4 : Nat) (Option.some Jvm.ClassFile.FieldType.boolean)) ∈ TB := tb_in (List.mem_of_getElem? (i := 494) (by decide +kernel)) rfl
theorem tw495 : (Jvm.Cond.methodLink "SharedSyntax" (58 : Nat) ({ cls := "SharedSyntax$History", name := "store", desc := "(LSharedSyntax$Letters;)V" } : Jvm.MethodName)) ∈ TB := tb_in (List.mem_of_getElem? (i := 495) (by decide +kernel)) rfl
theorem tw496 : (Jvm.Cond.instanceMethod ({ cls := "SharedSyntax$History", name := "store", desc := "(LSharedSyntax$Letters;)V" } : Jvm.MethodName)) ∈ TB := tb_in (List.mem_of_getElem? (i := 496) (by decide +kernel)) rfl
theorem tw497 : (Jvm.Cond.selects "SharedSyntax$History" ({ cls := "SharedSyntax$History", name := "store", desc := "(LSharedSyntax$Letters;)V" } : Jvm.MethodName) ({ cls := "SharedSyntax$History", name := "store", desc := "(LSharedSyntax$Letters;)V" } : Jvm.MethodName)) ∈ TB := tb_in (List.mem_of_getElem? (i := 497) (by decide +kernel)) rfl
theorem tw498 : (Jvm.Cond.code ({ cls := "SharedSyntax$History", name := "store", desc := "(LSharedSyntax$Letters;)V" } : Jvm.MethodName) prog_2_method_2_code (2 : Nat) (Option.none : Option Jvm.ClassFile.FieldType)) ∈ TB := tb_in (List.mem_of_getElem? (i := 498) (by decide +kernel)) rfl
theorem tw499 : (Jvm.Cond.methodLink "SharedSyntax$History" (24 : Nat) ({ cls := "SharedSyntax$History", name := "giveUpFirst", desc := "()V" } : Jvm.MethodName)) ∈ TB := tb_in (List.mem_of_getElem? (i := 499) (by decide +kernel)) rfl
theorem tw501 : (Jvm.Cond.instanceMethod ({ cls := "SharedSyntax$History", name := "giveUpFirst", desc := "()V" } : Jvm.MethodName)) ∈ TB := tb_in (List.mem_of_getElem? (i := 501) (by decide +kernel)) rfl
theorem tw502 : (Jvm.Cond.code ({ cls := "SharedSyntax$History", name := "giveUpFirst", desc := "()V" } : Jvm.MethodName) prog_2_method_4_code (3 : Nat) (Option.none : Option Jvm.ClassFile.FieldType)) ∈ TB := tb_in (List.mem_of_getElem? (i := 502) (by decide +kernel)) rfl
theorem tw503 : (Jvm.Cond.methodLink "SharedSyntax$History" (27 : Nat) ({ cls := "SharedSyntax$Letters", name := "copy", desc := "(LSharedSyntax$Letters;)V" } : Jvm.MethodName)) ∈ TB := tb_in (List.mem_of_getElem? (i := 503) (by decide +kernel)) rfl
theorem tw504 : (Jvm.Cond.instanceMethod ({ cls := "SharedSyntax$Letters", name := "copy", desc := "(LSharedSyntax$Letters;)V" } : Jvm.MethodName)) ∈ TB := tb_in (List.mem_of_getElem? (i := 504) (by decide +kernel)) rfl
theorem tw505 : (Jvm.Cond.selects "SharedSyntax$Letters" ({ cls := "SharedSyntax$Letters", name := "copy", desc := "(LSharedSyntax$Letters;)V" } : Jvm.MethodName) ({ cls := "SharedSyntax$Letters", name := "copy", desc := "(LSharedSyntax$Letters;)V" } : Jvm.MethodName)) ∈ TB := tb_in (List.mem_of_getElem? (i := 505) (by decide +kernel)) rfl
theorem tw506 : (Jvm.Cond.code ({ cls := "SharedSyntax$Letters", name := "copy", desc := "(LSharedSyntax$Letters;)V" } : Jvm.MethodName) prog_3_method_5_code (2 : Nat) (Option.none : Option Jvm.ClassFile.FieldType)) ∈ TB := tb_in (List.mem_of_getElem? (i := 506) (by decide +kernel)) rfl
theorem tw507 : (Jvm.Cond.methodLink "SharedSyntax$Letters" (17 : Nat) ({ cls := "SharedSyntax$Letters", name := "clear", desc := "()V" } : Jvm.MethodName)) ∈ TB := tb_in (List.mem_of_getElem? (i := 507) (by decide +kernel)) rfl
theorem tw508 : (Jvm.Cond.instanceMethod ({ cls := "SharedSyntax$Letters", name := "clear", desc := "()V" } : Jvm.MethodName)) ∈ TB := tb_in (List.mem_of_getElem? (i := 508) (by decide +kernel)) rfl
theorem tw509 : (Jvm.Cond.selects "SharedSyntax$Letters" ({ cls := "SharedSyntax$Letters", name := "clear", desc := "()V" } : Jvm.MethodName) ({ cls := "SharedSyntax$Letters", name := "clear", desc := "()V" } : Jvm.MethodName)) ∈ TB := tb_in (List.mem_of_getElem? (i := 509) (by decide +kernel)) rfl
theorem tw510 : (Jvm.Cond.code ({ cls := "SharedSyntax$Letters", name := "clear", desc := "()V" } : Jvm.MethodName) prog_3_method_4_code (1 : Nat) (Option.none : Option Jvm.ClassFile.FieldType)) ∈ TB := tb_in (List.mem_of_getElem? (i := 510) (by decide +kernel)) rfl
theorem tw511 : (Jvm.Cond.methodLink "SharedSyntax$Letters" (20 : Nat) ({ cls := "SharedSyntax$Letters", name := "appendPart", desc := "(LSharedSyntax$Letters;II)V" } : Jvm.MethodName)) ∈ TB := tb_in (List.mem_of_getElem? (i := 511) (by decide +kernel)) rfl
theorem tw513 : (Jvm.Cond.instanceMethod ({ cls := "SharedSyntax$Letters", name := "appendPart", desc := "(LSharedSyntax$Letters;II)V" } : Jvm.MethodName)) ∈ TB := tb_in (List.mem_of_getElem? (i := 513) (by decide +kernel)) rfl
theorem tw514 : (Jvm.Cond.code ({ cls := "SharedSyntax$Letters", name := "appendPart", desc := "(LSharedSyntax$Letters;II)V" } : Jvm.MethodName) prog_3_method_7_code (5 : Nat) (Option.none : Option Jvm.ClassFile.FieldType)) ∈ TB := tb_in (List.mem_of_getElem? (i := 514) (by decide +kernel)) rfl
theorem tw515 : (Jvm.Cond.methodLink "SharedSyntax$Letters" (24 : Nat) ({ cls := "SharedSyntax$Letters", name := "at", desc := "(I)I" } : Jvm.MethodName)) ∈ TB := tb_in (List.mem_of_getElem? (i := 515) (by decide +kernel)) rfl
theorem tw516 : (Jvm.Cond.methodLink "SharedSyntax$Letters" (28 : Nat) ({ cls := "SharedSyntax$Letters", name := "append", desc := "(I)Z" } : Jvm.MethodName)) ∈ TB := tb_in (List.mem_of_getElem? (i := 516) (by decide +kernel)) rfl
theorem tw517 : (Jvm.Cond.methodLink "SharedSyntax" (61 : Nat) ({ cls := "SharedSyntax$Letters", name := "splice", desc := "(LSharedSyntax$Letters;IILSharedSyntax$Letters;)V" } : Jvm.MethodName)) ∈ TB := tb_in (List.mem_of_getElem? (i := 517) (by decide +kernel)) rfl
theorem tw518 : (Jvm.Cond.instanceMethod ({ cls := "SharedSyntax$Letters", name := "splice", desc := "(LSharedSyntax$Letters;IILSharedSyntax$Letters;)V" } : Jvm.MethodName)) ∈ TB := tb_in (List.mem_of_getElem? (i := 518) (by decide +kernel)) rfl
theorem tw519 : (Jvm.Cond.selects "SharedSyntax$Letters" ({ cls := "SharedSyntax$Letters", name := "splice", desc := "(LSharedSyntax$Letters;IILSharedSyntax$Letters;)V" } : Jvm.MethodName) ({ cls := "SharedSyntax$Letters", name := "splice", desc := "(LSharedSyntax$Letters;IILSharedSyntax$Letters;)V" } : Jvm.MethodName)) ∈ TB := tb_in (List.mem_of_getElem? (i := 519) (by decide +kernel)) rfl
theorem tw520 : (Jvm.Cond.code ({ cls := "SharedSyntax$Letters", name := "splice", desc := "(LSharedSyntax$Letters;IILSharedSyntax$Letters;)V" } : Jvm.MethodName) prog_3_method_6_code (5 : Nat) (Option.none : Option Jvm.ClassFile.FieldType)) ∈ TB := tb_in (List.mem_of_getElem? (i := 520) (by decide +kernel)) rfl
theorem tw521 : (Jvm.Cond.methodLink "SharedSyntax" (65 : Nat) ({ cls := "SharedSyntax", name := "takeTurns", desc := "()V" } : Jvm.MethodName)) ∈ TB := tb_in (List.mem_of_getElem? (i := 521) (by decide +kernel)) rfl
theorem tw523 : (Jvm.Cond.instanceMethod ({ cls := "SharedSyntax", name := "takeTurns", desc := "()V" } : Jvm.MethodName)) ∈ TB := tb_in (List.mem_of_getElem? (i := 523) (by decide +kernel)) rfl
theorem tw524 : (Jvm.Cond.code ({ cls := "SharedSyntax", name := "takeTurns", desc := "()V" } : Jvm.MethodName) prog_1_method_14_code (2 : Nat) (Option.none : Option Jvm.ClassFile.FieldType)) ∈ TB := tb_in (List.mem_of_getElem? (i := 524) (by decide +kernel)) rfl
theorem tw525 : (Jvm.Cond.methodLink "SharedSyntax" (68 : Nat) ({ cls := "SharedSyntax", name := "keptCount", desc := "(II)I" } : Jvm.MethodName)) ∈ TB := tb_in (List.mem_of_getElem? (i := 525) (by decide +kernel)) rfl
theorem tw527 : (Jvm.Cond.instanceMethod ({ cls := "SharedSyntax", name := "keptCount", desc := "(II)I" } : Jvm.MethodName)) ∈ TB := tb_in (List.mem_of_getElem? (i := 527) (by decide +kernel)) rfl
theorem tw528 : (Jvm.Cond.code ({ cls := "SharedSyntax", name := "keptCount", desc := "(II)I" } : Jvm.MethodName) prog_1_method_15_code (5 : Nat) (Option.some Jvm.ClassFile.FieldType.int)) ∈ TB := tb_in (List.mem_of_getElem? (i := 528) (by decide +kernel)) rfl
theorem tw529 : (Jvm.Cond.methodLink "SharedSyntax" (152 : Nat) ({ cls := "SharedSyntax$Tree", name := "isStatement", desc := "(I)Z" } : Jvm.MethodName)) ∈ TB := tb_in (List.mem_of_getElem? (i := 529) (by decide +kernel)) rfl
theorem tw530 : (Jvm.Cond.instanceMethod ({ cls := "SharedSyntax$Tree", name := "isStatement", desc := "(I)Z" } : Jvm.MethodName)) ∈ TB := tb_in (List.mem_of_getElem? (i := 530) (by decide +kernel)) rfl
theorem tw531 : (Jvm.Cond.selects "SharedSyntax$Tree" ({ cls := "SharedSyntax$Tree", name := "isStatement", desc := "(I)Z" } : Jvm.MethodName) ({ cls := "SharedSyntax$Tree", name := "isStatement", desc := "(I)Z" } : Jvm.MethodName)) ∈ TB := tb_in (List.mem_of_getElem? (i := 531) (by decide +kernel)) rfl
theorem tw532 : (Jvm.Cond.code ({ cls := "SharedSyntax$Tree", name := "isStatement", desc := "(I)Z" } : Jvm.MethodName) prog_6_method_11_code (2 : Nat) (Option.some Jvm.ClassFile.FieldType.boolean)) ∈ TB := tb_in (List.mem_of_getElem? (i := 532) (by decide +kernel)) rfl
theorem tw533 : (Jvm.Cond.methodLink "SharedSyntax" (155 : Nat) ({ cls := "SharedSyntax", name := "isKept", desc := "(III)Z" } : Jvm.MethodName)) ∈ TB := tb_in (List.mem_of_getElem? (i := 533) (by decide +kernel)) rfl
theorem tw535 : (Jvm.Cond.instanceMethod ({ cls := "SharedSyntax", name := "isKept", desc := "(III)Z" } : Jvm.MethodName)) ∈ TB := tb_in (List.mem_of_getElem? (i := 535) (by decide +kernel)) rfl
theorem tw536 : (Jvm.Cond.code ({ cls := "SharedSyntax", name := "isKept", desc := "(III)Z" } : Jvm.MethodName) prog_1_method_16_code (10 : Nat) (Option.some Jvm.ClassFile.FieldType.boolean)) ∈ TB := tb_in (List.mem_of_getElem? (i := 536) (by decide +kernel)) rfl
theorem tw537 : (Jvm.Cond.methodLink "SharedSyntax" (102 : Nat) ({ cls := "SharedSyntax$Tree", name := "stretchOf", desc := "(I)I" } : Jvm.MethodName)) ∈ TB := tb_in (List.mem_of_getElem? (i := 537) (by decide +kernel)) rfl
theorem tw538 : (Jvm.Cond.instanceMethod ({ cls := "SharedSyntax$Tree", name := "stretchOf", desc := "(I)I" } : Jvm.MethodName)) ∈ TB := tb_in (List.mem_of_getElem? (i := 538) (by decide +kernel)) rfl
theorem tw539 : (Jvm.Cond.selects "SharedSyntax$Tree" ({ cls := "SharedSyntax$Tree", name := "stretchOf", desc := "(I)I" } : Jvm.MethodName) ({ cls := "SharedSyntax$Tree", name := "stretchOf", desc := "(I)I" } : Jvm.MethodName)) ∈ TB := tb_in (List.mem_of_getElem? (i := 539) (by decide +kernel)) rfl
theorem tw540 : (Jvm.Cond.code ({ cls := "SharedSyntax$Tree", name := "stretchOf", desc := "(I)I" } : Jvm.MethodName) prog_6_method_13_code (2 : Nat) (Option.some Jvm.ClassFile.FieldType.int)) ∈ TB := tb_in (List.mem_of_getElem? (i := 540) (by decide +kernel)) rfl
theorem tw541 : (Jvm.Cond.methodLink "SharedSyntax" (129 : Nat) ({ cls := "SharedSyntax$Tree", name := "matches", desc := "(ILSharedSyntax$Tree;I)Z" } : Jvm.MethodName)) ∈ TB := tb_in (List.mem_of_getElem? (i := 541) (by decide +kernel)) rfl
theorem tw542 : (Jvm.Cond.instanceMethod ({ cls := "SharedSyntax$Tree", name := "matches", desc := "(ILSharedSyntax$Tree;I)Z" } : Jvm.MethodName)) ∈ TB := tb_in (List.mem_of_getElem? (i := 542) (by decide +kernel)) rfl
theorem tw543 : (Jvm.Cond.selects "SharedSyntax$Tree" ({ cls := "SharedSyntax$Tree", name := "matches", desc := "(ILSharedSyntax$Tree;I)Z" } : Jvm.MethodName) ({ cls := "SharedSyntax$Tree", name := "matches", desc := "(ILSharedSyntax$Tree;I)Z" } : Jvm.MethodName)) ∈ TB := tb_in (List.mem_of_getElem? (i := 543) (by decide +kernel)) rfl
theorem tw544 : (Jvm.Cond.code ({ cls := "SharedSyntax$Tree", name := "matches", desc := "(ILSharedSyntax$Tree;I)Z" } : Jvm.MethodName) prog_6_method_23_code (5 : Nat) (Option.some Jvm.ClassFile.FieldType.boolean)) ∈ TB := tb_in (List.mem_of_getElem? (i := 544) (by decide +kernel)) rfl
theorem tw545 : (Jvm.Cond.methodLink "SharedSyntax$Tree" (74 : Nat) ({ cls := "SharedSyntax$Tree", name := "sameNode", desc := "(ILSharedSyntax$Tree;I)Z" } : Jvm.MethodName)) ∈ TB := tb_in (List.mem_of_getElem? (i := 545) (by decide +kernel)) rfl
theorem tw547 : (Jvm.Cond.instanceMethod ({ cls := "SharedSyntax$Tree", name := "sameNode", desc := "(ILSharedSyntax$Tree;I)Z" } : Jvm.MethodName)) ∈ TB := tb_in (List.mem_of_getElem? (i := 547) (by decide +kernel)) rfl
theorem tw548 : (Jvm.Cond.code ({ cls := "SharedSyntax$Tree", name := "sameNode", desc := "(ILSharedSyntax$Tree;I)Z" } : Jvm.MethodName) prog_6_method_24_code (4 : Nat) (Option.some Jvm.ClassFile.FieldType.boolean)) ∈ TB := tb_in (List.mem_of_getElem? (i := 548) (by decide +kernel)) rfl
theorem tw549 : (Jvm.Cond.methodLink "SharedSyntax$Tree" (63 : Nat) ({ cls := "SharedSyntax$Tree", name := "stretchOf", desc := "(I)I" } : Jvm.MethodName)) ∈ TB := tb_in (List.mem_of_getElem? (i := 549) (by decide +kernel)) rfl
theorem tw550 : (Jvm.Cond.methodLink "SharedSyntax$Tree" (83 : Nat) ({ cls := "SharedSyntax$Tree", name := "faultsIn", desc := "(I)I" } : Jvm.MethodName)) ∈ TB := tb_in (List.mem_of_getElem? (i := 550) (by decide +kernel)) rfl
theorem tw551 : (Jvm.Cond.instanceMethod ({ cls := "SharedSyntax$Tree", name := "faultsIn", desc := "(I)I" } : Jvm.MethodName)) ∈ TB := tb_in (List.mem_of_getElem? (i := 551) (by decide +kernel)) rfl
theorem tw552 : (Jvm.Cond.selects "SharedSyntax$Tree" ({ cls := "SharedSyntax$Tree", name := "faultsIn", desc := "(I)I" } : Jvm.MethodName) ({ cls := "SharedSyntax$Tree", name := "faultsIn", desc := "(I)I" } : Jvm.MethodName)) ∈ TB := tb_in (List.mem_of_getElem? (i := 552) (by decide +kernel)) rfl
theorem tw553 : (Jvm.Cond.code ({ cls := "SharedSyntax$Tree", name := "faultsIn", desc := "(I)I" } : Jvm.MethodName) prog_6_method_14_code (2 : Nat) (Option.some Jvm.ClassFile.FieldType.int)) ∈ TB := tb_in (List.mem_of_getElem? (i := 553) (by decide +kernel)) rfl
theorem tw554 : (Jvm.Cond.methodLink "SharedSyntax$Tree" (77 : Nat) ({ cls := "SharedSyntax$Tree", name := "sameLetters", desc := "(ILSharedSyntax$Tree;I)Z" } : Jvm.MethodName)) ∈ TB := tb_in (List.mem_of_getElem? (i := 554) (by decide +kernel)) rfl
theorem tw556 : (Jvm.Cond.instanceMethod ({ cls := "SharedSyntax$Tree", name := "sameLetters", desc := "(ILSharedSyntax$Tree;I)Z" } : Jvm.MethodName)) ∈ TB := tb_in (List.mem_of_getElem? (i := 556) (by decide +kernel)) rfl
theorem tw557 : (Jvm.Cond.code ({ cls := "SharedSyntax$Tree", name := "sameLetters", desc := "(ILSharedSyntax$Tree;I)Z" } : Jvm.MethodName) prog_6_method_25_code (6 : Nat) (Option.some Jvm.ClassFile.FieldType.boolean)) ∈ TB := tb_in (List.mem_of_getElem? (i := 557) (by decide +kernel)) rfl
theorem tw558 : (Jvm.Cond.methodLink "SharedSyntax$Tree" (86 : Nat) ({ cls := "SharedSyntax$Letters", name := "at", desc := "(I)I" } : Jvm.MethodName)) ∈ TB := tb_in (List.mem_of_getElem? (i := 558) (by decide +kernel)) rfl
theorem tw559 : (Jvm.Cond.methodLink "SharedSyntax$Tree" (80 : Nat) ({ cls := "SharedSyntax$Tree", name := "sameFaults", desc := "(ILSharedSyntax$Tree;I)Z" } : Jvm.MethodName)) ∈ TB := tb_in (List.mem_of_getElem? (i := 559) (by decide +kernel)) rfl
theorem tw561 : (Jvm.Cond.instanceMethod ({ cls := "SharedSyntax$Tree", name := "sameFaults", desc := "(ILSharedSyntax$Tree;I)Z" } : Jvm.MethodName)) ∈ TB := tb_in (List.mem_of_getElem? (i := 561) (by decide +kernel)) rfl
theorem tw562 : (Jvm.Cond.code ({ cls := "SharedSyntax$Tree", name := "sameFaults", desc := "(ILSharedSyntax$Tree;I)Z" } : Jvm.MethodName) prog_6_method_26_code (9 : Nat) (Option.some Jvm.ClassFile.FieldType.boolean)) ∈ TB := tb_in (List.mem_of_getElem? (i := 562) (by decide +kernel)) rfl
theorem tw563 : (Jvm.Cond.methodLink "SharedSyntax" (72 : Nat) ({ cls := "SharedSyntax$Letters", name := "clear", desc := "()V" } : Jvm.MethodName)) ∈ TB := tb_in (List.mem_of_getElem? (i := 563) (by decide +kernel)) rfl
theorem tw564 : (Jvm.Cond.methodLink "SharedSyntaxLaw" (23 : Nat) ({ cls := "SharedSyntax", name := "undo", desc := "()Z" } : Jvm.MethodName)) ∈ TB := tb_in (List.mem_of_getElem? (i := 564) (by decide +kernel)) rfl
theorem tw565 : (Jvm.Cond.instanceMethod ({ cls := "SharedSyntax", name := "undo", desc := "()Z" } : Jvm.MethodName)) ∈ TB := tb_in (List.mem_of_getElem? (i := 565) (by decide +kernel)) rfl
theorem tw566 : (Jvm.Cond.selects "SharedSyntax" ({ cls := "SharedSyntax", name := "undo", desc := "()Z" } : Jvm.MethodName) ({ cls := "SharedSyntax", name := "undo", desc := "()Z" } : Jvm.MethodName)) ∈ TB := tb_in (List.mem_of_getElem? (i := 566) (by decide +kernel)) rfl
theorem tw567 : (Jvm.Cond.code ({ cls := "SharedSyntax", name := "undo", desc := "()Z" } : Jvm.MethodName) prog_1_method_4_code (1 : Nat) (Option.some Jvm.ClassFile.FieldType.boolean)) ∈ TB := tb_in (List.mem_of_getElem? (i := 567) (by decide +kernel)) rfl
theorem tw568 : (Jvm.Cond.methodLink "SharedSyntax" (75 : Nat) ({ cls := "SharedSyntax$History", name := "takeLast", desc := "(LSharedSyntax$Letters;)Z" } : Jvm.MethodName)) ∈ TB := tb_in (List.mem_of_getElem? (i := 568) (by decide +kernel)) rfl
theorem tw569 : (Jvm.Cond.instanceMethod ({ cls := "SharedSyntax$History", name := "takeLast", desc := "(LSharedSyntax$Letters;)Z" } : Jvm.MethodName)) ∈ TB := tb_in (List.mem_of_getElem? (i := 569) (by decide +kernel)) rfl
theorem tw570 : (Jvm.Cond.selects "SharedSyntax$History" ({ cls := "SharedSyntax$History", name := "takeLast", desc := "(LSharedSyntax$Letters;)Z" } : Jvm.MethodName) ({ cls := "SharedSyntax$History", name := "takeLast", desc := "(LSharedSyntax$Letters;)Z" } : Jvm.MethodName)) ∈ TB := tb_in (List.mem_of_getElem? (i := 570) (by decide +kernel)) rfl
theorem tw571 : (Jvm.Cond.code ({ cls := "SharedSyntax$History", name := "takeLast", desc := "(LSharedSyntax$Letters;)Z" } : Jvm.MethodName) prog_2_method_3_code (2 : Nat) (Option.some Jvm.ClassFile.FieldType.boolean)) ∈ TB := tb_in (List.mem_of_getElem? (i := 571) (by decide +kernel)) rfl
theorem tw572 : (Jvm.Cond.methodLink "SharedSyntaxLaw" (28 : Nat) ({ cls := "SharedSyntax", name := "length", desc := "()I" } : Jvm.MethodName)) ∈ TB := tb_in (List.mem_of_getElem? (i := 572) (by decide +kernel)) rfl
theorem tw573 : (Jvm.Cond.instanceMethod ({ cls := "SharedSyntax", name := "length", desc := "()I" } : Jvm.MethodName)) ∈ TB := tb_in (List.mem_of_getElem? (i := 573) (by decide +kernel)) rfl
theorem tw574 : (Jvm.Cond.selects "SharedSyntax" ({ cls := "SharedSyntax", name := "length", desc := "()I" } : Jvm.MethodName) ({ cls := "SharedSyntax", name := "length", desc := "()I" } : Jvm.MethodName)) ∈ TB := tb_in (List.mem_of_getElem? (i := 574) (by decide +kernel)) rfl
theorem tw575 : (Jvm.Cond.code ({ cls := "SharedSyntax", name := "length", desc := "()I" } : Jvm.MethodName) prog_1_method_5_code (1 : Nat) (Option.some Jvm.ClassFile.FieldType.int)) ∈ TB := tb_in (List.mem_of_getElem? (i := 575) (by decide +kernel)) rfl
theorem tw576 : (Jvm.Cond.methodLink "SharedSyntaxLaw" (33 : Nat) ({ cls := "SharedSyntax", name := "letter", desc := "(I)I" } : Jvm.MethodName)) ∈ TB := tb_in (List.mem_of_getElem? (i := 576) (by decide +kernel)) rfl
theorem tw577 : (Jvm.Cond.instanceMethod ({ cls := "SharedSyntax", name := "letter", desc := "(I)I" } : Jvm.MethodName)) ∈ TB := tb_in (List.mem_of_getElem? (i := 577) (by decide +kernel)) rfl
theorem tw578 : (Jvm.Cond.selects "SharedSyntax" ({ cls := "SharedSyntax", name := "letter", desc := "(I)I" } : Jvm.MethodName) ({ cls := "SharedSyntax", name := "letter", desc := "(I)I" } : Jvm.MethodName)) ∈ TB := tb_in (List.mem_of_getElem? (i := 578) (by decide +kernel)) rfl
theorem tw579 : (Jvm.Cond.code ({ cls := "SharedSyntax", name := "letter", desc := "(I)I" } : Jvm.MethodName) prog_1_method_6_code (2 : Nat) (Option.some Jvm.ClassFile.FieldType.int)) ∈ TB := tb_in (List.mem_of_getElem? (i := 579) (by decide +kernel)) rfl
theorem tw580 : (Jvm.Cond.methodLink "SharedSyntax" (82 : Nat) ({ cls := "SharedSyntax$Letters", name := "at", desc := "(I)I" } : Jvm.MethodName)) ∈ TB := tb_in (List.mem_of_getElem? (i := 580) (by decide +kernel)) rfl
theorem tw581 : (Jvm.Cond.methodLink "SharedSyntaxLaw" (38 : Nat) ({ cls := "SharedSyntax", name := "node", desc := "(II)I" } : Jvm.MethodName)) ∈ TB := tb_in (List.mem_of_getElem? (i := 581) (by decide +kernel)) rfl
theorem tw582 : (Jvm.Cond.instanceMethod ({ cls := "SharedSyntax", name := "node", desc := "(II)I" } : Jvm.MethodName)) ∈ TB := tb_in (List.mem_of_getElem? (i := 582) (by decide +kernel)) rfl
theorem tw583 : (Jvm.Cond.selects "SharedSyntax" ({ cls := "SharedSyntax", name := "node", desc := "(II)I" } : Jvm.MethodName) ({ cls := "SharedSyntax", name := "node", desc := "(II)I" } : Jvm.MethodName)) ∈ TB := tb_in (List.mem_of_getElem? (i := 583) (by decide +kernel)) rfl
theorem tw584 : (Jvm.Cond.code ({ cls := "SharedSyntax", name := "node", desc := "(II)I" } : Jvm.MethodName) prog_1_method_7_code (4 : Nat) (Option.some Jvm.ClassFile.FieldType.int)) ∈ TB := tb_in (List.mem_of_getElem? (i := 584) (by decide +kernel)) rfl
theorem tw585 : (Jvm.Cond.methodLink "SharedSyntax" (90 : Nat) ({ cls := "SharedSyntax$Tree", name := "has", desc := "(I)Z" } : Jvm.MethodName)) ∈ TB := tb_in (List.mem_of_getElem? (i := 585) (by decide +kernel)) rfl
theorem tw586 : (Jvm.Cond.methodLink "SharedSyntax" (105 : Nat) ({ cls := "SharedSyntax$Tree", name := "ownPlaceOf", desc := "(I)I" } : Jvm.MethodName)) ∈ TB := tb_in (List.mem_of_getElem? (i := 586) (by decide +kernel)) rfl
theorem tw587 : (Jvm.Cond.instanceMethod ({ cls := "SharedSyntax$Tree", name := "ownPlaceOf", desc := "(I)I" } : Jvm.MethodName)) ∈ TB := tb_in (List.mem_of_getElem? (i := 587) (by decide +kernel)) rfl
theorem tw588 : (Jvm.Cond.selects "SharedSyntax$Tree" ({ cls := "SharedSyntax$Tree", name := "ownPlaceOf", desc := "(I)I" } : Jvm.MethodName) ({ cls := "SharedSyntax$Tree", name := "ownPlaceOf", desc := "(I)I" } : Jvm.MethodName)) ∈ TB := tb_in (List.mem_of_getElem? (i := 588) (by decide +kernel)) rfl
theorem tw589 : (Jvm.Cond.code ({ cls := "SharedSyntax$Tree", name := "ownPlaceOf", desc := "(I)I" } : Jvm.MethodName) prog_6_method_15_code (3 : Nat) (Option.some Jvm.ClassFile.FieldType.int)) ∈ TB := tb_in (List.mem_of_getElem? (i := 589) (by decide +kernel)) rfl
theorem tw590 : (Jvm.Cond.methodLink "SharedSyntax$Tree" (60 : Nat) ({ cls := "SharedSyntax$Tree", name := "isLeaf", desc := "(I)Z" } : Jvm.MethodName)) ∈ TB := tb_in (List.mem_of_getElem? (i := 590) (by decide +kernel)) rfl
theorem tw591 : (Jvm.Cond.instanceMethod ({ cls := "SharedSyntax$Tree", name := "isLeaf", desc := "(I)Z" } : Jvm.MethodName)) ∈ TB := tb_in (List.mem_of_getElem? (i := 591) (by decide +kernel)) rfl
theorem tw592 : (Jvm.Cond.selects "SharedSyntax$Tree" ({ cls := "SharedSyntax$Tree", name := "isLeaf", desc := "(I)Z" } : Jvm.MethodName) ({ cls := "SharedSyntax$Tree", name := "isLeaf", desc := "(I)Z" } : Jvm.MethodName)) ∈ TB := tb_in (List.mem_of_getElem? (i := 592) (by decide +kernel)) rfl
theorem tw593 : (Jvm.Cond.code ({ cls := "SharedSyntax$Tree", name := "isLeaf", desc := "(I)Z" } : Jvm.MethodName) prog_6_method_10_code (2 : Nat) (Option.some Jvm.ClassFile.FieldType.boolean)) ∈ TB := tb_in (List.mem_of_getElem? (i := 593) (by decide +kernel)) rfl
theorem tw594 : (Jvm.Cond.methodLink "SharedSyntax" (108 : Nat) ({ cls := "SharedSyntax$Tree", name := "childrenOf", desc := "(I)I" } : Jvm.MethodName)) ∈ TB := tb_in (List.mem_of_getElem? (i := 594) (by decide +kernel)) rfl
theorem tw595 : (Jvm.Cond.instanceMethod ({ cls := "SharedSyntax$Tree", name := "childrenOf", desc := "(I)I" } : Jvm.MethodName)) ∈ TB := tb_in (List.mem_of_getElem? (i := 595) (by decide +kernel)) rfl
theorem tw596 : (Jvm.Cond.selects "SharedSyntax$Tree" ({ cls := "SharedSyntax$Tree", name := "childrenOf", desc := "(I)I" } : Jvm.MethodName) ({ cls := "SharedSyntax$Tree", name := "childrenOf", desc := "(I)I" } : Jvm.MethodName)) ∈ TB := tb_in (List.mem_of_getElem? (i := 596) (by decide +kernel)) rfl
theorem tw597 : (Jvm.Cond.code ({ cls := "SharedSyntax$Tree", name := "childrenOf", desc := "(I)I" } : Jvm.MethodName) prog_6_method_16_code (5 : Nat) (Option.some Jvm.ClassFile.FieldType.int)) ∈ TB := tb_in (List.mem_of_getElem? (i := 597) (by decide +kernel)) rfl
theorem tw598 : (Jvm.Cond.methodLink "SharedSyntax" (111 : Nat) ({ cls := "SharedSyntax$Tree", name := "parentOf", desc := "(I)I" } : Jvm.MethodName)) ∈ TB := tb_in (List.mem_of_getElem? (i := 598) (by decide +kernel)) rfl
theorem tw599 : (Jvm.Cond.instanceMethod ({ cls := "SharedSyntax$Tree", name := "parentOf", desc := "(I)I" } : Jvm.MethodName)) ∈ TB := tb_in (List.mem_of_getElem? (i := 599) (by decide +kernel)) rfl
theorem tw600 : (Jvm.Cond.selects "SharedSyntax$Tree" ({ cls := "SharedSyntax$Tree", name := "parentOf", desc := "(I)I" } : Jvm.MethodName) ({ cls := "SharedSyntax$Tree", name := "parentOf", desc := "(I)I" } : Jvm.MethodName)) ∈ TB := tb_in (List.mem_of_getElem? (i := 600) (by decide +kernel)) rfl
theorem tw601 : (Jvm.Cond.code ({ cls := "SharedSyntax$Tree", name := "parentOf", desc := "(I)I" } : Jvm.MethodName) prog_6_method_18_code (3 : Nat) (Option.some Jvm.ClassFile.FieldType.int)) ∈ TB := tb_in (List.mem_of_getElem? (i := 601) (by decide +kernel)) rfl
theorem tw602 : (Jvm.Cond.methodLink "SharedSyntax" (114 : Nat) ({ cls := "SharedSyntax$Tree", name := "isMissing", desc := "(I)Z" } : Jvm.MethodName)) ∈ TB := tb_in (List.mem_of_getElem? (i := 602) (by decide +kernel)) rfl
theorem tw603 : (Jvm.Cond.instanceMethod ({ cls := "SharedSyntax$Tree", name := "isMissing", desc := "(I)Z" } : Jvm.MethodName)) ∈ TB := tb_in (List.mem_of_getElem? (i := 603) (by decide +kernel)) rfl
theorem tw604 : (Jvm.Cond.selects "SharedSyntax$Tree" ({ cls := "SharedSyntax$Tree", name := "isMissing", desc := "(I)Z" } : Jvm.MethodName) ({ cls := "SharedSyntax$Tree", name := "isMissing", desc := "(I)Z" } : Jvm.MethodName)) ∈ TB := tb_in (List.mem_of_getElem? (i := 604) (by decide +kernel)) rfl
theorem tw605 : (Jvm.Cond.code ({ cls := "SharedSyntax$Tree", name := "isMissing", desc := "(I)Z" } : Jvm.MethodName) prog_6_method_12_code (2 : Nat) (Option.some Jvm.ClassFile.FieldType.boolean)) ∈ TB := tb_in (List.mem_of_getElem? (i := 605) (by decide +kernel)) rfl
theorem tw606 : (Jvm.Cond.methodLink "SharedSyntax" (117 : Nat) ({ cls := "SharedSyntax$Tree", name := "faultsIn", desc := "(I)I" } : Jvm.MethodName)) ∈ TB := tb_in (List.mem_of_getElem? (i := 606) (by decide +kernel)) rfl
theorem tw607 : (Jvm.Cond.methodLink "SharedSyntaxLaw" (43 : Nat) ({ cls := "SharedSyntax", name := "child", desc := "(II)I" } : Jvm.MethodName)) ∈ TB := tb_in (List.mem_of_getElem? (i := 607) (by decide +kernel)) rfl
theorem tw608 : (Jvm.Cond.instanceMethod ({ cls := "SharedSyntax", name := "child", desc := "(II)I" } : Jvm.MethodName)) ∈ TB := tb_in (List.mem_of_getElem? (i := 608) (by decide +kernel)) rfl
theorem tw609 : (Jvm.Cond.selects "SharedSyntax" ({ cls := "SharedSyntax", name := "child", desc := "(II)I" } : Jvm.MethodName) ({ cls := "SharedSyntax", name := "child", desc := "(II)I" } : Jvm.MethodName)) ∈ TB := tb_in (List.mem_of_getElem? (i := 609) (by decide +kernel)) rfl
theorem tw610 : (Jvm.Cond.code ({ cls := "SharedSyntax", name := "child", desc := "(II)I" } : Jvm.MethodName) prog_1_method_8_code (3 : Nat) (Option.some Jvm.ClassFile.FieldType.int)) ∈ TB := tb_in (List.mem_of_getElem? (i := 610) (by decide +kernel)) rfl
theorem tw611 : (Jvm.Cond.methodLink "SharedSyntax" (123 : Nat) ({ cls := "SharedSyntax$Tree", name := "childOf", desc := "(II)I" } : Jvm.MethodName)) ∈ TB := tb_in (List.mem_of_getElem? (i := 611) (by decide +kernel)) rfl
theorem tw612 : (Jvm.Cond.instanceMethod ({ cls := "SharedSyntax$Tree", name := "childOf", desc := "(II)I" } : Jvm.MethodName)) ∈ TB := tb_in (List.mem_of_getElem? (i := 612) (by decide +kernel)) rfl
theorem tw613 : (Jvm.Cond.selects "SharedSyntax$Tree" ({ cls := "SharedSyntax$Tree", name := "childOf", desc := "(II)I" } : Jvm.MethodName) ({ cls := "SharedSyntax$Tree", name := "childOf", desc := "(II)I" } : Jvm.MethodName)) ∈ TB := tb_in (List.mem_of_getElem? (i := 613) (by decide +kernel)) rfl
theorem tw614 : (Jvm.Cond.code ({ cls := "SharedSyntax$Tree", name := "childOf", desc := "(II)I" } : Jvm.MethodName) prog_6_method_17_code (6 : Nat) (Option.some Jvm.ClassFile.FieldType.int)) ∈ TB := tb_in (List.mem_of_getElem? (i := 614) (by decide +kernel)) rfl
theorem tw615 : (Jvm.Cond.methodLink "SharedSyntaxLaw" (47 : Nat) ({ cls := "SharedSyntax", name := "find", desc := "(I)I" } : Jvm.MethodName)) ∈ TB := tb_in (List.mem_of_getElem? (i := 615) (by decide +kernel)) rfl
theorem tw616 : (Jvm.Cond.instanceMethod ({ cls := "SharedSyntax", name := "find", desc := "(I)I" } : Jvm.MethodName)) ∈ TB := tb_in (List.mem_of_getElem? (i := 616) (by decide +kernel)) rfl
theorem tw617 : (Jvm.Cond.selects "SharedSyntax" ({ cls := "SharedSyntax", name := "find", desc := "(I)I" } : Jvm.MethodName) ({ cls := "SharedSyntax", name := "find", desc := "(I)I" } : Jvm.MethodName)) ∈ TB := tb_in (List.mem_of_getElem? (i := 617) (by decide +kernel)) rfl
theorem tw618 : (Jvm.Cond.code ({ cls := "SharedSyntax", name := "find", desc := "(I)I" } : Jvm.MethodName) prog_1_method_9_code (2 : Nat) (Option.some Jvm.ClassFile.FieldType.int)) ∈ TB := tb_in (List.mem_of_getElem? (i := 618) (by decide +kernel)) rfl
theorem tw619 : (Jvm.Cond.methodLink "SharedSyntax" (126 : Nat) ({ cls := "SharedSyntax$Tree", name := "leafAt", desc := "(I)I" } : Jvm.MethodName)) ∈ TB := tb_in (List.mem_of_getElem? (i := 619) (by decide +kernel)) rfl
theorem tw620 : (Jvm.Cond.instanceMethod ({ cls := "SharedSyntax$Tree", name := "leafAt", desc := "(I)I" } : Jvm.MethodName)) ∈ TB := tb_in (List.mem_of_getElem? (i := 620) (by decide +kernel)) rfl
theorem tw621 : (Jvm.Cond.selects "SharedSyntax$Tree" ({ cls := "SharedSyntax$Tree", name := "leafAt", desc := "(I)I" } : Jvm.MethodName) ({ cls := "SharedSyntax$Tree", name := "leafAt", desc := "(I)I" } : Jvm.MethodName)) ∈ TB := tb_in (List.mem_of_getElem? (i := 621) (by decide +kernel)) rfl
theorem tw622 : (Jvm.Cond.code ({ cls := "SharedSyntax$Tree", name := "leafAt", desc := "(I)I" } : Jvm.MethodName) prog_6_method_19_code (3 : Nat) (Option.some Jvm.ClassFile.FieldType.int)) ∈ TB := tb_in (List.mem_of_getElem? (i := 622) (by decide +kernel)) rfl
theorem tw623 : (Jvm.Cond.methodLink "SharedSyntaxLaw" (51 : Nat) ({ cls := "SharedSyntax", name := "equal", desc := "(II)Z" } : Jvm.MethodName)) ∈ TB := tb_in (List.mem_of_getElem? (i := 623) (by decide +kernel)) rfl
theorem tw624 : (Jvm.Cond.instanceMethod ({ cls := "SharedSyntax", name := "equal", desc := "(II)Z" } : Jvm.MethodName)) ∈ TB := tb_in (List.mem_of_getElem? (i := 624) (by decide +kernel)) rfl
theorem tw625 : (Jvm.Cond.selects "SharedSyntax" ({ cls := "SharedSyntax", name := "equal", desc := "(II)Z" } : Jvm.MethodName) ({ cls := "SharedSyntax", name := "equal", desc := "(II)Z" } : Jvm.MethodName)) ∈ TB := tb_in (List.mem_of_getElem? (i := 625) (by decide +kernel)) rfl
theorem tw626 : (Jvm.Cond.code ({ cls := "SharedSyntax", name := "equal", desc := "(II)Z" } : Jvm.MethodName) prog_1_method_10_code (4 : Nat) (Option.some Jvm.ClassFile.FieldType.boolean)) ∈ TB := tb_in (List.mem_of_getElem? (i := 626) (by decide +kernel)) rfl
theorem tw627 : (Jvm.Cond.methodLink "SharedSyntaxLaw" (55 : Nat) ({ cls := "SharedSyntax", name := "fault", desc := "(I)I" } : Jvm.MethodName)) ∈ TB := tb_in (List.mem_of_getElem? (i := 627) (by decide +kernel)) rfl
theorem tw628 : (Jvm.Cond.instanceMethod ({ cls := "SharedSyntax", name := "fault", desc := "(I)I" } : Jvm.MethodName)) ∈ TB := tb_in (List.mem_of_getElem? (i := 628) (by decide +kernel)) rfl
theorem tw629 : (Jvm.Cond.selects "SharedSyntax" ({ cls := "SharedSyntax", name := "fault", desc := "(I)I" } : Jvm.MethodName) ({ cls := "SharedSyntax", name := "fault", desc := "(I)I" } : Jvm.MethodName)) ∈ TB := tb_in (List.mem_of_getElem? (i := 629) (by decide +kernel)) rfl
theorem tw630 : (Jvm.Cond.code ({ cls := "SharedSyntax", name := "fault", desc := "(I)I" } : Jvm.MethodName) prog_1_method_11_code (3 : Nat) (Option.some Jvm.ClassFile.FieldType.int)) ∈ TB := tb_in (List.mem_of_getElem? (i := 630) (by decide +kernel)) rfl
theorem tw631 : (Jvm.Cond.methodLink "SharedSyntaxLaw" (59 : Nat) ({ cls := "SharedSyntax", name := "count", desc := "(I)I" } : Jvm.MethodName)) ∈ TB := tb_in (List.mem_of_getElem? (i := 631) (by decide +kernel)) rfl
theorem tw632 : (Jvm.Cond.instanceMethod ({ cls := "SharedSyntax", name := "count", desc := "(I)I" } : Jvm.MethodName)) ∈ TB := tb_in (List.mem_of_getElem? (i := 632) (by decide +kernel)) rfl
theorem tw633 : (Jvm.Cond.selects "SharedSyntax" ({ cls := "SharedSyntax", name := "count", desc := "(I)I" } : Jvm.MethodName) ({ cls := "SharedSyntax", name := "count", desc := "(I)I" } : Jvm.MethodName)) ∈ TB := tb_in (List.mem_of_getElem? (i := 633) (by decide +kernel)) rfl
theorem tw634 : (Jvm.Cond.code ({ cls := "SharedSyntax", name := "count", desc := "(I)I" } : Jvm.MethodName) prog_1_method_12_code (2 : Nat) (Option.some Jvm.ClassFile.FieldType.int)) ∈ TB := tb_in (List.mem_of_getElem? (i := 634) (by decide +kernel)) rfl
theorem tw635 : (Jvm.Cond.methodLink "SharedSyntax" (142 : Nat) ({ cls := "SharedSyntax$Tree", name := "leafCount", desc := "()I" } : Jvm.MethodName)) ∈ TB := tb_in (List.mem_of_getElem? (i := 635) (by decide +kernel)) rfl
theorem tw636 : (Jvm.Cond.instanceMethod ({ cls := "SharedSyntax$Tree", name := "leafCount", desc := "()I" } : Jvm.MethodName)) ∈ TB := tb_in (List.mem_of_getElem? (i := 636) (by decide +kernel)) rfl
theorem tw637 : (Jvm.Cond.selects "SharedSyntax$Tree" ({ cls := "SharedSyntax$Tree", name := "leafCount", desc := "()I" } : Jvm.MethodName) ({ cls := "SharedSyntax$Tree", name := "leafCount", desc := "()I" } : Jvm.MethodName)) ∈ TB := tb_in (List.mem_of_getElem? (i := 637) (by decide +kernel)) rfl
theorem tw638 : (Jvm.Cond.code ({ cls := "SharedSyntax$Tree", name := "leafCount", desc := "()I" } : Jvm.MethodName) prog_6_method_20_code (3 : Nat) (Option.some Jvm.ClassFile.FieldType.int)) ∈ TB := tb_in (List.mem_of_getElem? (i := 638) (by decide +kernel)) rfl
theorem tw639 : (Jvm.Cond.methodLink "SharedSyntax" (146 : Nat) ({ cls := "SharedSyntax$Tree", name := "differentCount", desc := "()I" } : Jvm.MethodName)) ∈ TB := tb_in (List.mem_of_getElem? (i := 639) (by decide +kernel)) rfl
theorem tw640 : (Jvm.Cond.instanceMethod ({ cls := "SharedSyntax$Tree", name := "differentCount", desc := "()I" } : Jvm.MethodName)) ∈ TB := tb_in (List.mem_of_getElem? (i := 640) (by decide +kernel)) rfl
theorem tw641 : (Jvm.Cond.selects "SharedSyntax$Tree" ({ cls := "SharedSyntax$Tree", name := "differentCount", desc := "()I" } : Jvm.MethodName) ({ cls := "SharedSyntax$Tree", name := "differentCount", desc := "()I" } : Jvm.MethodName)) ∈ TB := tb_in (List.mem_of_getElem? (i := 641) (by decide +kernel)) rfl
theorem tw642 : (Jvm.Cond.code ({ cls := "SharedSyntax$Tree", name := "differentCount", desc := "()I" } : Jvm.MethodName) prog_6_method_21_code (3 : Nat) (Option.some Jvm.ClassFile.FieldType.int)) ∈ TB := tb_in (List.mem_of_getElem? (i := 642) (by decide +kernel)) rfl
theorem tw643 : (Jvm.Cond.methodLink "SharedSyntax$Tree" (67 : Nat) ({ cls := "SharedSyntax$Tree", name := "isFirstOfItsLike", desc := "(I)Z" } : Jvm.MethodName)) ∈ TB := tb_in (List.mem_of_getElem? (i := 643) (by decide +kernel)) rfl
theorem tw645 : (Jvm.Cond.instanceMethod ({ cls := "SharedSyntax$Tree", name := "isFirstOfItsLike", desc := "(I)Z" } : Jvm.MethodName)) ∈ TB := tb_in (List.mem_of_getElem? (i := 645) (by decide +kernel)) rfl
theorem tw646 : (Jvm.Cond.code ({ cls := "SharedSyntax$Tree", name := "isFirstOfItsLike", desc := "(I)Z" } : Jvm.MethodName) prog_6_method_22_code (3 : Nat) (Option.some Jvm.ClassFile.FieldType.boolean)) ∈ TB := tb_in (List.mem_of_getElem? (i := 646) (by decide +kernel)) rfl
theorem tw647 : (Jvm.Cond.methodLink "SharedSyntax$Tree" (70 : Nat) ({ cls := "SharedSyntax$Tree", name := "matches", desc := "(ILSharedSyntax$Tree;I)Z" } : Jvm.MethodName)) ∈ TB := tb_in (List.mem_of_getElem? (i := 647) (by decide +kernel)) rfl
theorem tw648 : (Jvm.Cond.classLink "SharedSyntaxLaw" (10 : Nat) "SharedSyntaxModel") ∈ TB := tb_in (List.mem_of_getElem? (i := 648) (by decide +kernel)) rfl
theorem tw649 : (Jvm.Cond.instantiable "SharedSyntaxModel" (43 : Nat)) ∈ TB := tb_in (List.mem_of_getElem? (i := 649) (by decide +kernel)) rfl
theorem tw650 : (Jvm.Cond.methodLink "SharedSyntaxLaw" (12 : Nat) ({ cls := "SharedSyntaxModel", name := "<init>", desc := "()V" } : Jvm.MethodName)) ∈ TB := tb_in (List.mem_of_getElem? (i := 650) (by decide +kernel)) rfl
theorem tw651 : (Jvm.Cond.instanceMethod ({ cls := "SharedSyntaxModel", name := "<init>", desc := "()V" } : Jvm.MethodName)) ∈ TB := tb_in (List.mem_of_getElem? (i := 651) (by decide +kernel)) rfl
theorem tw652 : (Jvm.Cond.code ({ cls := "SharedSyntaxModel", name := "<init>", desc := "()V" } : Jvm.MethodName) prog_8_method_1_code (1 : Nat) (Option.none : Option Jvm.ClassFile.FieldType)) ∈ TB := tb_in (List.mem_of_getElem? (i := 652) (by decide +kernel)) rfl
theorem tw653 : (Jvm.Cond.methodLink "SharedSyntaxModel" (1 : Nat) ({ cls := "java/lang/Object", name := "<init>", desc := "()V" } : Jvm.MethodName)) ∈ TB := tb_in (List.mem_of_getElem? (i := 653) (by decide +kernel)) rfl
theorem tw654 : (Jvm.Cond.methodLink "SharedSyntaxModel" (107 : Nat) ({ cls := "SharedSyntaxModel", name := "parse", desc := "(I)V" } : Jvm.MethodName)) ∈ TB := tb_in (List.mem_of_getElem? (i := 654) (by decide +kernel)) rfl
theorem tw656 : (Jvm.Cond.instanceMethod ({ cls := "SharedSyntaxModel", name := "parse", desc := "(I)V" } : Jvm.MethodName)) ∈ TB := tb_in (List.mem_of_getElem? (i := 656) (by decide +kernel)) rfl
theorem tw657 : (Jvm.Cond.code ({ cls := "SharedSyntaxModel", name := "parse", desc := "(I)V" } : Jvm.MethodName) prog_8_method_26_code (3 : Nat) (Option.none : Option Jvm.ClassFile.FieldType)) ∈ TB := tb_in (List.mem_of_getElem? (i := 657) (by decide +kernel)) rfl
theorem tw658 : (Jvm.Cond.methodLink "SharedSyntaxModel" (206 : Nat) ({ cls := "SharedSyntaxModel", name := "cut", desc := "(I)V" } : Jvm.MethodName)) ∈ TB := tb_in (List.mem_of_getElem? (i := 658) (by decide +kernel)) rfl
theorem tw660 : (Jvm.Cond.instanceMethod ({ cls := "SharedSyntaxModel", name := "cut", desc := "(I)V" } : Jvm.MethodName)) ∈ TB := tb_in (List.mem_of_getElem? (i := 660) (by decide +kernel)) rfl
theorem tw661 : (Jvm.Cond.code ({ cls := "SharedSyntaxModel", name := "cut", desc := "(I)V" } : Jvm.MethodName) prog_8_method_7_code (5 : Nat) (Option.none : Option Jvm.ClassFile.FieldType)) ∈ TB := tb_in (List.mem_of_getElem? (i := 661) (by decide +kernel)) rfl
theorem tw662 : (Jvm.Cond.methodLink "SharedSyntaxModel" (123 : Nat) ({ cls := "SharedSyntaxModel", name := "blanks", desc := "(II)I" } : Jvm.MethodName)) ∈ TB := tb_in (List.mem_of_getElem? (i := 662) (by decide +kernel)) rfl
theorem tw664 : (Jvm.Cond.instanceMethod ({ cls := "SharedSyntaxModel", name := "blanks", desc := "(II)I" } : Jvm.MethodName)) ∈ TB := tb_in (List.mem_of_getElem? (i := 664) (by decide +kernel)) rfl
theorem tw665 : (Jvm.Cond.code ({ cls := "SharedSyntaxModel", name := "blanks", desc := "(II)I" } : Jvm.MethodName) prog_8_method_3_code (6 : Nat) (Option.some Jvm.ClassFile.FieldType.int)) ∈ TB := tb_in (List.mem_of_getElem? (i := 665) (by decide +kernel)) rfl
theorem tw666 : (Jvm.Cond.methodLink "SharedSyntaxModel" (111 : Nat) ({ cls := "SharedSyntaxModel", name := "look", desc := "(II)C" } : Jvm.MethodName)) ∈ TB := tb_in (List.mem_of_getElem? (i := 666) (by decide +kernel)) rfl
theorem tw668 : (Jvm.Cond.instanceMethod ({ cls := "SharedSyntaxModel", name := "look", desc := "(II)C" } : Jvm.MethodName)) ∈ TB := tb_in (List.mem_of_getElem? (i := 668) (by decide +kernel)) rfl
theorem tw669 : (Jvm.Cond.code ({ cls := "SharedSyntaxModel", name := "look", desc := "(II)C" } : Jvm.MethodName) prog_8_method_2_code (3 : Nat) (Option.some Jvm.ClassFile.FieldType.char)) ∈ TB := tb_in (List.mem_of_getElem? (i := 669) (by decide +kernel)) rfl
theorem tw670 : (Jvm.Cond.methodLink "SharedSyntaxModel" (127 : Nat) ({ cls := "SharedSyntaxModel", name := "behind", desc := "(II)I" } : Jvm.MethodName)) ∈ TB := tb_in (List.mem_of_getElem? (i := 670) (by decide +kernel)) rfl
theorem tw672 : (Jvm.Cond.instanceMethod ({ cls := "SharedSyntaxModel", name := "behind", desc := "(II)I" } : Jvm.MethodName)) ∈ TB := tb_in (List.mem_of_getElem? (i := 672) (by decide +kernel)) rfl
theorem tw673 : (Jvm.Cond.code ({ cls := "SharedSyntaxModel", name := "behind", desc := "(II)I" } : Jvm.MethodName) prog_8_method_5_code (6 : Nat) (Option.some Jvm.ClassFile.FieldType.int)) ∈ TB := tb_in (List.mem_of_getElem? (i := 673) (by decide +kernel)) rfl
theorem tw674 : (Jvm.Cond.methodLink "SharedSyntaxModel" (115 : Nat) ({ cls := "SharedSyntaxModel", name := "among", desc := "(CZ)Z" } : Jvm.MethodName)) ∈ TB := tb_in (List.mem_of_getElem? (i := 674) (by decide +kernel)) rfl
theorem tw675 : (Jvm.Cond.static ({ cls := "SharedSyntaxModel", name := "among", desc := "(CZ)Z" } : Jvm.MethodName)) ∈ TB := tb_in (List.mem_of_getElem? (i := 675) (by decide +kernel)) rfl
theorem tw676 : (Jvm.Cond.code ({ cls := "SharedSyntaxModel", name := "among", desc := "(CZ)Z" } : Jvm.MethodName) prog_8_method_4_code (2 : Nat) (Option.some Jvm.ClassFile.FieldType.boolean)) ∈ TB := tb_in (List.mem_of_getElem? (i := 676) (by decide +kernel)) rfl
theorem tw677 : (Jvm.Cond.methodLink "SharedSyntaxModel" (130 : Nat) ({ cls := "SharedSyntaxModel", name := "kindOf", desc := "(III)I" } : Jvm.MethodName)) ∈ TB := tb_in (List.mem_of_getElem? (i := 677) (by decide +kernel)) rfl
theorem tw679 : (Jvm.Cond.instanceMethod ({ cls := "SharedSyntaxModel", name := "kindOf", desc := "(III)I" } : Jvm.MethodName)) ∈ TB := tb_in (List.mem_of_getElem? (i := 679) (by decide +kernel)) rfl
theorem tw680 : (Jvm.Cond.code ({ cls := "SharedSyntaxModel", name := "kindOf", desc := "(III)I" } : Jvm.MethodName) prog_8_method_6_code (8 : Nat) (Option.some Jvm.ClassFile.FieldType.int)) ∈ TB := tb_in (List.mem_of_getElem? (i := 680) (by decide +kernel)) rfl
theorem tw681 : (Jvm.Cond.methodLink "SharedSyntaxModel" (187 : Nat) ({ cls := "SharedSyntaxModel", name := "add", desc := "(III)V" } : Jvm.MethodName)) ∈ TB := tb_in (List.mem_of_getElem? (i := 681) (by decide +kernel)) rfl
theorem tw683 : (Jvm.Cond.instanceMethod ({ cls := "SharedSyntaxModel", name := "add", desc := "(III)V" } : Jvm.MethodName)) ∈ TB := tb_in (List.mem_of_getElem? (i := 683) (by decide +kernel)) rfl
theorem tw684 : (Jvm.Cond.code ({ cls := "SharedSyntaxModel", name := "add", desc := "(III)V" } : Jvm.MethodName) prog_8_method_17_code (4 : Nat) (Option.none : Option Jvm.ClassFile.FieldType)) ∈ TB := tb_in (List.mem_of_getElem? (i := 684) (by decide +kernel)) rfl
theorem tw685 : (Jvm.Cond.constant "SharedSyntaxModel" (209 : Nat) (100000 : Int32)) ∈ TB := tb_in (List.mem_of_getElem? (i := 685) (by decide +kernel)) rfl
theorem tw686 : (Jvm.Cond.methodLink "SharedSyntaxModel" (210 : Nat) ({ cls := "SharedSyntaxModel", name := "perform", desc := "(IIII)V" } : Jvm.MethodName)) ∈ TB := tb_in (List.mem_of_getElem? (i := 686) (by decide +kernel)) rfl
theorem tw688 : (Jvm.Cond.instanceMethod ({ cls := "SharedSyntaxModel", name := "perform", desc := "(IIII)V" } : Jvm.MethodName)) ∈ TB := tb_in (List.mem_of_getElem? (i := 688) (by decide +kernel)) rfl
theorem tw689 : (Jvm.Cond.code ({ cls := "SharedSyntaxModel", name := "perform", desc := "(IIII)V" } : Jvm.MethodName) prog_8_method_18_code (5 : Nat) (Option.none : Option Jvm.ClassFile.FieldType)) ∈ TB := tb_in (List.mem_of_getElem? (i := 689) (by decide +kernel)) rfl
theorem tw690 : (Jvm.Cond.methodLink "SharedSyntaxModel" (168 : Nat) ({ cls := "SharedSyntaxModel", name := "reduce", desc := "(II)V" } : Jvm.MethodName)) ∈ TB := tb_in (List.mem_of_getElem? (i := 690) (by decide +kernel)) rfl
theorem tw692 : (Jvm.Cond.instanceMethod ({ cls := "SharedSyntaxModel", name := "reduce", desc := "(II)V" } : Jvm.MethodName)) ∈ TB := tb_in (List.mem_of_getElem? (i := 692) (by decide +kernel)) rfl
theorem tw693 : (Jvm.Cond.code ({ cls := "SharedSyntaxModel", name := "reduce", desc := "(II)V" } : Jvm.MethodName) prog_8_method_16_code (7 : Nat) (Option.none : Option Jvm.ClassFile.FieldType)) ∈ TB := tb_in (List.mem_of_getElem? (i := 693) (by decide +kernel)) rfl
theorem tw694 : (Jvm.Cond.methodLink "SharedSyntaxModel" (154 : Nat) ({ cls := "SharedSyntaxModel", name := "make", desc := "(IIIII)V" } : Jvm.MethodName)) ∈ TB := tb_in (List.mem_of_getElem? (i := 694) (by decide +kernel)) rfl
theorem tw696 : (Jvm.Cond.instanceMethod ({ cls := "SharedSyntaxModel", name := "make", desc := "(IIIII)V" } : Jvm.MethodName)) ∈ TB := tb_in (List.mem_of_getElem? (i := 696) (by decide +kernel)) rfl
theorem tw697 : (Jvm.Cond.code ({ cls := "SharedSyntaxModel", name := "make", desc := "(IIIII)V" } : Jvm.MethodName) prog_8_method_11_code (6 : Nat) (Option.none : Option Jvm.ClassFile.FieldType)) ∈ TB := tb_in (List.mem_of_getElem? (i := 697) (by decide +kernel)) rfl
theorem tw698 : (Jvm.Cond.methodLink "SharedSyntaxModel" (158 : Nat) ({ cls := "SharedSyntaxModel", name := "take", desc := "()V" } : Jvm.MethodName)) ∈ TB := tb_in (List.mem_of_getElem? (i := 698) (by decide +kernel)) rfl
theorem tw700 : (Jvm.Cond.instanceMethod ({ cls := "SharedSyntaxModel", name := "take", desc := "()V" } : Jvm.MethodName)) ∈ TB := tb_in (List.mem_of_getElem? (i := 700) (by decide +kernel)) rfl
theorem tw701 : (Jvm.Cond.code ({ cls := "SharedSyntaxModel", name := "take", desc := "()V" } : Jvm.MethodName) prog_8_method_12_code (1 : Nat) (Option.none : Option Jvm.ClassFile.FieldType)) ∈ TB := tb_in (List.mem_of_getElem? (i := 701) (by decide +kernel)) rfl
theorem tw702 : (Jvm.Cond.methodLink "SharedSyntaxModel" (171 : Nat) ({ cls := "SharedSyntaxModel", name := "list", desc := "(III)V" } : Jvm.MethodName)) ∈ TB := tb_in (List.mem_of_getElem? (i := 702) (by decide +kernel)) rfl
theorem tw704 : (Jvm.Cond.instanceMethod ({ cls := "SharedSyntaxModel", name := "list", desc := "(III)V" } : Jvm.MethodName)) ∈ TB := tb_in (List.mem_of_getElem? (i := 704) (by decide +kernel)) rfl
theorem tw705 : (Jvm.Cond.code ({ cls := "SharedSyntaxModel", name := "list", desc := "(III)V" } : Jvm.MethodName) prog_8_method_19_code (5 : Nat) (Option.none : Option Jvm.ClassFile.FieldType)) ∈ TB := tb_in (List.mem_of_getElem? (i := 705) (by decide +kernel)) rfl
theorem tw706 : (Jvm.Cond.methodLink "SharedSyntaxModel" (137 : Nat) ({ cls := "SharedSyntaxModel", name := "current", desc := "()I" } : Jvm.MethodName)) ∈ TB := tb_in (List.mem_of_getElem? (i := 706) (by decide +kernel)) rfl
theorem tw708 : (Jvm.Cond.instanceMethod ({ cls := "SharedSyntaxModel", name := "current", desc := "()I" } : Jvm.MethodName)) ∈ TB := tb_in (List.mem_of_getElem? (i := 708) (by decide +kernel)) rfl
theorem tw709 : (Jvm.Cond.code ({ cls := "SharedSyntaxModel", name := "current", desc := "()I" } : Jvm.MethodName) prog_8_method_8_code (1 : Nat) (Option.some Jvm.ClassFile.FieldType.int)) ∈ TB := tb_in (List.mem_of_getElem? (i := 709) (by decide +kernel)) rfl
theorem tw710 : (Jvm.Cond.methodLink "SharedSyntaxModel" (196 : Nat) ({ cls := "SharedSyntaxModel", name := "begins", desc := "(I)Z" } : Jvm.MethodName)) ∈ TB := tb_in (List.mem_of_getElem? (i := 710) (by decide +kernel)) rfl
theorem tw712 : (Jvm.Cond.instanceMethod ({ cls := "SharedSyntaxModel", name := "begins", desc := "(I)Z" } : Jvm.MethodName)) ∈ TB := tb_in (List.mem_of_getElem? (i := 712) (by decide +kernel)) rfl
theorem tw713 : (Jvm.Cond.code ({ cls := "SharedSyntaxModel", name := "begins", desc := "(I)Z" } : Jvm.MethodName) prog_8_method_10_code (3 : Nat) (Option.some Jvm.ClassFile.FieldType.boolean)) ∈ TB := tb_in (List.mem_of_getElem? (i := 713) (by decide +kernel)) rfl
theorem tw714 : (Jvm.Cond.methodLink "SharedSyntaxModel" (141 : Nat) ({ cls := "SharedSyntaxModel", name := "starts", desc := "(I)Z" } : Jvm.MethodName)) ∈ TB := tb_in (List.mem_of_getElem? (i := 714) (by decide +kernel)) rfl
theorem tw715 : (Jvm.Cond.static ({ cls := "SharedSyntaxModel", name := "starts", desc := "(I)Z" } : Jvm.MethodName)) ∈ TB := tb_in (List.mem_of_getElem? (i := 715) (by decide +kernel)) rfl
theorem tw716 : (Jvm.Cond.code ({ cls := "SharedSyntaxModel", name := "starts", desc := "(I)Z" } : Jvm.MethodName) prog_8_method_9_code (1 : Nat) (Option.some Jvm.ClassFile.FieldType.boolean)) ∈ TB := tb_in (List.mem_of_getElem? (i := 716) (by decide +kernel)) rfl
theorem tw717 : (Jvm.Cond.methodLink "SharedSyntaxModel" (199 : Nat) ({ cls := "SharedSyntaxModel", name := "leaveOut", desc := "(I)V" } : Jvm.MethodName)) ∈ TB := tb_in (List.mem_of_getElem? (i := 717) (by decide +kernel)) rfl
theorem tw719 : (Jvm.Cond.instanceMethod ({ cls := "SharedSyntaxModel", name := "leaveOut", desc := "(I)V" } : Jvm.MethodName)) ∈ TB := tb_in (List.mem_of_getElem? (i := 719) (by decide +kernel)) rfl
theorem tw720 : (Jvm.Cond.code ({ cls := "SharedSyntaxModel", name := "leaveOut", desc := "(I)V" } : Jvm.MethodName) prog_8_method_15_code (2 : Nat) (Option.none : Option Jvm.ClassFile.FieldType)) ∈ TB := tb_in (List.mem_of_getElem? (i := 720) (by decide +kernel)) rfl
theorem tw721 : (Jvm.Cond.methodLink "SharedSyntaxModel" (175 : Nat) ({ cls := "SharedSyntaxModel", name := "statement", desc := "(I)V" } : Jvm.MethodName)) ∈ TB := tb_in (List.mem_of_getElem? (i := 721) (by decide +kernel)) rfl
theorem tw723 : (Jvm.Cond.instanceMethod ({ cls := "SharedSyntaxModel", name := "statement", desc := "(I)V" } : Jvm.MethodName)) ∈ TB := tb_in (List.mem_of_getElem? (i := 723) (by decide +kernel)) rfl
theorem tw724 : (Jvm.Cond.code ({ cls := "SharedSyntaxModel", name := "statement", desc := "(I)V" } : Jvm.MethodName) prog_8_method_20_code (4 : Nat) (Option.none : Option Jvm.ClassFile.FieldType)) ∈ TB := tb_in (List.mem_of_getElem? (i := 724) (by decide +kernel)) rfl
theorem tw725 : (Jvm.Cond.methodLink "SharedSyntaxModel" (178 : Nat) ({ cls := "SharedSyntaxModel", name := "expect", desc := "(I)V" } : Jvm.MethodName)) ∈ TB := tb_in (List.mem_of_getElem? (i := 725) (by decide +kernel)) rfl
theorem tw727 : (Jvm.Cond.instanceMethod ({ cls := "SharedSyntaxModel", name := "expect", desc := "(I)V" } : Jvm.MethodName)) ∈ TB := tb_in (List.mem_of_getElem? (i := 727) (by decide +kernel)) rfl
theorem tw728 : (Jvm.Cond.code ({ cls := "SharedSyntaxModel", name := "expect", desc := "(I)V" } : Jvm.MethodName) prog_8_method_14_code (2 : Nat) (Option.none : Option Jvm.ClassFile.FieldType)) ∈ TB := tb_in (List.mem_of_getElem? (i := 728) (by decide +kernel)) rfl
theorem tw729 : (Jvm.Cond.methodLink "SharedSyntaxModel" (161 : Nat) ({ cls := "SharedSyntaxModel", name := "lack", desc := "(II)V" } : Jvm.MethodName)) ∈ TB := tb_in (List.mem_of_getElem? (i := 729) (by decide +kernel)) rfl
theorem tw731 : (Jvm.Cond.instanceMethod ({ cls := "SharedSyntaxModel", name := "lack", desc := "(II)V" } : Jvm.MethodName)) ∈ TB := tb_in (List.mem_of_getElem? (i := 731) (by decide +kernel)) rfl
theorem tw732 : (Jvm.Cond.code ({ cls := "SharedSyntaxModel", name := "lack", desc := "(II)V" } : Jvm.MethodName) prog_8_method_13_code (3 : Nat) (Option.none : Option Jvm.ClassFile.FieldType)) ∈ TB := tb_in (List.mem_of_getElem? (i := 732) (by decide +kernel)) rfl
theorem tw733 : (Jvm.Cond.methodLink "SharedSyntaxModel" (181 : Nat) ({ cls := "SharedSyntaxModel", name := "other", desc := "(I)V" } : Jvm.MethodName)) ∈ TB := tb_in (List.mem_of_getElem? (i := 733) (by decide +kernel)) rfl
theorem tw735 : (Jvm.Cond.instanceMethod ({ cls := "SharedSyntaxModel", name := "other", desc := "(I)V" } : Jvm.MethodName)) ∈ TB := tb_in (List.mem_of_getElem? (i := 735) (by decide +kernel)) rfl
theorem tw736 : (Jvm.Cond.code ({ cls := "SharedSyntaxModel", name := "other", desc := "(I)V" } : Jvm.MethodName) prog_8_method_21_code (2 : Nat) (Option.none : Option Jvm.ClassFile.FieldType)) ∈ TB := tb_in (List.mem_of_getElem? (i := 736) (by decide +kernel)) rfl
theorem tw737 : (Jvm.Cond.methodLink "SharedSyntaxModel" (184 : Nat) ({ cls := "SharedSyntaxModel", name := "part", desc := "(I)V" } : Jvm.MethodName)) ∈ TB := tb_in (List.mem_of_getElem? (i := 737) (by decide +kernel)) rfl
theorem tw739 : (Jvm.Cond.instanceMethod ({ cls := "SharedSyntaxModel", name := "part", desc := "(I)V" } : Jvm.MethodName)) ∈ TB := tb_in (List.mem_of_getElem? (i := 739) (by decide +kernel)) rfl
theorem tw740 : (Jvm.Cond.code ({ cls := "SharedSyntaxModel", name := "part", desc := "(I)V" } : Jvm.MethodName) prog_8_method_22_code (2 : Nat) (Option.none : Option Jvm.ClassFile.FieldType)) ∈ TB := tb_in (List.mem_of_getElem? (i := 740) (by decide +kernel)) rfl
theorem tw741 : (Jvm.Cond.methodLink "SharedSyntaxModel" (190 : Nat) ({ cls := "SharedSyntaxModel", name := "more", desc := "(II)V" } : Jvm.MethodName)) ∈ TB := tb_in (List.mem_of_getElem? (i := 741) (by decide +kernel)) rfl
theorem tw743 : (Jvm.Cond.instanceMethod ({ cls := "SharedSyntaxModel", name := "more", desc := "(II)V" } : Jvm.MethodName)) ∈ TB := tb_in (List.mem_of_getElem? (i := 743) (by decide +kernel)) rfl
theorem tw744 : (Jvm.Cond.code ({ cls := "SharedSyntaxModel", name := "more", desc := "(II)V" } : Jvm.MethodName) prog_8_method_24_code (7 : Nat) (Option.none : Option Jvm.ClassFile.FieldType)) ∈ TB := tb_in (List.mem_of_getElem? (i := 744) (by decide +kernel)) rfl
theorem tw745 : (Jvm.Cond.methodLink "SharedSyntaxModel" (202 : Nat) ({ cls := "SharedSyntaxModel", name := "level", desc := "(I)I" } : Jvm.MethodName)) ∈ TB := tb_in (List.mem_of_getElem? (i := 745) (by decide +kernel)) rfl
theorem tw746 : (Jvm.Cond.static ({ cls := "SharedSyntaxModel", name := "level", desc := "(I)I" } : Jvm.MethodName)) ∈ TB := tb_in (List.mem_of_getElem? (i := 746) (by decide +kernel)) rfl
theorem tw747 : (Jvm.Cond.code ({ cls := "SharedSyntaxModel", name := "level", desc := "(I)I" } : Jvm.MethodName) prog_8_method_23_code (1 : Nat) (Option.some Jvm.ClassFile.FieldType.int)) ∈ TB := tb_in (List.mem_of_getElem? (i := 747) (by decide +kernel)) rfl
theorem tw748 : (Jvm.Cond.methodLink "SharedSyntaxModel" (193 : Nat) ({ cls := "SharedSyntaxModel", name := "operand", desc := "(I)V" } : Jvm.MethodName)) ∈ TB := tb_in (List.mem_of_getElem? (i := 748) (by decide +kernel)) rfl
theorem tw750 : (Jvm.Cond.instanceMethod ({ cls := "SharedSyntaxModel", name := "operand", desc := "(I)V" } : Jvm.MethodName)) ∈ TB := tb_in (List.mem_of_getElem? (i := 750) (by decide +kernel)) rfl
theorem tw751 : (Jvm.Cond.code ({ cls := "SharedSyntaxModel", name := "operand", desc := "(I)V" } : Jvm.MethodName) prog_8_method_25_code (3 : Nat) (Option.none : Option Jvm.ClassFile.FieldType)) ∈ TB := tb_in (List.mem_of_getElem? (i := 751) (by decide +kernel)) rfl
theorem tw752 : (Jvm.Cond.methodLink "SharedSyntaxModel" (214 : Nat) ({ cls := "SharedSyntaxModel", name := "number", desc := "(I)V" } : Jvm.MethodName)) ∈ TB := tb_in (List.mem_of_getElem? (i := 752) (by decide +kernel)) rfl
theorem tw754 : (Jvm.Cond.instanceMethod ({ cls := "SharedSyntaxModel", name := "number", desc := "(I)V" } : Jvm.MethodName)) ∈ TB := tb_in (List.mem_of_getElem? (i := 754) (by decide +kernel)) rfl
theorem tw755 : (Jvm.Cond.code ({ cls := "SharedSyntaxModel", name := "number", desc := "(I)V" } : Jvm.MethodName) prog_8_method_28_code (5 : Nat) (Option.none : Option Jvm.ClassFile.FieldType)) ∈ TB := tb_in (List.mem_of_getElem? (i := 755) (by decide +kernel)) rfl
theorem tw756 : (Jvm.Cond.methodLink "SharedSyntaxModel" (217 : Nat) ({ cls := "SharedSyntaxModel", name := "following", desc := "(I)I" } : Jvm.MethodName)) ∈ TB := tb_in (List.mem_of_getElem? (i := 756) (by decide +kernel)) rfl
theorem tw758 : (Jvm.Cond.instanceMethod ({ cls := "SharedSyntaxModel", name := "following", desc := "(I)I" } : Jvm.MethodName)) ∈ TB := tb_in (List.mem_of_getElem? (i := 758) (by decide +kernel)) rfl
theorem tw759 : (Jvm.Cond.code ({ cls := "SharedSyntaxModel", name := "following", desc := "(I)I" } : Jvm.MethodName) prog_8_method_27_code (3 : Nat) (Option.some Jvm.ClassFile.FieldType.int)) ∈ TB := tb_in (List.mem_of_getElem? (i := 759) (by decide +kernel)) rfl
theorem tw760 : (Jvm.Cond.fieldLink "SharedSyntaxModel" (230 : Nat) "SharedSyntaxModel" "now" "I") ∈ TB := tb_in (List.mem_of_getElem? (i := 760) (by decide +kernel)) rfl
theorem tw761 : (Jvm.Cond.fieldLink "SharedSyntaxModel" (7 : Nat) "SharedSyntaxModel" "text" "[C") ∈ TB := tb_in (List.mem_of_getElem? (i := 761) (by decide +kernel)) rfl
theorem tw762 : (Jvm.Cond.fieldLink "SharedSyntaxModel" (13 : Nat) "SharedSyntaxModel" "size" "[I") ∈ TB := tb_in (List.mem_of_getElem? (i := 762) (by decide +kernel)) rfl
theorem tw763 : (Jvm.Cond.fieldLink "SharedSyntaxModel" (17 : Nat) "SharedSyntaxModel" "skip" "[I") ∈ TB := tb_in (List.mem_of_getElem? (i := 763) (by decide +kernel)) rfl
theorem tw764 : (Jvm.Cond.fieldLink "SharedSyntaxModel" (20 : Nat) "SharedSyntaxModel" "nodes" "[I") ∈ TB := tb_in (List.mem_of_getElem? (i := 764) (by decide +kernel)) rfl
theorem tw765 : (Jvm.Cond.fieldLink "SharedSyntaxModel" (23 : Nat) "SharedSyntaxModel" "kind" "[I") ∈ TB := tb_in (List.mem_of_getElem? (i := 765) (by decide +kernel)) rfl
theorem tw766 : (Jvm.Cond.fieldLink "SharedSyntaxModel" (26 : Nat) "SharedSyntaxModel" "from" "[I") ∈ TB := tb_in (List.mem_of_getElem? (i := 766) (by decide +kernel)) rfl
theorem tw767 : (Jvm.Cond.fieldLink "SharedSyntaxModel" (29 : Nat) "SharedSyntaxModel" "to" "[I") ∈ TB := tb_in (List.mem_of_getElem? (i := 767) (by decide +kernel)) rfl
theorem tw768 : (Jvm.Cond.fieldLink "SharedSyntaxModel" (32 : Nat) "SharedSyntaxModel" "own" "[I") ∈ TB := tb_in (List.mem_of_getElem? (i := 768) (by decide +kernel)) rfl
theorem tw769 : (Jvm.Cond.fieldLink "SharedSyntaxModel" (35 : Nat) "SharedSyntaxModel" "missing" "[I") ∈ TB := tb_in (List.mem_of_getElem? (i := 769) (by decide +kernel)) rfl
theorem tw770 : (Jvm.Cond.fieldLink "SharedSyntaxModel" (38 : Nat) "SharedSyntaxModel" "kids" "[I") ∈ TB := tb_in (List.mem_of_getElem? (i := 770) (by decide +kernel)) rfl
theorem tw771 : (Jvm.Cond.fieldLink "SharedSyntaxModel" (41 : Nat) "SharedSyntaxModel" "parent" "[I") ∈ TB := tb_in (List.mem_of_getElem? (i := 771) (by decide +kernel)) rfl
theorem tw772 : (Jvm.Cond.fieldLink "SharedSyntaxModel" (44 : Nat) "SharedSyntaxModel" "below" "[I") ∈ TB := tb_in (List.mem_of_getElem? (i := 772) (by decide +kernel)) rfl
theorem tw773 : (Jvm.Cond.fieldLink "SharedSyntaxModel" (47 : Nat) "SharedSyntaxModel" "past" "[C") ∈ TB := tb_in (List.mem_of_getElem? (i := 773) (by decide +kernel)) rfl
theorem tw774 : (Jvm.Cond.fieldLink "SharedSyntaxModel" (50 : Nat) "SharedSyntaxModel" "pastSize" "[I") ∈ TB := tb_in (List.mem_of_getElem? (i := 774) (by decide +kernel)) rfl
theorem tw775 : (Jvm.Cond.fieldLink "SharedSyntaxModel" (227 : Nat) "SharedSyntaxModel" "versions" "I") ∈ TB := tb_in (List.mem_of_getElem? (i := 775) (by decide +kernel)) rfl
theorem tw776 : (Jvm.Cond.fieldLink "SharedSyntaxModel" (239 : Nat) "SharedSyntaxModel" "version" "I") ∈ TB := tb_in (List.mem_of_getElem? (i := 776) (by decide +kernel)) rfl
theorem tw777 : (Jvm.Cond.fieldLink "SharedSyntaxModel" (242 : Nat) "SharedSyntaxModel" "same" "I") ∈ TB := tb_in (List.mem_of_getElem? (i := 777) (by decide +kernel)) rfl
theorem tw778 : (Jvm.Cond.fieldLink "SharedSyntaxModel" (53 : Nat) "SharedSyntaxModel" "buffer" "[C") ∈ TB := tb_in (List.mem_of_getElem? (i := 778) (by decide +kernel)) rfl
theorem tw779 : (Jvm.Cond.fieldLink "SharedSyntaxModel" (224 : Nat) "SharedSyntaxModel" "typed" "I") ∈ TB := tb_in (List.mem_of_getElem? (i := 779) (by decide +kernel)) rfl
theorem tw780 : (Jvm.Cond.fieldLink "SharedSyntaxModel" (119 : Nat) "SharedSyntaxModel" "tokens" "I") ∈ TB := tb_in (List.mem_of_getElem? (i := 780) (by decide +kernel)) rfl
theorem tw781 : (Jvm.Cond.fieldLink "SharedSyntaxModel" (56 : Nat) "SharedSyntaxModel" "tKind" "[I") ∈ TB := tb_in (List.mem_of_getElem? (i := 781) (by decide +kernel)) rfl
theorem tw782 : (Jvm.Cond.fieldLink "SharedSyntaxModel" (59 : Nat) "SharedSyntaxModel" "tFrom" "[I") ∈ TB := tb_in (List.mem_of_getElem? (i := 782) (by decide +kernel)) rfl
theorem tw783 : (Jvm.Cond.fieldLink "SharedSyntaxModel" (62 : Nat) "SharedSyntaxModel" "tTo" "[I") ∈ TB := tb_in (List.mem_of_getElem? (i := 783) (by decide +kernel)) rfl
theorem tw784 : (Jvm.Cond.fieldLink "SharedSyntaxModel" (134 : Nat) "SharedSyntaxModel" "at" "I") ∈ TB := tb_in (List.mem_of_getElem? (i := 784) (by decide +kernel)) rfl
theorem tw785 : (Jvm.Cond.fieldLink "SharedSyntaxModel" (151 : Nat) "SharedSyntaxModel" "end" "I") ∈ TB := tb_in (List.mem_of_getElem? (i := 785) (by decide +kernel)) rfl
theorem tw786 : (Jvm.Cond.fieldLink "SharedSyntaxModel" (145 : Nat) "SharedSyntaxModel" "made" "I") ∈ TB := tb_in (List.mem_of_getElem? (i := 786) (by decide +kernel)) rfl
theorem tw787 : (Jvm.Cond.fieldLink "SharedSyntaxModel" (65 : Nat) "SharedSyntaxModel" "rKind" "[I") ∈ TB := tb_in (List.mem_of_getElem? (i := 787) (by decide +kernel)) rfl
theorem tw788 : (Jvm.Cond.fieldLink "SharedSyntaxModel" (68 : Nat) "SharedSyntaxModel" "rFrom" "[I") ∈ TB := tb_in (List.mem_of_getElem? (i := 788) (by decide +kernel)) rfl
theorem tw789 : (Jvm.Cond.fieldLink "SharedSyntaxModel" (71 : Nat) "SharedSyntaxModel" "rTo" "[I") ∈ TB := tb_in (List.mem_of_getElem? (i := 789) (by decide +kernel)) rfl
theorem tw790 : (Jvm.Cond.fieldLink "SharedSyntaxModel" (74 : Nat) "SharedSyntaxModel" "rOwn" "[I") ∈ TB := tb_in (List.mem_of_getElem? (i := 790) (by decide +kernel)) rfl
theorem tw791 : (Jvm.Cond.fieldLink "SharedSyntaxModel" (77 : Nat) "SharedSyntaxModel" "rMissing" "[I") ∈ TB := tb_in (List.mem_of_getElem? (i := 791) (by decide +kernel)) rfl
theorem tw792 : (Jvm.Cond.fieldLink "SharedSyntaxModel" (80 : Nat) "SharedSyntaxModel" "rKids" "[I") ∈ TB := tb_in (List.mem_of_getElem? (i := 792) (by decide +kernel)) rfl
theorem tw793 : (Jvm.Cond.fieldLink "SharedSyntaxModel" (83 : Nat) "SharedSyntaxModel" "rFirst" "[I") ∈ TB := tb_in (List.mem_of_getElem? (i := 793) (by decide +kernel)) rfl
theorem tw794 : (Jvm.Cond.fieldLink "SharedSyntaxModel" (86 : Nat) "SharedSyntaxModel" "rNext" "[I") ∈ TB := tb_in (List.mem_of_getElem? (i := 794) (by decide +kernel)) rfl
theorem tw795 : (Jvm.Cond.fieldLink "SharedSyntaxModel" (89 : Nat) "SharedSyntaxModel" "rUp" "[I") ∈ TB := tb_in (List.mem_of_getElem? (i := 795) (by decide +kernel)) rfl
theorem tw796 : (Jvm.Cond.fieldLink "SharedSyntaxModel" (92 : Nat) "SharedSyntaxModel" "rNumber" "[I") ∈ TB := tb_in (List.mem_of_getElem? (i := 796) (by decide +kernel)) rfl
theorem tw797 : (Jvm.Cond.fieldLink "SharedSyntaxModel" (148 : Nat) "SharedSyntaxModel" "height" "I") ∈ TB := tb_in (List.mem_of_getElem? (i := 797) (by decide +kernel)) rfl
theorem tw798 : (Jvm.Cond.fieldLink "SharedSyntaxModel" (95 : Nat) "SharedSyntaxModel" "row" "[I") ∈ TB := tb_in (List.mem_of_getElem? (i := 798) (by decide +kernel)) rfl
theorem tw799 : (Jvm.Cond.fieldLink "SharedSyntaxModel" (165 : Nat) "SharedSyntaxModel" "tasks" "I") ∈ TB := tb_in (List.mem_of_getElem? (i := 799) (by decide +kernel)) rfl
theorem tw800 : (Jvm.Cond.fieldLink "SharedSyntaxModel" (98 : Nat) "SharedSyntaxModel" "task" "[I") ∈ TB := tb_in (List.mem_of_getElem? (i := 800) (by decide +kernel)) rfl
theorem tw801 : (Jvm.Cond.fieldLink "SharedSyntaxModel" (101 : Nat) "SharedSyntaxModel" "first" "[I") ∈ TB := tb_in (List.mem_of_getElem? (i := 801) (by decide +kernel)) rfl
theorem tw802 : (Jvm.Cond.fieldLink "SharedSyntaxModel" (104 : Nat) "SharedSyntaxModel" "second" "[I") ∈ TB := tb_in (List.mem_of_getElem? (i := 802) (by decide +kernel)) rfl
theorem tw803 : (Jvm.Cond.lays "SharedSyntaxModel" "SharedSyntaxModel" "now" "I") ∈ TB := tb_in (List.mem_of_getElem? (i := 803) (by decide +kernel)) rfl
theorem tw805 : (Jvm.Cond.laysFinal "SharedSyntaxModel" "SharedSyntaxModel" "text" "[C") ∈ TB := tb_in (List.mem_of_getElem? (i := 805) (by decide +kernel)) rfl
theorem tw807 : (Jvm.Cond.laysFinal "SharedSyntaxModel" "SharedSyntaxModel" "size" "[I") ∈ TB := tb_in (List.mem_of_getElem? (i := 807) (by decide +kernel)) rfl
theorem tw809 : (Jvm.Cond.laysFinal "SharedSyntaxModel" "SharedSyntaxModel" "skip" "[I") ∈ TB := tb_in (List.mem_of_getElem? (i := 809) (by decide +kernel)) rfl
theorem tw811 : (Jvm.Cond.laysFinal "SharedSyntaxModel" "SharedSyntaxModel" "nodes" "[I") ∈ TB := tb_in (List.mem_of_getElem? (i := 811) (by decide +kernel)) rfl
theorem tw813 : (Jvm.Cond.laysFinal "SharedSyntaxModel" "SharedSyntaxModel" "kind" "[I") ∈ TB := tb_in (List.mem_of_getElem? (i := 813) (by decide +kernel)) rfl
theorem tw815 : (Jvm.Cond.laysFinal "SharedSyntaxModel" "SharedSyntaxModel" "from" "[I") ∈ TB := tb_in (List.mem_of_getElem? (i := 815) (by decide +kernel)) rfl
theorem tw817 : (Jvm.Cond.laysFinal "SharedSyntaxModel" "SharedSyntaxModel" "to" "[I") ∈ TB := tb_in (List.mem_of_getElem? (i := 817) (by decide +kernel)) rfl
theorem tw819 : (Jvm.Cond.laysFinal "SharedSyntaxModel" "SharedSyntaxModel" "own" "[I") ∈ TB := tb_in (List.mem_of_getElem? (i := 819) (by decide +kernel)) rfl
theorem tw821 : (Jvm.Cond.laysFinal "SharedSyntaxModel" "SharedSyntaxModel" "missing" "[I") ∈ TB := tb_in (List.mem_of_getElem? (i := 821) (by decide +kernel)) rfl
theorem tw823 : (Jvm.Cond.laysFinal "SharedSyntaxModel" "SharedSyntaxModel" "kids" "[I") ∈ TB := tb_in (List.mem_of_getElem? (i := 823) (by decide +kernel)) rfl
theorem tw825 : (Jvm.Cond.laysFinal "SharedSyntaxModel" "SharedSyntaxModel" "parent" "[I") ∈ TB := tb_in (List.mem_of_getElem? (i := 825) (by decide +kernel)) rfl
theorem tw827 : (Jvm.Cond.laysFinal "SharedSyntaxModel" "SharedSyntaxModel" "below" "[I") ∈ TB := tb_in (List.mem_of_getElem? (i := 827) (by decide +kernel)) rfl
theorem tw829 : (Jvm.Cond.laysFinal "SharedSyntaxModel" "SharedSyntaxModel" "past" "[C") ∈ TB := tb_in (List.mem_of_getElem? (i := 829) (by decide +kernel)) rfl
theorem tw831 : (Jvm.Cond.laysFinal "SharedSyntaxModel" "SharedSyntaxModel" "pastSize" "[I") ∈ TB := tb_in (List.mem_of_getElem? (i := 831) (by decide +kernel)) rfl
theorem tw833 : (Jvm.Cond.lays "SharedSyntaxModel" "SharedSyntaxModel" "versions" "I") ∈ TB := tb_in (List.mem_of_getElem? (i := 833) (by decide +kernel)) rfl
theorem tw835 : (Jvm.Cond.lays "SharedSyntaxModel" "SharedSyntaxModel" "version" "I") ∈ TB := tb_in (List.mem_of_getElem? (i := 835) (by decide +kernel)) rfl
theorem tw837 : (Jvm.Cond.lays "SharedSyntaxModel" "SharedSyntaxModel" "same" "I") ∈ TB := tb_in (List.mem_of_getElem? (i := 837) (by decide +kernel)) rfl
theorem tw839 : (Jvm.Cond.laysFinal "SharedSyntaxModel" "SharedSyntaxModel" "buffer" "[C") ∈ TB := tb_in (List.mem_of_getElem? (i := 839) (by decide +kernel)) rfl
theorem tw841 : (Jvm.Cond.lays "SharedSyntaxModel" "SharedSyntaxModel" "typed" "I") ∈ TB := tb_in (List.mem_of_getElem? (i := 841) (by decide +kernel)) rfl
theorem tw843 : (Jvm.Cond.lays "SharedSyntaxModel" "SharedSyntaxModel" "tokens" "I") ∈ TB := tb_in (List.mem_of_getElem? (i := 843) (by decide +kernel)) rfl
theorem tw845 : (Jvm.Cond.laysFinal "SharedSyntaxModel" "SharedSyntaxModel" "tKind" "[I") ∈ TB := tb_in (List.mem_of_getElem? (i := 845) (by decide +kernel)) rfl
theorem tw847 : (Jvm.Cond.laysFinal "SharedSyntaxModel" "SharedSyntaxModel" "tFrom" "[I") ∈ TB := tb_in (List.mem_of_getElem? (i := 847) (by decide +kernel)) rfl
theorem tw849 : (Jvm.Cond.laysFinal "SharedSyntaxModel" "SharedSyntaxModel" "tTo" "[I") ∈ TB := tb_in (List.mem_of_getElem? (i := 849) (by decide +kernel)) rfl
theorem tw851 : (Jvm.Cond.lays "SharedSyntaxModel" "SharedSyntaxModel" "at" "I") ∈ TB := tb_in (List.mem_of_getElem? (i := 851) (by decide +kernel)) rfl
theorem tw853 : (Jvm.Cond.lays "SharedSyntaxModel" "SharedSyntaxModel" "end" "I") ∈ TB := tb_in (List.mem_of_getElem? (i := 853) (by decide +kernel)) rfl
theorem tw855 : (Jvm.Cond.lays "SharedSyntaxModel" "SharedSyntaxModel" "made" "I") ∈ TB := tb_in (List.mem_of_getElem? (i := 855) (by decide +kernel)) rfl
theorem tw857 : (Jvm.Cond.laysFinal "SharedSyntaxModel" "SharedSyntaxModel" "rKind" "[I") ∈ TB := tb_in (List.mem_of_getElem? (i := 857) (by decide +kernel)) rfl
theorem tw859 : (Jvm.Cond.laysFinal "SharedSyntaxModel" "SharedSyntaxModel" "rFrom" "[I") ∈ TB := tb_in (List.mem_of_getElem? (i := 859) (by decide +kernel)) rfl
theorem tw861 : (Jvm.Cond.laysFinal "SharedSyntaxModel" "SharedSyntaxModel" "rTo" "[I") ∈ TB := tb_in (List.mem_of_getElem? (i := 861) (by decide +kernel)) rfl
theorem tw863 : (Jvm.Cond.laysFinal "SharedSyntaxModel" "SharedSyntaxModel" "rOwn" "[I") ∈ TB := tb_in (List.mem_of_getElem? (i := 863) (by decide +kernel)) rfl
theorem tw865 : (Jvm.Cond.laysFinal "SharedSyntaxModel" "SharedSyntaxModel" "rMissing" "[I") ∈ TB := tb_in (List.mem_of_getElem? (i := 865) (by decide +kernel)) rfl
theorem tw867 : (Jvm.Cond.laysFinal "SharedSyntaxModel" "SharedSyntaxModel" "rKids" "[I") ∈ TB := tb_in (List.mem_of_getElem? (i := 867) (by decide +kernel)) rfl
theorem tw869 : (Jvm.Cond.laysFinal "SharedSyntaxModel" "SharedSyntaxModel" "rFirst" "[I") ∈ TB := tb_in (List.mem_of_getElem? (i := 869) (by decide +kernel)) rfl
theorem tw871 : (Jvm.Cond.laysFinal "SharedSyntaxModel" "SharedSyntaxModel" "rNext" "[I") ∈ TB := tb_in (List.mem_of_getElem? (i := 871) (by decide +kernel)) rfl
theorem tw873 : (Jvm.Cond.laysFinal "SharedSyntaxModel" "SharedSyntaxModel" "rUp" "[I") ∈ TB := tb_in (List.mem_of_getElem? (i := 873) (by decide +kernel)) rfl
theorem tw875 : (Jvm.Cond.laysFinal "SharedSyntaxModel" "SharedSyntaxModel" "rNumber" "[I") ∈ TB := tb_in (List.mem_of_getElem? (i := 875) (by decide +kernel)) rfl
theorem tw877 : (Jvm.Cond.lays "SharedSyntaxModel" "SharedSyntaxModel" "height" "I") ∈ TB := tb_in (List.mem_of_getElem? (i := 877) (by decide +kernel)) rfl
theorem tw879 : (Jvm.Cond.laysFinal "SharedSyntaxModel" "SharedSyntaxModel" "row" "[I") ∈ TB := tb_in (List.mem_of_getElem? (i := 879) (by decide +kernel)) rfl
theorem tw881 : (Jvm.Cond.lays "SharedSyntaxModel" "SharedSyntaxModel" "tasks" "I") ∈ TB := tb_in (List.mem_of_getElem? (i := 881) (by decide +kernel)) rfl
theorem tw883 : (Jvm.Cond.laysFinal "SharedSyntaxModel" "SharedSyntaxModel" "task" "[I") ∈ TB := tb_in (List.mem_of_getElem? (i := 883) (by decide +kernel)) rfl
theorem tw885 : (Jvm.Cond.laysFinal "SharedSyntaxModel" "SharedSyntaxModel" "first" "[I") ∈ TB := tb_in (List.mem_of_getElem? (i := 885) (by decide +kernel)) rfl
theorem tw887 : (Jvm.Cond.laysFinal "SharedSyntaxModel" "SharedSyntaxModel" "second" "[I") ∈ TB := tb_in (List.mem_of_getElem? (i := 887) (by decide +kernel)) rfl
theorem tw890 : (Jvm.Cond.arrayClass Jvm.ClassFile.FieldType.char) ∈ TB := tb_in (List.mem_of_getElem? (i := 890) (by decide +kernel)) rfl
theorem tw891 : (Jvm.Cond.methodLink "SharedSyntaxLaw" (17 : Nat) ({ cls := "SharedSyntaxModel", name := "type", desc := "(C)Z" } : Jvm.MethodName)) ∈ TB := tb_in (List.mem_of_getElem? (i := 891) (by decide +kernel)) rfl
theorem tw892 : (Jvm.Cond.instanceMethod ({ cls := "SharedSyntaxModel", name := "type", desc := "(C)Z" } : Jvm.MethodName)) ∈ TB := tb_in (List.mem_of_getElem? (i := 892) (by decide +kernel)) rfl
theorem tw893 : (Jvm.Cond.selects "SharedSyntaxModel" ({ cls := "SharedSyntaxModel", name := "type", desc := "(C)Z" } : Jvm.MethodName) ({ cls := "SharedSyntaxModel", name := "type", desc := "(C)Z" } : Jvm.MethodName)) ∈ TB := tb_in (List.mem_of_getElem? (i := 893) (by decide +kernel)) rfl
theorem tw894 : (Jvm.Cond.code ({ cls := "SharedSyntaxModel", name := "type", desc := "(C)Z" } : Jvm.MethodName) prog_8_method_31_code (2 : Nat) (Option.some Jvm.ClassFile.FieldType.boolean)) ∈ TB := tb_in (List.mem_of_getElem? (i := 894) (by decide +kernel)) rfl
theorem tw895 : (Jvm.Cond.methodLink "SharedSyntaxLaw" (22 : Nat) ({ cls := "SharedSyntaxModel", name := "edit", desc := "(II)Z" } : Jvm.MethodName)) ∈ TB := tb_in (List.mem_of_getElem? (i := 895) (by decide +kernel)) rfl
theorem tw896 : (Jvm.Cond.instanceMethod ({ cls := "SharedSyntaxModel", name := "edit", desc := "(II)Z" } : Jvm.MethodName)) ∈ TB := tb_in (List.mem_of_getElem? (i := 896) (by decide +kernel)) rfl
theorem tw897 : (Jvm.Cond.selects "SharedSyntaxModel" ({ cls := "SharedSyntaxModel", name := "edit", desc := "(II)Z" } : Jvm.MethodName) ({ cls := "SharedSyntaxModel", name := "edit", desc := "(II)Z" } : Jvm.MethodName)) ∈ TB := tb_in (List.mem_of_getElem? (i := 897) (by decide +kernel)) rfl
theorem tw898 : (Jvm.Cond.code ({ cls := "SharedSyntaxModel", name := "edit", desc := "(II)Z" } : Jvm.MethodName) prog_8_method_34_code (8 : Nat) (Option.some Jvm.ClassFile.FieldType.boolean)) ∈ TB := tb_in (List.mem_of_getElem? (i := 898) (by decide +kernel)) rfl
theorem tw899 : (Jvm.Cond.methodLink "SharedSyntaxModel" (236 : Nat) ({ cls := "SharedSyntaxModel", name := "keep", desc := "()V" } : Jvm.MethodName)) ∈ TB := tb_in (List.mem_of_getElem? (i := 899) (by decide +kernel)) rfl
theorem tw901 : (Jvm.Cond.instanceMethod ({ cls := "SharedSyntaxModel", name := "keep", desc := "()V" } : Jvm.MethodName)) ∈ TB := tb_in (List.mem_of_getElem? (i := 901) (by decide +kernel)) rfl
theorem tw902 : (Jvm.Cond.code ({ cls := "SharedSyntaxModel", name := "keep", desc := "()V" } : Jvm.MethodName) prog_8_method_32_code (2 : Nat) (Option.none : Option Jvm.ClassFile.FieldType)) ∈ TB := tb_in (List.mem_of_getElem? (i := 902) (by decide +kernel)) rfl
theorem tw903 : (Jvm.Cond.methodLink "SharedSyntaxModel" (245 : Nat) ({ cls := "SharedSyntaxModel", name := "reused", desc := "(IIIII)Z" } : Jvm.MethodName)) ∈ TB := tb_in (List.mem_of_getElem? (i := 903) (by decide +kernel)) rfl
theorem tw905 : (Jvm.Cond.instanceMethod ({ cls := "SharedSyntaxModel", name := "reused", desc := "(IIIII)Z" } : Jvm.MethodName)) ∈ TB := tb_in (List.mem_of_getElem? (i := 905) (by decide +kernel)) rfl
theorem tw906 : (Jvm.Cond.code ({ cls := "SharedSyntaxModel", name := "reused", desc := "(IIIII)Z" } : Jvm.MethodName) prog_8_method_33_code (11 : Nat) (Option.some Jvm.ClassFile.FieldType.boolean)) ∈ TB := tb_in (List.mem_of_getElem? (i := 906) (by decide +kernel)) rfl
theorem tw907 : (Jvm.Cond.methodLink "SharedSyntaxModel" (233 : Nat) ({ cls := "SharedSyntaxModel", name := "alike", desc := "(IIII)Z" } : Jvm.MethodName)) ∈ TB := tb_in (List.mem_of_getElem? (i := 907) (by decide +kernel)) rfl
theorem tw909 : (Jvm.Cond.instanceMethod ({ cls := "SharedSyntaxModel", name := "alike", desc := "(IIII)Z" } : Jvm.MethodName)) ∈ TB := tb_in (List.mem_of_getElem? (i := 909) (by decide +kernel)) rfl
theorem tw910 : (Jvm.Cond.code ({ cls := "SharedSyntaxModel", name := "alike", desc := "(IIII)Z" } : Jvm.MethodName) prog_8_method_30_code (8 : Nat) (Option.some Jvm.ClassFile.FieldType.boolean)) ∈ TB := tb_in (List.mem_of_getElem? (i := 910) (by decide +kernel)) rfl
theorem tw911 : (Jvm.Cond.methodLink "SharedSyntaxModel" (220 : Nat) ({ cls := "SharedSyntaxModel", name := "sameLeaf", desc := "(IIII)Z" } : Jvm.MethodName)) ∈ TB := tb_in (List.mem_of_getElem? (i := 911) (by decide +kernel)) rfl
theorem tw913 : (Jvm.Cond.instanceMethod ({ cls := "SharedSyntaxModel", name := "sameLeaf", desc := "(IIII)Z" } : Jvm.MethodName)) ∈ TB := tb_in (List.mem_of_getElem? (i := 913) (by decide +kernel)) rfl
theorem tw914 : (Jvm.Cond.code ({ cls := "SharedSyntaxModel", name := "sameLeaf", desc := "(IIII)Z" } : Jvm.MethodName) prog_8_method_29_code (7 : Nat) (Option.some Jvm.ClassFile.FieldType.boolean)) ∈ TB := tb_in (List.mem_of_getElem? (i := 914) (by decide +kernel)) rfl
theorem tw915 : (Jvm.Cond.methodLink "SharedSyntaxLaw" (27 : Nat) ({ cls := "SharedSyntaxModel", name := "undo", desc := "()Z" } : Jvm.MethodName)) ∈ TB := tb_in (List.mem_of_getElem? (i := 915) (by decide +kernel)) rfl
theorem tw916 : (Jvm.Cond.instanceMethod ({ cls := "SharedSyntaxModel", name := "undo", desc := "()Z" } : Jvm.MethodName)) ∈ TB := tb_in (List.mem_of_getElem? (i := 916) (by decide +kernel)) rfl
theorem tw917 : (Jvm.Cond.selects "SharedSyntaxModel" ({ cls := "SharedSyntaxModel", name := "undo", desc := "()Z" } : Jvm.MethodName) ({ cls := "SharedSyntaxModel", name := "undo", desc := "()Z" } : Jvm.MethodName)) ∈ TB := tb_in (List.mem_of_getElem? (i := 917) (by decide +kernel)) rfl
theorem tw918 : (Jvm.Cond.code ({ cls := "SharedSyntaxModel", name := "undo", desc := "()Z" } : Jvm.MethodName) prog_8_method_35_code (2 : Nat) (Option.some Jvm.ClassFile.FieldType.boolean)) ∈ TB := tb_in (List.mem_of_getElem? (i := 918) (by decide +kernel)) rfl
theorem tw919 : (Jvm.Cond.methodLink "SharedSyntaxLaw" (32 : Nat) ({ cls := "SharedSyntaxModel", name := "length", desc := "()I" } : Jvm.MethodName)) ∈ TB := tb_in (List.mem_of_getElem? (i := 919) (by decide +kernel)) rfl
theorem tw920 : (Jvm.Cond.instanceMethod ({ cls := "SharedSyntaxModel", name := "length", desc := "()I" } : Jvm.MethodName)) ∈ TB := tb_in (List.mem_of_getElem? (i := 920) (by decide +kernel)) rfl
theorem tw921 : (Jvm.Cond.selects "SharedSyntaxModel" ({ cls := "SharedSyntaxModel", name := "length", desc := "()I" } : Jvm.MethodName) ({ cls := "SharedSyntaxModel", name := "length", desc := "()I" } : Jvm.MethodName)) ∈ TB := tb_in (List.mem_of_getElem? (i := 921) (by decide +kernel)) rfl
theorem tw922 : (Jvm.Cond.code ({ cls := "SharedSyntaxModel", name := "length", desc := "()I" } : Jvm.MethodName) prog_8_method_36_code (1 : Nat) (Option.some Jvm.ClassFile.FieldType.int)) ∈ TB := tb_in (List.mem_of_getElem? (i := 922) (by decide +kernel)) rfl
theorem tw923 : (Jvm.Cond.methodLink "SharedSyntaxLaw" (37 : Nat) ({ cls := "SharedSyntaxModel", name := "letter", desc := "(I)I" } : Jvm.MethodName)) ∈ TB := tb_in (List.mem_of_getElem? (i := 923) (by decide +kernel)) rfl
theorem tw924 : (Jvm.Cond.instanceMethod ({ cls := "SharedSyntaxModel", name := "letter", desc := "(I)I" } : Jvm.MethodName)) ∈ TB := tb_in (List.mem_of_getElem? (i := 924) (by decide +kernel)) rfl
theorem tw925 : (Jvm.Cond.selects "SharedSyntaxModel" ({ cls := "SharedSyntaxModel", name := "letter", desc := "(I)I" } : Jvm.MethodName) ({ cls := "SharedSyntaxModel", name := "letter", desc := "(I)I" } : Jvm.MethodName)) ∈ TB := tb_in (List.mem_of_getElem? (i := 925) (by decide +kernel)) rfl
theorem tw926 : (Jvm.Cond.code ({ cls := "SharedSyntaxModel", name := "letter", desc := "(I)I" } : Jvm.MethodName) prog_8_method_37_code (2 : Nat) (Option.some Jvm.ClassFile.FieldType.int)) ∈ TB := tb_in (List.mem_of_getElem? (i := 926) (by decide +kernel)) rfl
theorem tw927 : (Jvm.Cond.methodLink "SharedSyntaxLaw" (42 : Nat) ({ cls := "SharedSyntaxModel", name := "node", desc := "(II)I" } : Jvm.MethodName)) ∈ TB := tb_in (List.mem_of_getElem? (i := 927) (by decide +kernel)) rfl
theorem tw928 : (Jvm.Cond.instanceMethod ({ cls := "SharedSyntaxModel", name := "node", desc := "(II)I" } : Jvm.MethodName)) ∈ TB := tb_in (List.mem_of_getElem? (i := 928) (by decide +kernel)) rfl
theorem tw929 : (Jvm.Cond.selects "SharedSyntaxModel" ({ cls := "SharedSyntaxModel", name := "node", desc := "(II)I" } : Jvm.MethodName) ({ cls := "SharedSyntaxModel", name := "node", desc := "(II)I" } : Jvm.MethodName)) ∈ TB := tb_in (List.mem_of_getElem? (i := 929) (by decide +kernel)) rfl
theorem tw930 : (Jvm.Cond.code ({ cls := "SharedSyntaxModel", name := "node", desc := "(II)I" } : Jvm.MethodName) prog_8_method_40_code (6 : Nat) (Option.some Jvm.ClassFile.FieldType.int)) ∈ TB := tb_in (List.mem_of_getElem? (i := 930) (by decide +kernel)) rfl
theorem tw931 : (Jvm.Cond.methodLink "SharedSyntaxModel" (249 : Nat) ({ cls := "SharedSyntaxModel", name := "there", desc := "(I)Z" } : Jvm.MethodName)) ∈ TB := tb_in (List.mem_of_getElem? (i := 931) (by decide +kernel)) rfl
theorem tw933 : (Jvm.Cond.instanceMethod ({ cls := "SharedSyntaxModel", name := "there", desc := "(I)Z" } : Jvm.MethodName)) ∈ TB := tb_in (List.mem_of_getElem? (i := 933) (by decide +kernel)) rfl
theorem tw934 : (Jvm.Cond.code ({ cls := "SharedSyntaxModel", name := "there", desc := "(I)Z" } : Jvm.MethodName) prog_8_method_38_code (2 : Nat) (Option.some Jvm.ClassFile.FieldType.boolean)) ∈ TB := tb_in (List.mem_of_getElem? (i := 934) (by decide +kernel)) rfl
theorem tw935 : (Jvm.Cond.methodLink "SharedSyntaxModel" (252 : Nat) ({ cls := "SharedSyntaxModel", name := "faultsOf", desc := "(I)I" } : Jvm.MethodName)) ∈ TB := tb_in (List.mem_of_getElem? (i := 935) (by decide +kernel)) rfl
theorem tw937 : (Jvm.Cond.instanceMethod ({ cls := "SharedSyntaxModel", name := "faultsOf", desc := "(I)I" } : Jvm.MethodName)) ∈ TB := tb_in (List.mem_of_getElem? (i := 937) (by decide +kernel)) rfl
theorem tw938 : (Jvm.Cond.code ({ cls := "SharedSyntaxModel", name := "faultsOf", desc := "(I)I" } : Jvm.MethodName) prog_8_method_39_code (4 : Nat) (Option.some Jvm.ClassFile.FieldType.int)) ∈ TB := tb_in (List.mem_of_getElem? (i := 938) (by decide +kernel)) rfl
theorem tw939 : (Jvm.Cond.methodLink "SharedSyntaxLaw" (46 : Nat) ({ cls := "SharedSyntaxModel", name := "child", desc := "(II)I" } : Jvm.MethodName)) ∈ TB := tb_in (List.mem_of_getElem? (i := 939) (by decide +kernel)) rfl
theorem tw940 : (Jvm.Cond.instanceMethod ({ cls := "SharedSyntaxModel", name := "child", desc := "(II)I" } : Jvm.MethodName)) ∈ TB := tb_in (List.mem_of_getElem? (i := 940) (by decide +kernel)) rfl
theorem tw941 : (Jvm.Cond.selects "SharedSyntaxModel" ({ cls := "SharedSyntaxModel", name := "child", desc := "(II)I" } : Jvm.MethodName) ({ cls := "SharedSyntaxModel", name := "child", desc := "(II)I" } : Jvm.MethodName)) ∈ TB := tb_in (List.mem_of_getElem? (i := 941) (by decide +kernel)) rfl
theorem tw942 : (Jvm.Cond.code ({ cls := "SharedSyntaxModel", name := "child", desc := "(II)I" } : Jvm.MethodName) prog_8_method_41_code (5 : Nat) (Option.some Jvm.ClassFile.FieldType.int)) ∈ TB := tb_in (List.mem_of_getElem? (i := 942) (by decide +kernel)) rfl
theorem tw943 : (Jvm.Cond.methodLink "SharedSyntaxLaw" (50 : Nat) ({ cls := "SharedSyntaxModel", name := "find", desc := "(I)I" } : Jvm.MethodName)) ∈ TB := tb_in (List.mem_of_getElem? (i := 943) (by decide +kernel)) rfl
theorem tw944 : (Jvm.Cond.instanceMethod ({ cls := "SharedSyntaxModel", name := "find", desc := "(I)I" } : Jvm.MethodName)) ∈ TB := tb_in (List.mem_of_getElem? (i := 944) (by decide +kernel)) rfl
theorem tw945 : (Jvm.Cond.selects "SharedSyntaxModel" ({ cls := "SharedSyntaxModel", name := "find", desc := "(I)I" } : Jvm.MethodName) ({ cls := "SharedSyntaxModel", name := "find", desc := "(I)I" } : Jvm.MethodName)) ∈ TB := tb_in (List.mem_of_getElem? (i := 945) (by decide +kernel)) rfl
theorem tw946 : (Jvm.Cond.code ({ cls := "SharedSyntaxModel", name := "find", desc := "(I)I" } : Jvm.MethodName) prog_8_method_42_code (4 : Nat) (Option.some Jvm.ClassFile.FieldType.int)) ∈ TB := tb_in (List.mem_of_getElem? (i := 946) (by decide +kernel)) rfl
theorem tw947 : (Jvm.Cond.methodLink "SharedSyntaxLaw" (54 : Nat) ({ cls := "SharedSyntaxModel", name := "equal", desc := "(II)Z" } : Jvm.MethodName)) ∈ TB := tb_in (List.mem_of_getElem? (i := 947) (by decide +kernel)) rfl
theorem tw948 : (Jvm.Cond.instanceMethod ({ cls := "SharedSyntaxModel", name := "equal", desc := "(II)Z" } : Jvm.MethodName)) ∈ TB := tb_in (List.mem_of_getElem? (i := 948) (by decide +kernel)) rfl
theorem tw949 : (Jvm.Cond.selects "SharedSyntaxModel" ({ cls := "SharedSyntaxModel", name := "equal", desc := "(II)Z" } : Jvm.MethodName) ({ cls := "SharedSyntaxModel", name := "equal", desc := "(II)Z" } : Jvm.MethodName)) ∈ TB := tb_in (List.mem_of_getElem? (i := 949) (by decide +kernel)) rfl
theorem tw950 : (Jvm.Cond.code ({ cls := "SharedSyntaxModel", name := "equal", desc := "(II)Z" } : Jvm.MethodName) prog_8_method_43_code (3 : Nat) (Option.some Jvm.ClassFile.FieldType.boolean)) ∈ TB := tb_in (List.mem_of_getElem? (i := 950) (by decide +kernel)) rfl
theorem tw951 : (Jvm.Cond.methodLink "SharedSyntaxLaw" (58 : Nat) ({ cls := "SharedSyntaxModel", name := "fault", desc := "(I)I" } : Jvm.MethodName)) ∈ TB := tb_in (List.mem_of_getElem? (i := 951) (by decide +kernel)) rfl
theorem tw952 : (Jvm.Cond.instanceMethod ({ cls := "SharedSyntaxModel", name := "fault", desc := "(I)I" } : Jvm.MethodName)) ∈ TB := tb_in (List.mem_of_getElem? (i := 952) (by decide +kernel)) rfl
theorem tw953 : (Jvm.Cond.selects "SharedSyntaxModel" ({ cls := "SharedSyntaxModel", name := "fault", desc := "(I)I" } : Jvm.MethodName) ({ cls := "SharedSyntaxModel", name := "fault", desc := "(I)I" } : Jvm.MethodName)) ∈ TB := tb_in (List.mem_of_getElem? (i := 953) (by decide +kernel)) rfl
theorem tw954 : (Jvm.Cond.code ({ cls := "SharedSyntaxModel", name := "fault", desc := "(I)I" } : Jvm.MethodName) prog_8_method_44_code (6 : Nat) (Option.some Jvm.ClassFile.FieldType.int)) ∈ TB := tb_in (List.mem_of_getElem? (i := 954) (by decide +kernel)) rfl
theorem tw955 : (Jvm.Cond.methodLink "SharedSyntaxModel" (255 : Nat) ({ cls := "SharedSyntaxModel", name := "faultIn", desc := "(II)I" } : Jvm.MethodName)) ∈ TB := tb_in (List.mem_of_getElem? (i := 955) (by decide +kernel)) rfl
theorem tw957 : (Jvm.Cond.instanceMethod ({ cls := "SharedSyntaxModel", name := "faultIn", desc := "(II)I" } : Jvm.MethodName)) ∈ TB := tb_in (List.mem_of_getElem? (i := 957) (by decide +kernel)) rfl
theorem tw958 : (Jvm.Cond.code ({ cls := "SharedSyntaxModel", name := "faultIn", desc := "(II)I" } : Jvm.MethodName) prog_8_method_45_code (6 : Nat) (Option.some Jvm.ClassFile.FieldType.int)) ∈ TB := tb_in (List.mem_of_getElem? (i := 958) (by decide +kernel)) rfl
theorem tw959 : (Jvm.Cond.methodLink "SharedSyntaxLaw" (62 : Nat) ({ cls := "SharedSyntaxModel", name := "count", desc := "(I)I" } : Jvm.MethodName)) ∈ TB := tb_in (List.mem_of_getElem? (i := 959) (by decide +kernel)) rfl
theorem tw960 : (Jvm.Cond.instanceMethod ({ cls := "SharedSyntaxModel", name := "count", desc := "(I)I" } : Jvm.MethodName)) ∈ TB := tb_in (List.mem_of_getElem? (i := 960) (by decide +kernel)) rfl
theorem tw961 : (Jvm.Cond.selects "SharedSyntaxModel" ({ cls := "SharedSyntaxModel", name := "count", desc := "(I)I" } : Jvm.MethodName) ({ cls := "SharedSyntaxModel", name := "count", desc := "(I)I" } : Jvm.MethodName)) ∈ TB := tb_in (List.mem_of_getElem? (i := 961) (by decide +kernel)) rfl
theorem tw962 : (Jvm.Cond.code ({ cls := "SharedSyntaxModel", name := "count", desc := "(I)I" } : Jvm.MethodName) prog_8_method_48_code (2 : Nat) (Option.some Jvm.ClassFile.FieldType.int)) ∈ TB := tb_in (List.mem_of_getElem? (i := 962) (by decide +kernel)) rfl
theorem tw963 : (Jvm.Cond.methodLink "SharedSyntaxModel" (258 : Nat) ({ cls := "SharedSyntaxModel", name := "leaves", desc := "()I" } : Jvm.MethodName)) ∈ TB := tb_in (List.mem_of_getElem? (i := 963) (by decide +kernel)) rfl
theorem tw965 : (Jvm.Cond.instanceMethod ({ cls := "SharedSyntaxModel", name := "leaves", desc := "()I" } : Jvm.MethodName)) ∈ TB := tb_in (List.mem_of_getElem? (i := 965) (by decide +kernel)) rfl
theorem tw966 : (Jvm.Cond.code ({ cls := "SharedSyntaxModel", name := "leaves", desc := "()I" } : Jvm.MethodName) prog_8_method_47_code (3 : Nat) (Option.some Jvm.ClassFile.FieldType.int)) ∈ TB := tb_in (List.mem_of_getElem? (i := 966) (by decide +kernel)) rfl
theorem tw967 : (Jvm.Cond.methodLink "SharedSyntaxModel" (261 : Nat) ({ cls := "SharedSyntaxModel", name := "node", desc := "(II)I" } : Jvm.MethodName)) ∈ TB := tb_in (List.mem_of_getElem? (i := 967) (by decide +kernel)) rfl
theorem tw968 : (Jvm.Cond.methodLink "SharedSyntaxModel" (264 : Nat) ({ cls := "SharedSyntaxModel", name := "different", desc := "()I" } : Jvm.MethodName)) ∈ TB := tb_in (List.mem_of_getElem? (i := 968) (by decide +kernel)) rfl
theorem tw970 : (Jvm.Cond.instanceMethod ({ cls := "SharedSyntaxModel", name := "different", desc := "()I" } : Jvm.MethodName)) ∈ TB := tb_in (List.mem_of_getElem? (i := 970) (by decide +kernel)) rfl
theorem tw971 : (Jvm.Cond.code ({ cls := "SharedSyntaxModel", name := "different", desc := "()I" } : Jvm.MethodName) prog_8_method_46_code (5 : Nat) (Option.some Jvm.ClassFile.FieldType.int)) ∈ TB := tb_in (List.mem_of_getElem? (i := 971) (by decide +kernel)) rfl
theorem tw972 : (Jvm.Cond.fieldLink "java/lang/String" (9 : Nat) "java/lang/String" "value" "[B") ∈ TB := tb_in (List.mem_of_getElem? (i := 972) (by decide +kernel)) rfl
theorem tw973 : (Jvm.Cond.fieldLink "java/lang/String" (15 : Nat) "java/lang/String" "coder" "B") ∈ TB := tb_in (List.mem_of_getElem? (i := 973) (by decide +kernel)) rfl
def NW : List Cond := [(Jvm.Cond.fieldLinkNest "SharedSyntax$Tokens" (32 : Nat) "SharedSyntax$Letters" "size" "I" "SharedSyntax"), (Jvm.Cond.fieldLinkNest "SharedSyntax" (79 : Nat) "SharedSyntax$Letters" "size" "I" "SharedSyntax"), (Jvm.Cond.fieldLinkNest "SharedSyntax$Tree" (55 : Nat) "SharedSyntax$Letters" "size" "I" "SharedSyntax"), (Jvm.Cond.fieldLinkNest "SharedSyntax" (95 : Nat) "SharedSyntax$Tree" "kinds" "[I" "SharedSyntax"), (Jvm.Cond.fieldLinkNest "SharedSyntax" (120 : Nat) "SharedSyntax$Tree" "sizes" "[I" "SharedSyntax"), (Jvm.Cond.fieldLinkNest "SharedSyntax" (99 : Nat) "SharedSyntax$Tree" "begins" "[I" "SharedSyntax"), (Jvm.Cond.fieldLinkNest "SharedSyntax" (136 : Nat) "SharedSyntax$Tree" "faults" "[I" "SharedSyntax"), (Jvm.Cond.fieldLinkNest "SharedSyntax" (139 : Nat) "SharedSyntax$Tree" "used" "I" "SharedSyntax"), (Jvm.Cond.fieldLinkNest "SharedSyntax$Reading" (144 : Nat) "SharedSyntax$Tree" "used" "I" "SharedSyntax"), (Jvm.Cond.fieldLinkNest "SharedSyntax" (133 : Nat) "SharedSyntax$Tree" "faultCount" "I" "SharedSyntax"), (Jvm.Cond.fieldLinkNest "SharedSyntax" (55 : Nat) "SharedSyntax$Reading" "text" "LSharedSyntax$Letters;" "SharedSyntax"), (Jvm.Cond.fieldLinkNest "SharedSyntax" (86 : Nat) "SharedSyntax$Reading" "tree" "LSharedSyntax$Tree;" "SharedSyntax"), (Jvm.Cond.fieldLinkNest "SharedSyntax" (149 : Nat) "SharedSyntax$History" "stored" "I" "SharedSyntax")]
theorem NW_ok : NW.all jNest = true := rfl
end
section
/-! decode rows -/
theorem dX_init_0 : decode prog_1_method_1_code 0 = .ok (.aload_n 0, 1) := by decide +kernel
theorem dX_init_1 : decode prog_1_method_1_code 1 = .ok (.invokespecial 3, 3) := by decide +kernel
theorem dX_init_4 : decode prog_1_method_1_code 4 = .ok (.new 9, 3) := by decide +kernel
theorem dX_init_7 : decode prog_1_method_1_code 7 = .ok (.dup, 1) := by decide +kernel
theorem dX_init_8 : decode prog_1_method_1_code 8 = .ok (.new 11, 3) := by decide +kernel
theorem dX_init_11 : decode prog_1_method_1_code 11 = .ok (.dup, 1) := by decide +kernel
theorem dX_init_12 : decode prog_1_method_1_code 12 = .ok (.bipush 60, 2) := by decide +kernel
theorem dX_init_14 : decode prog_1_method_1_code 14 = .ok (.invokespecial 13, 3) := by decide +kernel
theorem dX_init_17 : decode prog_1_method_1_code 17 = .ok (.invokespecial 16, 3) := by decide +kernel
theorem dX_init_20 : decode prog_1_method_1_code 20 = .ok (.astore_n 1, 1) := by decide +kernel
theorem dX_init_21 : decode prog_1_method_1_code 21 = .ok (.aload_n 1, 1) := by decide +kernel
theorem dX_init_22 : decode prog_1_method_1_code 22 = .ok (.invokevirtual 19, 3) := by decide +kernel
theorem dX_init_25 : decode prog_1_method_1_code 25 = .ok (.aload_n 0, 1) := by decide +kernel
theorem dX_init_26 : decode prog_1_method_1_code 26 = .ok (.aload_n 1, 1) := by decide +kernel
theorem dX_init_27 : decode prog_1_method_1_code 27 = .ok (.putfield 22, 3) := by decide +kernel
theorem dX_init_30 : decode prog_1_method_1_code 30 = .ok (.aload_n 0, 1) := by decide +kernel
theorem dX_init_31 : decode prog_1_method_1_code 31 = .ok (.new 9, 3) := by decide +kernel
theorem dX_init_34 : decode prog_1_method_1_code 34 = .ok (.dup, 1) := by decide +kernel
theorem dX_init_35 : decode prog_1_method_1_code 35 = .ok (.new 11, 3) := by decide +kernel
theorem dX_init_38 : decode prog_1_method_1_code 38 = .ok (.dup, 1) := by decide +kernel
theorem dX_init_39 : decode prog_1_method_1_code 39 = .ok (.bipush 60, 2) := by decide +kernel
theorem dX_init_41 : decode prog_1_method_1_code 41 = .ok (.invokespecial 13, 3) := by decide +kernel
theorem dX_init_44 : decode prog_1_method_1_code 44 = .ok (.invokespecial 16, 3) := by decide +kernel
theorem dX_init_47 : decode prog_1_method_1_code 47 = .ok (.putfield 26, 3) := by decide +kernel
theorem dX_init_50 : decode prog_1_method_1_code 50 = .ok (.aload_n 0, 1) := by decide +kernel
theorem dX_init_51 : decode prog_1_method_1_code 51 = .ok (.new 11, 3) := by decide +kernel
theorem dX_init_54 : decode prog_1_method_1_code 54 = .ok (.dup, 1) := by decide +kernel
theorem dX_init_55 : decode prog_1_method_1_code 55 = .ok (.bipush 20, 2) := by decide +kernel
theorem dX_init_57 : decode prog_1_method_1_code 57 = .ok (.invokespecial 13, 3) := by decide +kernel
theorem dX_init_60 : decode prog_1_method_1_code 60 = .ok (.putfield 29, 3) := by decide +kernel
theorem dX_init_63 : decode prog_1_method_1_code 63 = .ok (.aload_n 0, 1) := by decide +kernel
theorem dX_init_64 : decode prog_1_method_1_code 64 = .ok (.new 33, 3) := by decide +kernel
theorem dX_init_67 : decode prog_1_method_1_code 67 = .ok (.dup, 1) := by decide +kernel
theorem dX_init_68 : decode prog_1_method_1_code 68 = .ok (.invokespecial 35, 3) := by decide +kernel
theorem dX_init_71 : decode prog_1_method_1_code 71 = .ok (.putfield 36, 3) := by decide +kernel
theorem dX_init_74 : decode prog_1_method_1_code 74 = .ok (.aload_n 0, 1) := by decide +kernel
theorem dX_init_75 : decode prog_1_method_1_code 75 = .ok (.iconst 0, 1) := by decide +kernel
theorem dX_init_76 : decode prog_1_method_1_code 76 = .ok (.putfield 40, 3) := by decide +kernel
theorem dX_init_79 : decode prog_1_method_1_code 79 = .ok (.aload_n 0, 1) := by decide +kernel
theorem dX_init_80 : decode prog_1_method_1_code 80 = .ok (.iconst 0, 1) := by decide +kernel
theorem dX_init_81 : decode prog_1_method_1_code 81 = .ok (.putfield 44, 3) := by decide +kernel
theorem dX_init_84 : decode prog_1_method_1_code 84 = .ok (.return_, 1) := by decide +kernel
theorem dX_type_0 : decode prog_1_method_2_code 0 = .ok (.iload_n 1, 1) := by decide +kernel
theorem dX_type_1 : decode prog_1_method_2_code 1 = .ok (.bipush 10, 2) := by decide +kernel
theorem dX_type_3 : decode prog_1_method_2_code 3 = .ok (.if_icmp .eq 15, 3) := by decide +kernel
theorem dX_type_6 : decode prog_1_method_2_code 6 = .ok (.iload_n 1, 1) := by decide +kernel
theorem dX_type_7 : decode prog_1_method_2_code 7 = .ok (.bipush 32, 2) := by decide +kernel
theorem dX_type_9 : decode prog_1_method_2_code 9 = .ok (.if_icmp .lt 13, 3) := by decide +kernel
theorem dX_type_12 : decode prog_1_method_2_code 12 = .ok (.iload_n 1, 1) := by decide +kernel
theorem dX_type_13 : decode prog_1_method_2_code 13 = .ok (.bipush 126, 2) := by decide +kernel
theorem dX_type_15 : decode prog_1_method_2_code 15 = .ok (.if_icmp .gt 7, 3) := by decide +kernel
theorem dX_type_18 : decode prog_1_method_2_code 18 = .ok (.iconst 1, 1) := by decide +kernel
theorem dX_type_19 : decode prog_1_method_2_code 19 = .ok (.goto 4, 3) := by decide +kernel
theorem dX_type_22 : decode prog_1_method_2_code 22 = .ok (.iconst 0, 1) := by decide +kernel
theorem dX_type_23 : decode prog_1_method_2_code 23 = .ok (.istore_n 2, 1) := by decide +kernel
theorem dX_type_24 : decode prog_1_method_2_code 24 = .ok (.iload_n 2, 1) := by decide +kernel
theorem dX_type_25 : decode prog_1_method_2_code 25 = .ok (.ifCond .eq 18, 3) := by decide +kernel
theorem dX_type_28 : decode prog_1_method_2_code 28 = .ok (.aload_n 0, 1) := by decide +kernel
theorem dX_type_29 : decode prog_1_method_2_code 29 = .ok (.getfield 29, 3) := by decide +kernel
theorem dX_type_32 : decode prog_1_method_2_code 32 = .ok (.iload_n 1, 1) := by decide +kernel
theorem dX_type_33 : decode prog_1_method_2_code 33 = .ok (.invokevirtual 47, 3) := by decide +kernel
theorem dX_type_36 : decode prog_1_method_2_code 36 = .ok (.ifCond .eq 7, 3) := by decide +kernel
theorem dX_type_39 : decode prog_1_method_2_code 39 = .ok (.iconst 1, 1) := by decide +kernel
theorem dX_type_40 : decode prog_1_method_2_code 40 = .ok (.goto 4, 3) := by decide +kernel
theorem dX_type_43 : decode prog_1_method_2_code 43 = .ok (.iconst 0, 1) := by decide +kernel
theorem dX_type_44 : decode prog_1_method_2_code 44 = .ok (.ireturn, 1) := by decide +kernel
theorem dX_edit_0 : decode prog_1_method_3_code 0 = .ok (.aload_n 0, 1) := by decide +kernel
theorem dX_edit_1 : decode prog_1_method_3_code 1 = .ok (.iload_n 1, 1) := by decide +kernel
theorem dX_edit_2 : decode prog_1_method_3_code 2 = .ok (.iload_n 2, 1) := by decide +kernel
theorem dX_edit_3 : decode prog_1_method_3_code 3 = .ok (.invokevirtual 51, 3) := by decide +kernel
theorem dX_edit_6 : decode prog_1_method_3_code 6 = .ok (.istore_n 3, 1) := by decide +kernel
theorem dX_edit_7 : decode prog_1_method_3_code 7 = .ok (.iload_n 3, 1) := by decide +kernel
theorem dX_edit_8 : decode prog_1_method_3_code 8 = .ok (.ifCond .eq 71, 3) := by decide +kernel
theorem dX_edit_11 : decode prog_1_method_3_code 11 = .ok (.aload_n 0, 1) := by decide +kernel
theorem dX_edit_12 : decode prog_1_method_3_code 12 = .ok (.getfield 36, 3) := by decide +kernel
theorem dX_edit_15 : decode prog_1_method_3_code 15 = .ok (.aload_n 0, 1) := by decide +kernel
theorem dX_edit_16 : decode prog_1_method_3_code 16 = .ok (.getfield 22, 3) := by decide +kernel
theorem dX_edit_19 : decode prog_1_method_3_code 19 = .ok (.getfield 55, 3) := by decide +kernel
theorem dX_edit_22 : decode prog_1_method_3_code 22 = .ok (.invokevirtual 58, 3) := by decide +kernel
theorem dX_edit_25 : decode prog_1_method_3_code 25 = .ok (.aload_n 0, 1) := by decide +kernel
theorem dX_edit_26 : decode prog_1_method_3_code 26 = .ok (.getfield 26, 3) := by decide +kernel
theorem dX_edit_29 : decode prog_1_method_3_code 29 = .ok (.getfield 55, 3) := by decide +kernel
theorem dX_edit_32 : decode prog_1_method_3_code 32 = .ok (.aload_n 0, 1) := by decide +kernel
theorem dX_edit_33 : decode prog_1_method_3_code 33 = .ok (.getfield 22, 3) := by decide +kernel
theorem dX_edit_36 : decode prog_1_method_3_code 36 = .ok (.getfield 55, 3) := by decide +kernel
theorem dX_edit_39 : decode prog_1_method_3_code 39 = .ok (.iload_n 1, 1) := by decide +kernel
theorem dX_edit_40 : decode prog_1_method_3_code 40 = .ok (.iload_n 2, 1) := by decide +kernel
theorem dX_edit_41 : decode prog_1_method_3_code 41 = .ok (.aload_n 0, 1) := by decide +kernel
theorem dX_edit_42 : decode prog_1_method_3_code 42 = .ok (.getfield 29, 3) := by decide +kernel
theorem dX_edit_45 : decode prog_1_method_3_code 45 = .ok (.invokevirtual 61, 3) := by decide +kernel
theorem dX_edit_48 : decode prog_1_method_3_code 48 = .ok (.aload_n 0, 1) := by decide +kernel
theorem dX_edit_49 : decode prog_1_method_3_code 49 = .ok (.getfield 26, 3) := by decide +kernel
theorem dX_edit_52 : decode prog_1_method_3_code 52 = .ok (.invokevirtual 19, 3) := by decide +kernel
theorem dX_edit_55 : decode prog_1_method_3_code 55 = .ok (.aload_n 0, 1) := by decide +kernel
theorem dX_edit_56 : decode prog_1_method_3_code 56 = .ok (.invokevirtual 65, 3) := by decide +kernel
theorem dX_edit_59 : decode prog_1_method_3_code 59 = .ok (.aload_n 0, 1) := by decide +kernel
theorem dX_edit_60 : decode prog_1_method_3_code 60 = .ok (.aload_n 0, 1) := by decide +kernel
theorem dX_edit_61 : decode prog_1_method_3_code 61 = .ok (.iload_n 1, 1) := by decide +kernel
theorem dX_edit_62 : decode prog_1_method_3_code 62 = .ok (.iload_n 2, 1) := by decide +kernel
theorem dX_edit_63 : decode prog_1_method_3_code 63 = .ok (.invokevirtual 68, 3) := by decide +kernel
theorem dX_edit_66 : decode prog_1_method_3_code 66 = .ok (.putfield 44, 3) := by decide +kernel
theorem dX_edit_69 : decode prog_1_method_3_code 69 = .ok (.aload_n 0, 1) := by decide +kernel
theorem dX_edit_70 : decode prog_1_method_3_code 70 = .ok (.dup, 1) := by decide +kernel
theorem dX_edit_71 : decode prog_1_method_3_code 71 = .ok (.getfield 40, 3) := by decide +kernel
theorem dX_edit_74 : decode prog_1_method_3_code 74 = .ok (.iconst 1, 1) := by decide +kernel
theorem dX_edit_75 : decode prog_1_method_3_code 75 = .ok (.iadd, 1) := by decide +kernel
theorem dX_edit_76 : decode prog_1_method_3_code 76 = .ok (.putfield 40, 3) := by decide +kernel
theorem dX_edit_79 : decode prog_1_method_3_code 79 = .ok (.aload_n 0, 1) := by decide +kernel
theorem dX_edit_80 : decode prog_1_method_3_code 80 = .ok (.getfield 29, 3) := by decide +kernel
theorem dX_edit_83 : decode prog_1_method_3_code 83 = .ok (.invokevirtual 72, 3) := by decide +kernel
theorem dX_edit_86 : decode prog_1_method_3_code 86 = .ok (.iload_n 3, 1) := by decide +kernel
theorem dX_edit_87 : decode prog_1_method_3_code 87 = .ok (.ireturn, 1) := by decide +kernel
theorem dX_undo_0 : decode prog_1_method_4_code 0 = .ok (.aload_n 0, 1) := by decide +kernel
theorem dX_undo_1 : decode prog_1_method_4_code 1 = .ok (.getfield 36, 3) := by decide +kernel
theorem dX_undo_4 : decode prog_1_method_4_code 4 = .ok (.aload_n 0, 1) := by decide +kernel
theorem dX_undo_5 : decode prog_1_method_4_code 5 = .ok (.getfield 22, 3) := by decide +kernel
theorem dX_undo_8 : decode prog_1_method_4_code 8 = .ok (.getfield 55, 3) := by decide +kernel
theorem dX_undo_11 : decode prog_1_method_4_code 11 = .ok (.invokevirtual 75, 3) := by decide +kernel
theorem dX_undo_14 : decode prog_1_method_4_code 14 = .ok (.ifCond .ne 5, 3) := by decide +kernel
theorem dX_undo_17 : decode prog_1_method_4_code 17 = .ok (.iconst 0, 1) := by decide +kernel
theorem dX_undo_18 : decode prog_1_method_4_code 18 = .ok (.ireturn, 1) := by decide +kernel
theorem dX_undo_19 : decode prog_1_method_4_code 19 = .ok (.aload_n 0, 1) := by decide +kernel
theorem dX_undo_20 : decode prog_1_method_4_code 20 = .ok (.getfield 22, 3) := by decide +kernel
theorem dX_undo_23 : decode prog_1_method_4_code 23 = .ok (.invokevirtual 19, 3) := by decide +kernel
theorem dX_undo_26 : decode prog_1_method_4_code 26 = .ok (.aload_n 0, 1) := by decide +kernel
theorem dX_undo_27 : decode prog_1_method_4_code 27 = .ok (.dup, 1) := by decide +kernel
theorem dX_undo_28 : decode prog_1_method_4_code 28 = .ok (.getfield 40, 3) := by decide +kernel
theorem dX_undo_31 : decode prog_1_method_4_code 31 = .ok (.iconst 1, 1) := by decide +kernel
theorem dX_undo_32 : decode prog_1_method_4_code 32 = .ok (.isub, 1) := by decide +kernel
theorem dX_undo_33 : decode prog_1_method_4_code 33 = .ok (.putfield 40, 3) := by decide +kernel
theorem dX_undo_36 : decode prog_1_method_4_code 36 = .ok (.iconst 1, 1) := by decide +kernel
theorem dX_undo_37 : decode prog_1_method_4_code 37 = .ok (.ireturn, 1) := by decide +kernel
theorem dX_length_0 : decode prog_1_method_5_code 0 = .ok (.aload_n 0, 1) := by decide +kernel
theorem dX_length_1 : decode prog_1_method_5_code 1 = .ok (.getfield 22, 3) := by decide +kernel
theorem dX_length_4 : decode prog_1_method_5_code 4 = .ok (.getfield 55, 3) := by decide +kernel
theorem dX_length_7 : decode prog_1_method_5_code 7 = .ok (.getfield 79, 3) := by decide +kernel
theorem dX_length_10 : decode prog_1_method_5_code 10 = .ok (.ireturn, 1) := by decide +kernel
theorem dX_letter_0 : decode prog_1_method_6_code 0 = .ok (.aload_n 0, 1) := by decide +kernel
theorem dX_letter_1 : decode prog_1_method_6_code 1 = .ok (.getfield 22, 3) := by decide +kernel
theorem dX_letter_4 : decode prog_1_method_6_code 4 = .ok (.getfield 55, 3) := by decide +kernel
theorem dX_letter_7 : decode prog_1_method_6_code 7 = .ok (.iload_n 1, 1) := by decide +kernel
theorem dX_letter_8 : decode prog_1_method_6_code 8 = .ok (.invokevirtual 82, 3) := by decide +kernel
theorem dX_letter_11 : decode prog_1_method_6_code 11 = .ok (.ireturn, 1) := by decide +kernel
theorem dX_node_0 : decode prog_1_method_7_code 0 = .ok (.aload_n 0, 1) := by decide +kernel
theorem dX_node_1 : decode prog_1_method_7_code 1 = .ok (.getfield 22, 3) := by decide +kernel
theorem dX_node_4 : decode prog_1_method_7_code 4 = .ok (.getfield 86, 3) := by decide +kernel
theorem dX_node_7 : decode prog_1_method_7_code 7 = .ok (.astore_n 3, 1) := by decide +kernel
theorem dX_node_8 : decode prog_1_method_7_code 8 = .ok (.aload_n 3, 1) := by decide +kernel
theorem dX_node_9 : decode prog_1_method_7_code 9 = .ok (.iload_n 1, 1) := by decide +kernel
theorem dX_node_10 : decode prog_1_method_7_code 10 = .ok (.invokevirtual 90, 3) := by decide +kernel
theorem dX_node_13 : decode prog_1_method_7_code 13 = .ok (.ifCond .ne 5, 3) := by decide +kernel
theorem dX_node_16 : decode prog_1_method_7_code 16 = .ok (.iconst (-1), 1) := by decide +kernel
theorem dX_node_17 : decode prog_1_method_7_code 17 = .ok (.ireturn, 1) := by decide +kernel
theorem dX_node_18 : decode prog_1_method_7_code 18 = .ok (.iload_n 2, 1) := by decide +kernel
theorem dX_node_19 : decode prog_1_method_7_code 19 = .ok (.tableswitch 114 0 8 #[49, 56, 63, 69, 75, 81, 87, 101, 107], 49) := by decide +kernel
theorem dX_node_68 : decode prog_1_method_7_code 68 = .ok (.aload_n 3, 1) := by decide +kernel
theorem dX_node_69 : decode prog_1_method_7_code 69 = .ok (.getfield 95, 3) := by decide +kernel
theorem dX_node_72 : decode prog_1_method_7_code 72 = .ok (.iload_n 1, 1) := by decide +kernel
theorem dX_node_73 : decode prog_1_method_7_code 73 = .ok (.iaload, 1) := by decide +kernel
theorem dX_node_74 : decode prog_1_method_7_code 74 = .ok (.ireturn, 1) := by decide +kernel
theorem dX_node_75 : decode prog_1_method_7_code 75 = .ok (.aload_n 3, 1) := by decide +kernel
theorem dX_node_76 : decode prog_1_method_7_code 76 = .ok (.getfield 99, 3) := by decide +kernel
theorem dX_node_79 : decode prog_1_method_7_code 79 = .ok (.iload_n 1, 1) := by decide +kernel
theorem dX_node_80 : decode prog_1_method_7_code 80 = .ok (.iaload, 1) := by decide +kernel
theorem dX_node_81 : decode prog_1_method_7_code 81 = .ok (.ireturn, 1) := by decide +kernel
theorem dX_node_82 : decode prog_1_method_7_code 82 = .ok (.aload_n 3, 1) := by decide +kernel
theorem dX_node_83 : decode prog_1_method_7_code 83 = .ok (.iload_n 1, 1) := by decide +kernel
theorem dX_node_84 : decode prog_1_method_7_code 84 = .ok (.invokevirtual 102, 3) := by decide +kernel
theorem dX_node_87 : decode prog_1_method_7_code 87 = .ok (.ireturn, 1) := by decide +kernel
theorem dX_node_88 : decode prog_1_method_7_code 88 = .ok (.aload_n 3, 1) := by decide +kernel
theorem dX_node_89 : decode prog_1_method_7_code 89 = .ok (.iload_n 1, 1) := by decide +kernel
theorem dX_node_90 : decode prog_1_method_7_code 90 = .ok (.invokevirtual 105, 3) := by decide +kernel
theorem dX_node_93 : decode prog_1_method_7_code 93 = .ok (.ireturn, 1) := by decide +kernel
theorem dX_node_94 : decode prog_1_method_7_code 94 = .ok (.aload_n 3, 1) := by decide +kernel
theorem dX_node_95 : decode prog_1_method_7_code 95 = .ok (.iload_n 1, 1) := by decide +kernel
theorem dX_node_96 : decode prog_1_method_7_code 96 = .ok (.invokevirtual 108, 3) := by decide +kernel
theorem dX_node_99 : decode prog_1_method_7_code 99 = .ok (.ireturn, 1) := by decide +kernel
theorem dX_node_100 : decode prog_1_method_7_code 100 = .ok (.aload_n 3, 1) := by decide +kernel
theorem dX_node_101 : decode prog_1_method_7_code 101 = .ok (.iload_n 1, 1) := by decide +kernel
theorem dX_node_102 : decode prog_1_method_7_code 102 = .ok (.invokevirtual 111, 3) := by decide +kernel
theorem dX_node_105 : decode prog_1_method_7_code 105 = .ok (.ireturn, 1) := by decide +kernel
theorem dX_node_106 : decode prog_1_method_7_code 106 = .ok (.aload_n 3, 1) := by decide +kernel
theorem dX_node_107 : decode prog_1_method_7_code 107 = .ok (.iload_n 1, 1) := by decide +kernel
theorem dX_node_108 : decode prog_1_method_7_code 108 = .ok (.invokevirtual 114, 3) := by decide +kernel
theorem dX_node_111 : decode prog_1_method_7_code 111 = .ok (.ifCond .eq 7, 3) := by decide +kernel
theorem dX_node_114 : decode prog_1_method_7_code 114 = .ok (.iconst 1, 1) := by decide +kernel
theorem dX_node_115 : decode prog_1_method_7_code 115 = .ok (.goto 4, 3) := by decide +kernel
theorem dX_node_118 : decode prog_1_method_7_code 118 = .ok (.iconst 0, 1) := by decide +kernel
theorem dX_node_119 : decode prog_1_method_7_code 119 = .ok (.ireturn, 1) := by decide +kernel
theorem dX_node_120 : decode prog_1_method_7_code 120 = .ok (.aload_n 3, 1) := by decide +kernel
theorem dX_node_121 : decode prog_1_method_7_code 121 = .ok (.iload_n 1, 1) := by decide +kernel
theorem dX_node_122 : decode prog_1_method_7_code 122 = .ok (.invokevirtual 117, 3) := by decide +kernel
theorem dX_node_125 : decode prog_1_method_7_code 125 = .ok (.ireturn, 1) := by decide +kernel
theorem dX_node_126 : decode prog_1_method_7_code 126 = .ok (.aload_n 3, 1) := by decide +kernel
theorem dX_node_127 : decode prog_1_method_7_code 127 = .ok (.getfield 120, 3) := by decide +kernel
theorem dX_node_130 : decode prog_1_method_7_code 130 = .ok (.iload_n 1, 1) := by decide +kernel
theorem dX_node_131 : decode prog_1_method_7_code 131 = .ok (.iaload, 1) := by decide +kernel
theorem dX_node_132 : decode prog_1_method_7_code 132 = .ok (.ireturn, 1) := by decide +kernel
theorem dX_node_133 : decode prog_1_method_7_code 133 = .ok (.iconst (-1), 1) := by decide +kernel
theorem dX_node_134 : decode prog_1_method_7_code 134 = .ok (.ireturn, 1) := by decide +kernel
theorem dX_child_0 : decode prog_1_method_8_code 0 = .ok (.aload_n 0, 1) := by decide +kernel
theorem dX_child_1 : decode prog_1_method_8_code 1 = .ok (.getfield 22, 3) := by decide +kernel
theorem dX_child_4 : decode prog_1_method_8_code 4 = .ok (.getfield 86, 3) := by decide +kernel
theorem dX_child_7 : decode prog_1_method_8_code 7 = .ok (.iload_n 1, 1) := by decide +kernel
theorem dX_child_8 : decode prog_1_method_8_code 8 = .ok (.invokevirtual 90, 3) := by decide +kernel
theorem dX_child_11 : decode prog_1_method_8_code 11 = .ok (.ifCond .eq 18, 3) := by decide +kernel
theorem dX_child_14 : decode prog_1_method_8_code 14 = .ok (.aload_n 0, 1) := by decide +kernel
theorem dX_child_15 : decode prog_1_method_8_code 15 = .ok (.getfield 22, 3) := by decide +kernel
theorem dX_child_18 : decode prog_1_method_8_code 18 = .ok (.getfield 86, 3) := by decide +kernel
theorem dX_child_21 : decode prog_1_method_8_code 21 = .ok (.iload_n 1, 1) := by decide +kernel
theorem dX_child_22 : decode prog_1_method_8_code 22 = .ok (.iload_n 2, 1) := by decide +kernel
theorem dX_child_23 : decode prog_1_method_8_code 23 = .ok (.invokevirtual 123, 3) := by decide +kernel
theorem dX_child_26 : decode prog_1_method_8_code 26 = .ok (.goto 4, 3) := by decide +kernel
theorem dX_child_29 : decode prog_1_method_8_code 29 = .ok (.iconst (-1), 1) := by decide +kernel
theorem dX_child_30 : decode prog_1_method_8_code 30 = .ok (.ireturn, 1) := by decide +kernel
theorem dX_find_0 : decode prog_1_method_9_code 0 = .ok (.aload_n 0, 1) := by decide +kernel
theorem dX_find_1 : decode prog_1_method_9_code 1 = .ok (.getfield 22, 3) := by decide +kernel
theorem dX_find_4 : decode prog_1_method_9_code 4 = .ok (.getfield 86, 3) := by decide +kernel
theorem dX_find_7 : decode prog_1_method_9_code 7 = .ok (.iload_n 1, 1) := by decide +kernel
theorem dX_find_8 : decode prog_1_method_9_code 8 = .ok (.invokevirtual 126, 3) := by decide +kernel
theorem dX_find_11 : decode prog_1_method_9_code 11 = .ok (.ireturn, 1) := by decide +kernel
theorem dX_equal_0 : decode prog_1_method_10_code 0 = .ok (.aload_n 0, 1) := by decide +kernel
theorem dX_equal_1 : decode prog_1_method_10_code 1 = .ok (.getfield 22, 3) := by decide +kernel
theorem dX_equal_4 : decode prog_1_method_10_code 4 = .ok (.getfield 86, 3) := by decide +kernel
theorem dX_equal_7 : decode prog_1_method_10_code 7 = .ok (.astore_n 3, 1) := by decide +kernel
theorem dX_equal_8 : decode prog_1_method_10_code 8 = .ok (.aload_n 3, 1) := by decide +kernel
theorem dX_equal_9 : decode prog_1_method_10_code 9 = .ok (.iload_n 1, 1) := by decide +kernel
theorem dX_equal_10 : decode prog_1_method_10_code 10 = .ok (.invokevirtual 90, 3) := by decide +kernel
theorem dX_equal_13 : decode prog_1_method_10_code 13 = .ok (.ifCond .eq 25, 3) := by decide +kernel
theorem dX_equal_16 : decode prog_1_method_10_code 16 = .ok (.aload_n 3, 1) := by decide +kernel
theorem dX_equal_17 : decode prog_1_method_10_code 17 = .ok (.iload_n 2, 1) := by decide +kernel
theorem dX_equal_18 : decode prog_1_method_10_code 18 = .ok (.invokevirtual 90, 3) := by decide +kernel
theorem dX_equal_21 : decode prog_1_method_10_code 21 = .ok (.ifCond .eq 17, 3) := by decide +kernel
theorem dX_equal_24 : decode prog_1_method_10_code 24 = .ok (.aload_n 3, 1) := by decide +kernel
theorem dX_equal_25 : decode prog_1_method_10_code 25 = .ok (.iload_n 1, 1) := by decide +kernel
theorem dX_equal_26 : decode prog_1_method_10_code 26 = .ok (.aload_n 3, 1) := by decide +kernel
theorem dX_equal_27 : decode prog_1_method_10_code 27 = .ok (.iload_n 2, 1) := by decide +kernel
theorem dX_equal_28 : decode prog_1_method_10_code 28 = .ok (.invokevirtual 129, 3) := by decide +kernel
theorem dX_equal_31 : decode prog_1_method_10_code 31 = .ok (.ifCond .eq 7, 3) := by decide +kernel
theorem dX_equal_34 : decode prog_1_method_10_code 34 = .ok (.iconst 1, 1) := by decide +kernel
theorem dX_equal_35 : decode prog_1_method_10_code 35 = .ok (.goto 4, 3) := by decide +kernel
theorem dX_equal_38 : decode prog_1_method_10_code 38 = .ok (.iconst 0, 1) := by decide +kernel
theorem dX_equal_39 : decode prog_1_method_10_code 39 = .ok (.ireturn, 1) := by decide +kernel
theorem dX_fault_0 : decode prog_1_method_11_code 0 = .ok (.aload_n 0, 1) := by decide +kernel
theorem dX_fault_1 : decode prog_1_method_11_code 1 = .ok (.getfield 22, 3) := by decide +kernel
theorem dX_fault_4 : decode prog_1_method_11_code 4 = .ok (.getfield 86, 3) := by decide +kernel
theorem dX_fault_7 : decode prog_1_method_11_code 7 = .ok (.astore_n 2, 1) := by decide +kernel
theorem dX_fault_8 : decode prog_1_method_11_code 8 = .ok (.iload_n 1, 1) := by decide +kernel
theorem dX_fault_9 : decode prog_1_method_11_code 9 = .ok (.ifCond .lt 20, 3) := by decide +kernel
theorem dX_fault_12 : decode prog_1_method_11_code 12 = .ok (.iload_n 1, 1) := by decide +kernel
theorem dX_fault_13 : decode prog_1_method_11_code 13 = .ok (.aload_n 2, 1) := by decide +kernel
theorem dX_fault_14 : decode prog_1_method_11_code 14 = .ok (.getfield 133, 3) := by decide +kernel
theorem dX_fault_17 : decode prog_1_method_11_code 17 = .ok (.if_icmp .ge 12, 3) := by decide +kernel
theorem dX_fault_20 : decode prog_1_method_11_code 20 = .ok (.aload_n 2, 1) := by decide +kernel
theorem dX_fault_21 : decode prog_1_method_11_code 21 = .ok (.getfield 136, 3) := by decide +kernel
theorem dX_fault_24 : decode prog_1_method_11_code 24 = .ok (.iload_n 1, 1) := by decide +kernel
theorem dX_fault_25 : decode prog_1_method_11_code 25 = .ok (.iaload, 1) := by decide +kernel
theorem dX_fault_26 : decode prog_1_method_11_code 26 = .ok (.goto 4, 3) := by decide +kernel
theorem dX_fault_29 : decode prog_1_method_11_code 29 = .ok (.iconst (-1), 1) := by decide +kernel
theorem dX_fault_30 : decode prog_1_method_11_code 30 = .ok (.ireturn, 1) := by decide +kernel
theorem dX_count_0 : decode prog_1_method_12_code 0 = .ok (.iload_n 1, 1) := by decide +kernel
theorem dX_count_1 : decode prog_1_method_12_code 1 = .ok (.tableswitch 117 0 7 #[47, 58, 69, 80, 91, 96, 104, 109], 47) := by decide +kernel
theorem dX_count_48 : decode prog_1_method_12_code 48 = .ok (.aload_n 0, 1) := by decide +kernel
theorem dX_count_49 : decode prog_1_method_12_code 49 = .ok (.getfield 22, 3) := by decide +kernel
theorem dX_count_52 : decode prog_1_method_12_code 52 = .ok (.getfield 86, 3) := by decide +kernel
theorem dX_count_55 : decode prog_1_method_12_code 55 = .ok (.getfield 139, 3) := by decide +kernel
theorem dX_count_58 : decode prog_1_method_12_code 58 = .ok (.ireturn, 1) := by decide +kernel
theorem dX_count_59 : decode prog_1_method_12_code 59 = .ok (.aload_n 0, 1) := by decide +kernel
theorem dX_count_60 : decode prog_1_method_12_code 60 = .ok (.getfield 22, 3) := by decide +kernel
theorem dX_count_63 : decode prog_1_method_12_code 63 = .ok (.getfield 86, 3) := by decide +kernel
theorem dX_count_66 : decode prog_1_method_12_code 66 = .ok (.invokevirtual 142, 3) := by decide +kernel
theorem dX_count_69 : decode prog_1_method_12_code 69 = .ok (.ireturn, 1) := by decide +kernel
theorem dX_count_70 : decode prog_1_method_12_code 70 = .ok (.aload_n 0, 1) := by decide +kernel
theorem dX_count_71 : decode prog_1_method_12_code 71 = .ok (.getfield 22, 3) := by decide +kernel
theorem dX_count_74 : decode prog_1_method_12_code 74 = .ok (.getfield 86, 3) := by decide +kernel
theorem dX_count_77 : decode prog_1_method_12_code 77 = .ok (.getfield 133, 3) := by decide +kernel
theorem dX_count_80 : decode prog_1_method_12_code 80 = .ok (.ireturn, 1) := by decide +kernel
theorem dX_count_81 : decode prog_1_method_12_code 81 = .ok (.aload_n 0, 1) := by decide +kernel
theorem dX_count_82 : decode prog_1_method_12_code 82 = .ok (.getfield 22, 3) := by decide +kernel
theorem dX_count_85 : decode prog_1_method_12_code 85 = .ok (.getfield 86, 3) := by decide +kernel
theorem dX_count_88 : decode prog_1_method_12_code 88 = .ok (.invokevirtual 146, 3) := by decide +kernel
theorem dX_count_91 : decode prog_1_method_12_code 91 = .ok (.ireturn, 1) := by decide +kernel
theorem dX_count_92 : decode prog_1_method_12_code 92 = .ok (.aload_n 0, 1) := by decide +kernel
theorem dX_count_93 : decode prog_1_method_12_code 93 = .ok (.getfield 40, 3) := by decide +kernel
theorem dX_count_96 : decode prog_1_method_12_code 96 = .ok (.ireturn, 1) := by decide +kernel
theorem dX_count_97 : decode prog_1_method_12_code 97 = .ok (.aload_n 0, 1) := by decide +kernel
theorem dX_count_98 : decode prog_1_method_12_code 98 = .ok (.getfield 36, 3) := by decide +kernel
theorem dX_count_101 : decode prog_1_method_12_code 101 = .ok (.getfield 149, 3) := by decide +kernel
theorem dX_count_104 : decode prog_1_method_12_code 104 = .ok (.ireturn, 1) := by decide +kernel
theorem dX_count_105 : decode prog_1_method_12_code 105 = .ok (.aload_n 0, 1) := by decide +kernel
theorem dX_count_106 : decode prog_1_method_12_code 106 = .ok (.getfield 44, 3) := by decide +kernel
theorem dX_count_109 : decode prog_1_method_12_code 109 = .ok (.ireturn, 1) := by decide +kernel
theorem dX_count_110 : decode prog_1_method_12_code 110 = .ok (.aload_n 0, 1) := by decide +kernel
theorem dX_count_111 : decode prog_1_method_12_code 111 = .ok (.getfield 29, 3) := by decide +kernel
theorem dX_count_114 : decode prog_1_method_12_code 114 = .ok (.getfield 79, 3) := by decide +kernel
theorem dX_count_117 : decode prog_1_method_12_code 117 = .ok (.ireturn, 1) := by decide +kernel
theorem dX_count_118 : decode prog_1_method_12_code 118 = .ok (.iconst (-1), 1) := by decide +kernel
theorem dX_count_119 : decode prog_1_method_12_code 119 = .ok (.ireturn, 1) := by decide +kernel
theorem dX_fits_0 : decode prog_1_method_13_code 0 = .ok (.aload_n 0, 1) := by decide +kernel
theorem dX_fits_1 : decode prog_1_method_13_code 1 = .ok (.getfield 22, 3) := by decide +kernel
theorem dX_fits_4 : decode prog_1_method_13_code 4 = .ok (.getfield 55, 3) := by decide +kernel
theorem dX_fits_7 : decode prog_1_method_13_code 7 = .ok (.getfield 79, 3) := by decide +kernel
theorem dX_fits_10 : decode prog_1_method_13_code 10 = .ok (.istore_n 3, 1) := by decide +kernel
theorem dX_fits_11 : decode prog_1_method_13_code 11 = .ok (.iload_n 1, 1) := by decide +kernel
theorem dX_fits_12 : decode prog_1_method_13_code 12 = .ok (.ifCond .lt 14, 3) := by decide +kernel
theorem dX_fits_15 : decode prog_1_method_13_code 15 = .ok (.iload_n 2, 1) := by decide +kernel
theorem dX_fits_16 : decode prog_1_method_13_code 16 = .ok (.ifCond .lt 10, 3) := by decide +kernel
theorem dX_fits_19 : decode prog_1_method_13_code 19 = .ok (.iload_n 2, 1) := by decide +kernel
theorem dX_fits_20 : decode prog_1_method_13_code 20 = .ok (.iload_n 3, 1) := by decide +kernel
theorem dX_fits_21 : decode prog_1_method_13_code 21 = .ok (.iload_n 1, 1) := by decide +kernel
theorem dX_fits_22 : decode prog_1_method_13_code 22 = .ok (.isub, 1) := by decide +kernel
theorem dX_fits_23 : decode prog_1_method_13_code 23 = .ok (.if_icmp .le 5, 3) := by decide +kernel
theorem dX_fits_26 : decode prog_1_method_13_code 26 = .ok (.iconst 0, 1) := by decide +kernel
theorem dX_fits_27 : decode prog_1_method_13_code 27 = .ok (.ireturn, 1) := by decide +kernel
theorem dX_fits_28 : decode prog_1_method_13_code 28 = .ok (.iload_n 3, 1) := by decide +kernel
theorem dX_fits_29 : decode prog_1_method_13_code 29 = .ok (.iload_n 2, 1) := by decide +kernel
theorem dX_fits_30 : decode prog_1_method_13_code 30 = .ok (.isub, 1) := by decide +kernel
theorem dX_fits_31 : decode prog_1_method_13_code 31 = .ok (.aload_n 0, 1) := by decide +kernel
theorem dX_fits_32 : decode prog_1_method_13_code 32 = .ok (.getfield 29, 3) := by decide +kernel
theorem dX_fits_35 : decode prog_1_method_13_code 35 = .ok (.getfield 79, 3) := by decide +kernel
theorem dX_fits_38 : decode prog_1_method_13_code 38 = .ok (.iadd, 1) := by decide +kernel
theorem dX_fits_39 : decode prog_1_method_13_code 39 = .ok (.bipush 60, 2) := by decide +kernel
theorem dX_fits_41 : decode prog_1_method_13_code 41 = .ok (.if_icmp .gt 7, 3) := by decide +kernel
theorem dX_fits_44 : decode prog_1_method_13_code 44 = .ok (.iconst 1, 1) := by decide +kernel
theorem dX_fits_45 : decode prog_1_method_13_code 45 = .ok (.goto 4, 3) := by decide +kernel
theorem dX_fits_48 : decode prog_1_method_13_code 48 = .ok (.iconst 0, 1) := by decide +kernel
theorem dX_fits_49 : decode prog_1_method_13_code 49 = .ok (.ireturn, 1) := by decide +kernel
theorem dX_takeTurns_0 : decode prog_1_method_14_code 0 = .ok (.aload_n 0, 1) := by decide +kernel
theorem dX_takeTurns_1 : decode prog_1_method_14_code 1 = .ok (.getfield 22, 3) := by decide +kernel
theorem dX_takeTurns_4 : decode prog_1_method_14_code 4 = .ok (.astore_n 1, 1) := by decide +kernel
theorem dX_takeTurns_5 : decode prog_1_method_14_code 5 = .ok (.aload_n 0, 1) := by decide +kernel
theorem dX_takeTurns_6 : decode prog_1_method_14_code 6 = .ok (.aload_n 0, 1) := by decide +kernel
theorem dX_takeTurns_7 : decode prog_1_method_14_code 7 = .ok (.getfield 26, 3) := by decide +kernel
theorem dX_takeTurns_10 : decode prog_1_method_14_code 10 = .ok (.putfield 22, 3) := by decide +kernel
theorem dX_takeTurns_13 : decode prog_1_method_14_code 13 = .ok (.aload_n 0, 1) := by decide +kernel
theorem dX_takeTurns_14 : decode prog_1_method_14_code 14 = .ok (.aload_n 1, 1) := by decide +kernel
theorem dX_takeTurns_15 : decode prog_1_method_14_code 15 = .ok (.putfield 26, 3) := by decide +kernel
theorem dX_takeTurns_18 : decode prog_1_method_14_code 18 = .ok (.return_, 1) := by decide +kernel
theorem dX_keptCount_0 : decode prog_1_method_15_code 0 = .ok (.iconst 0, 1) := by decide +kernel
theorem dX_keptCount_1 : decode prog_1_method_15_code 1 = .ok (.istore_n 3, 1) := by decide +kernel
theorem dX_keptCount_2 : decode prog_1_method_15_code 2 = .ok (.iconst 0, 1) := by decide +kernel
theorem dX_keptCount_3 : decode prog_1_method_15_code 3 = .ok (.istore 4, 2) := by decide +kernel
theorem dX_keptCount_5 : decode prog_1_method_15_code 5 = .ok (.iload 4, 2) := by decide +kernel
theorem dX_keptCount_7 : decode prog_1_method_15_code 7 = .ok (.aload_n 0, 1) := by decide +kernel
theorem dX_keptCount_8 : decode prog_1_method_15_code 8 = .ok (.getfield 22, 3) := by decide +kernel
theorem dX_keptCount_11 : decode prog_1_method_15_code 11 = .ok (.getfield 86, 3) := by decide +kernel
theorem dX_keptCount_14 : decode prog_1_method_15_code 14 = .ok (.getfield 139, 3) := by decide +kernel
theorem dX_keptCount_17 : decode prog_1_method_15_code 17 = .ok (.if_icmp .ge 38, 3) := by decide +kernel
theorem dX_keptCount_20 : decode prog_1_method_15_code 20 = .ok (.aload_n 0, 1) := by decide +kernel
theorem dX_keptCount_21 : decode prog_1_method_15_code 21 = .ok (.getfield 22, 3) := by decide +kernel
theorem dX_keptCount_24 : decode prog_1_method_15_code 24 = .ok (.getfield 86, 3) := by decide +kernel
theorem dX_keptCount_27 : decode prog_1_method_15_code 27 = .ok (.iload 4, 2) := by decide +kernel
theorem dX_keptCount_29 : decode prog_1_method_15_code 29 = .ok (.invokevirtual 152, 3) := by decide +kernel
theorem dX_keptCount_32 : decode prog_1_method_15_code 32 = .ok (.ifCond .eq 17, 3) := by decide +kernel
theorem dX_keptCount_35 : decode prog_1_method_15_code 35 = .ok (.aload_n 0, 1) := by decide +kernel
theorem dX_keptCount_36 : decode prog_1_method_15_code 36 = .ok (.iload 4, 2) := by decide +kernel
theorem dX_keptCount_38 : decode prog_1_method_15_code 38 = .ok (.iload_n 1, 1) := by decide +kernel
theorem dX_keptCount_39 : decode prog_1_method_15_code 39 = .ok (.iload_n 2, 1) := by decide +kernel
theorem dX_keptCount_40 : decode prog_1_method_15_code 40 = .ok (.invokevirtual 155, 3) := by decide +kernel
theorem dX_keptCount_43 : decode prog_1_method_15_code 43 = .ok (.ifCond .eq 6, 3) := by decide +kernel
theorem dX_keptCount_46 : decode prog_1_method_15_code 46 = .ok (.iinc 3 1, 3) := by decide +kernel
theorem dX_keptCount_49 : decode prog_1_method_15_code 49 = .ok (.iinc 4 1, 3) := by decide +kernel
theorem dX_keptCount_52 : decode prog_1_method_15_code 52 = .ok (.goto (-47), 3) := by decide +kernel
theorem dX_keptCount_55 : decode prog_1_method_15_code 55 = .ok (.iload_n 3, 1) := by decide +kernel
theorem dX_keptCount_56 : decode prog_1_method_15_code 56 = .ok (.ireturn, 1) := by decide +kernel
theorem dX_isKept_0 : decode prog_1_method_16_code 0 = .ok (.aload_n 0, 1) := by decide +kernel
theorem dX_isKept_1 : decode prog_1_method_16_code 1 = .ok (.getfield 26, 3) := by decide +kernel
theorem dX_isKept_4 : decode prog_1_method_16_code 4 = .ok (.getfield 86, 3) := by decide +kernel
theorem dX_isKept_7 : decode prog_1_method_16_code 7 = .ok (.astore 4, 2) := by decide +kernel
theorem dX_isKept_9 : decode prog_1_method_16_code 9 = .ok (.aload_n 0, 1) := by decide +kernel
theorem dX_isKept_10 : decode prog_1_method_16_code 10 = .ok (.getfield 22, 3) := by decide +kernel
theorem dX_isKept_13 : decode prog_1_method_16_code 13 = .ok (.getfield 86, 3) := by decide +kernel
theorem dX_isKept_16 : decode prog_1_method_16_code 16 = .ok (.getfield 99, 3) := by decide +kernel
theorem dX_isKept_19 : decode prog_1_method_16_code 19 = .ok (.iload_n 1, 1) := by decide +kernel
theorem dX_isKept_20 : decode prog_1_method_16_code 20 = .ok (.iaload, 1) := by decide +kernel
theorem dX_isKept_21 : decode prog_1_method_16_code 21 = .ok (.istore 5, 2) := by decide +kernel
theorem dX_isKept_23 : decode prog_1_method_16_code 23 = .ok (.iconst 0, 1) := by decide +kernel
theorem dX_isKept_24 : decode prog_1_method_16_code 24 = .ok (.istore 6, 2) := by decide +kernel
theorem dX_isKept_26 : decode prog_1_method_16_code 26 = .ok (.iload 6, 2) := by decide +kernel
theorem dX_isKept_28 : decode prog_1_method_16_code 28 = .ok (.aload 4, 2) := by decide +kernel
theorem dX_isKept_30 : decode prog_1_method_16_code 30 = .ok (.getfield 139, 3) := by decide +kernel
theorem dX_isKept_33 : decode prog_1_method_16_code 33 = .ok (.if_icmp .ge 109, 3) := by decide +kernel
theorem dX_isKept_36 : decode prog_1_method_16_code 36 = .ok (.aload 4, 2) := by decide +kernel
theorem dX_isKept_38 : decode prog_1_method_16_code 38 = .ok (.getfield 99, 3) := by decide +kernel
theorem dX_isKept_41 : decode prog_1_method_16_code 41 = .ok (.iload 6, 2) := by decide +kernel
theorem dX_isKept_43 : decode prog_1_method_16_code 43 = .ok (.iaload, 1) := by decide +kernel
theorem dX_isKept_44 : decode prog_1_method_16_code 44 = .ok (.istore 7, 2) := by decide +kernel
theorem dX_isKept_46 : decode prog_1_method_16_code 46 = .ok (.iload 7, 2) := by decide +kernel
theorem dX_isKept_48 : decode prog_1_method_16_code 48 = .ok (.iload 5, 2) := by decide +kernel
theorem dX_isKept_50 : decode prog_1_method_16_code 50 = .ok (.if_icmp .ne 21, 3) := by decide +kernel
theorem dX_isKept_53 : decode prog_1_method_16_code 53 = .ok (.iload 7, 2) := by decide +kernel
theorem dX_isKept_55 : decode prog_1_method_16_code 55 = .ok (.aload 4, 2) := by decide +kernel
theorem dX_isKept_57 : decode prog_1_method_16_code 57 = .ok (.iload 6, 2) := by decide +kernel
theorem dX_isKept_59 : decode prog_1_method_16_code 59 = .ok (.invokevirtual 102, 3) := by decide +kernel
theorem dX_isKept_62 : decode prog_1_method_16_code 62 = .ok (.iadd, 1) := by decide +kernel
theorem dX_isKept_63 : decode prog_1_method_16_code 63 = .ok (.iload_n 2, 1) := by decide +kernel
theorem dX_isKept_64 : decode prog_1_method_16_code 64 = .ok (.if_icmp .gt 7, 3) := by decide +kernel
theorem dX_isKept_67 : decode prog_1_method_16_code 67 = .ok (.iconst 1, 1) := by decide +kernel
theorem dX_isKept_68 : decode prog_1_method_16_code 68 = .ok (.goto 4, 3) := by decide +kernel
theorem dX_isKept_71 : decode prog_1_method_16_code 71 = .ok (.iconst 0, 1) := by decide +kernel
theorem dX_isKept_72 : decode prog_1_method_16_code 72 = .ok (.istore 8, 2) := by decide +kernel
theorem dX_isKept_74 : decode prog_1_method_16_code 74 = .ok (.iload 7, 2) := by decide +kernel
theorem dX_isKept_76 : decode prog_1_method_16_code 76 = .ok (.iload_n 2, 1) := by decide +kernel
theorem dX_isKept_77 : decode prog_1_method_16_code 77 = .ok (.iload_n 3, 1) := by decide +kernel
theorem dX_isKept_78 : decode prog_1_method_16_code 78 = .ok (.iadd, 1) := by decide +kernel
theorem dX_isKept_79 : decode prog_1_method_16_code 79 = .ok (.if_icmp .lt 24, 3) := by decide +kernel
theorem dX_isKept_82 : decode prog_1_method_16_code 82 = .ok (.iload 5, 2) := by decide +kernel
theorem dX_isKept_84 : decode prog_1_method_16_code 84 = .ok (.iload 7, 2) := by decide +kernel
theorem dX_isKept_86 : decode prog_1_method_16_code 86 = .ok (.iload_n 3, 1) := by decide +kernel
theorem dX_isKept_87 : decode prog_1_method_16_code 87 = .ok (.isub, 1) := by decide +kernel
theorem dX_isKept_88 : decode prog_1_method_16_code 88 = .ok (.aload_n 0, 1) := by decide +kernel
theorem dX_isKept_89 : decode prog_1_method_16_code 89 = .ok (.getfield 29, 3) := by decide +kernel
theorem dX_isKept_92 : decode prog_1_method_16_code 92 = .ok (.getfield 79, 3) := by decide +kernel
theorem dX_isKept_95 : decode prog_1_method_16_code 95 = .ok (.iadd, 1) := by decide +kernel
theorem dX_isKept_96 : decode prog_1_method_16_code 96 = .ok (.if_icmp .ne 7, 3) := by decide +kernel
theorem dX_isKept_99 : decode prog_1_method_16_code 99 = .ok (.iconst 1, 1) := by decide +kernel
theorem dX_isKept_100 : decode prog_1_method_16_code 100 = .ok (.goto 4, 3) := by decide +kernel
theorem dX_isKept_103 : decode prog_1_method_16_code 103 = .ok (.iconst 0, 1) := by decide +kernel
theorem dX_isKept_104 : decode prog_1_method_16_code 104 = .ok (.istore 9, 2) := by decide +kernel
theorem dX_isKept_106 : decode prog_1_method_16_code 106 = .ok (.iload 8, 2) := by decide +kernel
theorem dX_isKept_108 : decode prog_1_method_16_code 108 = .ok (.ifCond .ne 8, 3) := by decide +kernel
theorem dX_isKept_111 : decode prog_1_method_16_code 111 = .ok (.iload 9, 2) := by decide +kernel
theorem dX_isKept_113 : decode prog_1_method_16_code 113 = .ok (.ifCond .eq 23, 3) := by decide +kernel
theorem dX_isKept_116 : decode prog_1_method_16_code 116 = .ok (.aload_n 0, 1) := by decide +kernel
theorem dX_isKept_117 : decode prog_1_method_16_code 117 = .ok (.getfield 22, 3) := by decide +kernel
theorem dX_isKept_120 : decode prog_1_method_16_code 120 = .ok (.getfield 86, 3) := by decide +kernel
theorem dX_isKept_123 : decode prog_1_method_16_code 123 = .ok (.iload_n 1, 1) := by decide +kernel
theorem dX_isKept_124 : decode prog_1_method_16_code 124 = .ok (.aload 4, 2) := by decide +kernel
theorem dX_isKept_126 : decode prog_1_method_16_code 126 = .ok (.iload 6, 2) := by decide +kernel
theorem dX_isKept_128 : decode prog_1_method_16_code 128 = .ok (.invokevirtual 129, 3) := by decide +kernel
theorem dX_isKept_131 : decode prog_1_method_16_code 131 = .ok (.ifCond .eq 5, 3) := by decide +kernel
theorem dX_isKept_134 : decode prog_1_method_16_code 134 = .ok (.iconst 1, 1) := by decide +kernel
theorem dX_isKept_135 : decode prog_1_method_16_code 135 = .ok (.ireturn, 1) := by decide +kernel
theorem dX_isKept_136 : decode prog_1_method_16_code 136 = .ok (.iinc 6 1, 3) := by decide +kernel
theorem dX_isKept_139 : decode prog_1_method_16_code 139 = .ok (.goto (-113), 3) := by decide +kernel
theorem dX_isKept_142 : decode prog_1_method_16_code 142 = .ok (.iconst 0, 1) := by decide +kernel
theorem dX_isKept_143 : decode prog_1_method_16_code 143 = .ok (.ireturn, 1) := by decide +kernel
theorem dM_init_0 : decode prog_8_method_1_code 0 = .ok (.aload_n 0, 1) := by decide +kernel
theorem dM_init_1 : decode prog_8_method_1_code 1 = .ok (.invokespecial 1, 3) := by decide +kernel
theorem dM_init_4 : decode prog_8_method_1_code 4 = .ok (.aload_n 0, 1) := by decide +kernel
theorem dM_init_5 : decode prog_8_method_1_code 5 = .ok (.bipush 120, 2) := by decide +kernel
theorem dM_init_7 : decode prog_8_method_1_code 7 = .ok (.newarray .char, 2) := by decide +kernel
theorem dM_init_9 : decode prog_8_method_1_code 9 = .ok (.putfield 7, 3) := by decide +kernel
theorem dM_init_12 : decode prog_8_method_1_code 12 = .ok (.aload_n 0, 1) := by decide +kernel
theorem dM_init_13 : decode prog_8_method_1_code 13 = .ok (.iconst 2, 1) := by decide +kernel
theorem dM_init_14 : decode prog_8_method_1_code 14 = .ok (.newarray .int, 2) := by decide +kernel
theorem dM_init_16 : decode prog_8_method_1_code 16 = .ok (.putfield 13, 3) := by decide +kernel
theorem dM_init_19 : decode prog_8_method_1_code 19 = .ok (.aload_n 0, 1) := by decide +kernel
theorem dM_init_20 : decode prog_8_method_1_code 20 = .ok (.bipush 122, 2) := by decide +kernel
theorem dM_init_22 : decode prog_8_method_1_code 22 = .ok (.newarray .int, 2) := by decide +kernel
theorem dM_init_24 : decode prog_8_method_1_code 24 = .ok (.putfield 17, 3) := by decide +kernel
theorem dM_init_27 : decode prog_8_method_1_code 27 = .ok (.aload_n 0, 1) := by decide +kernel
theorem dM_init_28 : decode prog_8_method_1_code 28 = .ok (.iconst 2, 1) := by decide +kernel
theorem dM_init_29 : decode prog_8_method_1_code 29 = .ok (.newarray .int, 2) := by decide +kernel
theorem dM_init_31 : decode prog_8_method_1_code 31 = .ok (.putfield 20, 3) := by decide +kernel
theorem dM_init_34 : decode prog_8_method_1_code 34 = .ok (.aload_n 0, 1) := by decide +kernel
theorem dM_init_35 : decode prog_8_method_1_code 35 = .ok (.sipush 800, 3) := by decide +kernel
theorem dM_init_38 : decode prog_8_method_1_code 38 = .ok (.newarray .int, 2) := by decide +kernel
theorem dM_init_40 : decode prog_8_method_1_code 40 = .ok (.putfield 23, 3) := by decide +kernel
theorem dM_init_43 : decode prog_8_method_1_code 43 = .ok (.aload_n 0, 1) := by decide +kernel
theorem dM_init_44 : decode prog_8_method_1_code 44 = .ok (.sipush 800, 3) := by decide +kernel
theorem dM_init_47 : decode prog_8_method_1_code 47 = .ok (.newarray .int, 2) := by decide +kernel
theorem dM_init_49 : decode prog_8_method_1_code 49 = .ok (.putfield 26, 3) := by decide +kernel
theorem dM_init_52 : decode prog_8_method_1_code 52 = .ok (.aload_n 0, 1) := by decide +kernel
theorem dM_init_53 : decode prog_8_method_1_code 53 = .ok (.sipush 800, 3) := by decide +kernel
theorem dM_init_56 : decode prog_8_method_1_code 56 = .ok (.newarray .int, 2) := by decide +kernel
theorem dM_init_58 : decode prog_8_method_1_code 58 = .ok (.putfield 29, 3) := by decide +kernel
theorem dM_init_61 : decode prog_8_method_1_code 61 = .ok (.aload_n 0, 1) := by decide +kernel
theorem dM_init_62 : decode prog_8_method_1_code 62 = .ok (.sipush 800, 3) := by decide +kernel
theorem dM_init_65 : decode prog_8_method_1_code 65 = .ok (.newarray .int, 2) := by decide +kernel
theorem dM_init_67 : decode prog_8_method_1_code 67 = .ok (.putfield 32, 3) := by decide +kernel
theorem dM_init_70 : decode prog_8_method_1_code 70 = .ok (.aload_n 0, 1) := by decide +kernel
theorem dM_init_71 : decode prog_8_method_1_code 71 = .ok (.sipush 800, 3) := by decide +kernel
theorem dM_init_74 : decode prog_8_method_1_code 74 = .ok (.newarray .int, 2) := by decide +kernel
theorem dM_init_76 : decode prog_8_method_1_code 76 = .ok (.putfield 35, 3) := by decide +kernel
theorem dM_init_79 : decode prog_8_method_1_code 79 = .ok (.aload_n 0, 1) := by decide +kernel
theorem dM_init_80 : decode prog_8_method_1_code 80 = .ok (.sipush 800, 3) := by decide +kernel
theorem dM_init_83 : decode prog_8_method_1_code 83 = .ok (.newarray .int, 2) := by decide +kernel
theorem dM_init_85 : decode prog_8_method_1_code 85 = .ok (.putfield 38, 3) := by decide +kernel
theorem dM_init_88 : decode prog_8_method_1_code 88 = .ok (.aload_n 0, 1) := by decide +kernel
theorem dM_init_89 : decode prog_8_method_1_code 89 = .ok (.sipush 800, 3) := by decide +kernel
theorem dM_init_92 : decode prog_8_method_1_code 92 = .ok (.newarray .int, 2) := by decide +kernel
theorem dM_init_94 : decode prog_8_method_1_code 94 = .ok (.putfield 41, 3) := by decide +kernel
theorem dM_init_97 : decode prog_8_method_1_code 97 = .ok (.aload_n 0, 1) := by decide +kernel
theorem dM_init_98 : decode prog_8_method_1_code 98 = .ok (.sipush 800, 3) := by decide +kernel
theorem dM_init_101 : decode prog_8_method_1_code 101 = .ok (.newarray .int, 2) := by decide +kernel
theorem dM_init_103 : decode prog_8_method_1_code 103 = .ok (.putfield 44, 3) := by decide +kernel
theorem dM_init_106 : decode prog_8_method_1_code 106 = .ok (.aload_n 0, 1) := by decide +kernel
theorem dM_init_107 : decode prog_8_method_1_code 107 = .ok (.sipush 180, 3) := by decide +kernel
theorem dM_init_110 : decode prog_8_method_1_code 110 = .ok (.newarray .char, 2) := by decide +kernel
theorem dM_init_112 : decode prog_8_method_1_code 112 = .ok (.putfield 47, 3) := by decide +kernel
theorem dM_init_115 : decode prog_8_method_1_code 115 = .ok (.aload_n 0, 1) := by decide +kernel
theorem dM_init_116 : decode prog_8_method_1_code 116 = .ok (.iconst 3, 1) := by decide +kernel
theorem dM_init_117 : decode prog_8_method_1_code 117 = .ok (.newarray .int, 2) := by decide +kernel
theorem dM_init_119 : decode prog_8_method_1_code 119 = .ok (.putfield 50, 3) := by decide +kernel
theorem dM_init_122 : decode prog_8_method_1_code 122 = .ok (.aload_n 0, 1) := by decide +kernel
theorem dM_init_123 : decode prog_8_method_1_code 123 = .ok (.bipush 20, 2) := by decide +kernel
theorem dM_init_125 : decode prog_8_method_1_code 125 = .ok (.newarray .char, 2) := by decide +kernel
theorem dM_init_127 : decode prog_8_method_1_code 127 = .ok (.putfield 53, 3) := by decide +kernel
theorem dM_init_130 : decode prog_8_method_1_code 130 = .ok (.aload_n 0, 1) := by decide +kernel
theorem dM_init_131 : decode prog_8_method_1_code 131 = .ok (.bipush 61, 2) := by decide +kernel
theorem dM_init_133 : decode prog_8_method_1_code 133 = .ok (.newarray .int, 2) := by decide +kernel
theorem dM_init_135 : decode prog_8_method_1_code 135 = .ok (.putfield 56, 3) := by decide +kernel
theorem dM_init_138 : decode prog_8_method_1_code 138 = .ok (.aload_n 0, 1) := by decide +kernel
theorem dM_init_139 : decode prog_8_method_1_code 139 = .ok (.bipush 61, 2) := by decide +kernel
theorem dM_init_141 : decode prog_8_method_1_code 141 = .ok (.newarray .int, 2) := by decide +kernel
theorem dM_init_143 : decode prog_8_method_1_code 143 = .ok (.putfield 59, 3) := by decide +kernel
theorem dM_init_146 : decode prog_8_method_1_code 146 = .ok (.aload_n 0, 1) := by decide +kernel
theorem dM_init_147 : decode prog_8_method_1_code 147 = .ok (.bipush 61, 2) := by decide +kernel
theorem dM_init_149 : decode prog_8_method_1_code 149 = .ok (.newarray .int, 2) := by decide +kernel
theorem dM_init_151 : decode prog_8_method_1_code 151 = .ok (.putfield 62, 3) := by decide +kernel
theorem dM_init_154 : decode prog_8_method_1_code 154 = .ok (.aload_n 0, 1) := by decide +kernel
theorem dM_init_155 : decode prog_8_method_1_code 155 = .ok (.sipush 400, 3) := by decide +kernel
theorem dM_init_158 : decode prog_8_method_1_code 158 = .ok (.newarray .int, 2) := by decide +kernel
theorem dM_init_160 : decode prog_8_method_1_code 160 = .ok (.putfield 65, 3) := by decide +kernel
theorem dM_init_163 : decode prog_8_method_1_code 163 = .ok (.aload_n 0, 1) := by decide +kernel
theorem dM_init_164 : decode prog_8_method_1_code 164 = .ok (.sipush 400, 3) := by decide +kernel
theorem dM_init_167 : decode prog_8_method_1_code 167 = .ok (.newarray .int, 2) := by decide +kernel
theorem dM_init_169 : decode prog_8_method_1_code 169 = .ok (.putfield 68, 3) := by decide +kernel
theorem dM_init_172 : decode prog_8_method_1_code 172 = .ok (.aload_n 0, 1) := by decide +kernel
theorem dM_init_173 : decode prog_8_method_1_code 173 = .ok (.sipush 400, 3) := by decide +kernel
theorem dM_init_176 : decode prog_8_method_1_code 176 = .ok (.newarray .int, 2) := by decide +kernel
theorem dM_init_178 : decode prog_8_method_1_code 178 = .ok (.putfield 71, 3) := by decide +kernel
theorem dM_init_181 : decode prog_8_method_1_code 181 = .ok (.aload_n 0, 1) := by decide +kernel
theorem dM_init_182 : decode prog_8_method_1_code 182 = .ok (.sipush 400, 3) := by decide +kernel
theorem dM_init_185 : decode prog_8_method_1_code 185 = .ok (.newarray .int, 2) := by decide +kernel
theorem dM_init_187 : decode prog_8_method_1_code 187 = .ok (.putfield 74, 3) := by decide +kernel
theorem dM_init_190 : decode prog_8_method_1_code 190 = .ok (.aload_n 0, 1) := by decide +kernel
theorem dM_init_191 : decode prog_8_method_1_code 191 = .ok (.sipush 400, 3) := by decide +kernel
theorem dM_init_194 : decode prog_8_method_1_code 194 = .ok (.newarray .int, 2) := by decide +kernel
theorem dM_init_196 : decode prog_8_method_1_code 196 = .ok (.putfield 77, 3) := by decide +kernel
theorem dM_init_199 : decode prog_8_method_1_code 199 = .ok (.aload_n 0, 1) := by decide +kernel
theorem dM_init_200 : decode prog_8_method_1_code 200 = .ok (.sipush 400, 3) := by decide +kernel
theorem dM_init_203 : decode prog_8_method_1_code 203 = .ok (.newarray .int, 2) := by decide +kernel
theorem dM_init_205 : decode prog_8_method_1_code 205 = .ok (.putfield 80, 3) := by decide +kernel
theorem dM_init_208 : decode prog_8_method_1_code 208 = .ok (.aload_n 0, 1) := by decide +kernel
theorem dM_init_209 : decode prog_8_method_1_code 209 = .ok (.sipush 400, 3) := by decide +kernel
theorem dM_init_212 : decode prog_8_method_1_code 212 = .ok (.newarray .int, 2) := by decide +kernel
theorem dM_init_214 : decode prog_8_method_1_code 214 = .ok (.putfield 83, 3) := by decide +kernel
theorem dM_init_217 : decode prog_8_method_1_code 217 = .ok (.aload_n 0, 1) := by decide +kernel
theorem dM_init_218 : decode prog_8_method_1_code 218 = .ok (.sipush 400, 3) := by decide +kernel
theorem dM_init_221 : decode prog_8_method_1_code 221 = .ok (.newarray .int, 2) := by decide +kernel
theorem dM_init_223 : decode prog_8_method_1_code 223 = .ok (.putfield 86, 3) := by decide +kernel
theorem dM_init_226 : decode prog_8_method_1_code 226 = .ok (.aload_n 0, 1) := by decide +kernel
theorem dM_init_227 : decode prog_8_method_1_code 227 = .ok (.sipush 400, 3) := by decide +kernel
theorem dM_init_230 : decode prog_8_method_1_code 230 = .ok (.newarray .int, 2) := by decide +kernel
theorem dM_init_232 : decode prog_8_method_1_code 232 = .ok (.putfield 89, 3) := by decide +kernel
theorem dM_init_235 : decode prog_8_method_1_code 235 = .ok (.aload_n 0, 1) := by decide +kernel
theorem dM_init_236 : decode prog_8_method_1_code 236 = .ok (.sipush 400, 3) := by decide +kernel
theorem dM_init_239 : decode prog_8_method_1_code 239 = .ok (.newarray .int, 2) := by decide +kernel
theorem dM_init_241 : decode prog_8_method_1_code 241 = .ok (.putfield 92, 3) := by decide +kernel
theorem dM_init_244 : decode prog_8_method_1_code 244 = .ok (.aload_n 0, 1) := by decide +kernel
theorem dM_init_245 : decode prog_8_method_1_code 245 = .ok (.sipush 400, 3) := by decide +kernel
theorem dM_init_248 : decode prog_8_method_1_code 248 = .ok (.newarray .int, 2) := by decide +kernel
theorem dM_init_250 : decode prog_8_method_1_code 250 = .ok (.putfield 95, 3) := by decide +kernel
theorem dM_init_253 : decode prog_8_method_1_code 253 = .ok (.aload_n 0, 1) := by decide +kernel
theorem dM_init_254 : decode prog_8_method_1_code 254 = .ok (.sipush 200, 3) := by decide +kernel
theorem dM_init_257 : decode prog_8_method_1_code 257 = .ok (.newarray .int, 2) := by decide +kernel
theorem dM_init_259 : decode prog_8_method_1_code 259 = .ok (.putfield 98, 3) := by decide +kernel
theorem dM_init_262 : decode prog_8_method_1_code 262 = .ok (.aload_n 0, 1) := by decide +kernel
theorem dM_init_263 : decode prog_8_method_1_code 263 = .ok (.sipush 200, 3) := by decide +kernel
theorem dM_init_266 : decode prog_8_method_1_code 266 = .ok (.newarray .int, 2) := by decide +kernel
theorem dM_init_268 : decode prog_8_method_1_code 268 = .ok (.putfield 101, 3) := by decide +kernel
theorem dM_init_271 : decode prog_8_method_1_code 271 = .ok (.aload_n 0, 1) := by decide +kernel
theorem dM_init_272 : decode prog_8_method_1_code 272 = .ok (.sipush 200, 3) := by decide +kernel
theorem dM_init_275 : decode prog_8_method_1_code 275 = .ok (.newarray .int, 2) := by decide +kernel
theorem dM_init_277 : decode prog_8_method_1_code 277 = .ok (.putfield 104, 3) := by decide +kernel
theorem dM_init_280 : decode prog_8_method_1_code 280 = .ok (.aload_n 0, 1) := by decide +kernel
theorem dM_init_281 : decode prog_8_method_1_code 281 = .ok (.iconst 0, 1) := by decide +kernel
theorem dM_init_282 : decode prog_8_method_1_code 282 = .ok (.invokevirtual 107, 3) := by decide +kernel
theorem dM_init_285 : decode prog_8_method_1_code 285 = .ok (.return_, 1) := by decide +kernel
theorem dM_look_0 : decode prog_8_method_2_code 0 = .ok (.iload_n 2, 1) := by decide +kernel
theorem dM_look_1 : decode prog_8_method_2_code 1 = .ok (.aload_n 0, 1) := by decide +kernel
theorem dM_look_2 : decode prog_8_method_2_code 2 = .ok (.getfield 13, 3) := by decide +kernel
theorem dM_look_5 : decode prog_8_method_2_code 5 = .ok (.iload_n 1, 1) := by decide +kernel
theorem dM_look_6 : decode prog_8_method_2_code 6 = .ok (.iaload, 1) := by decide +kernel
theorem dM_look_7 : decode prog_8_method_2_code 7 = .ok (.if_icmp .ge 17, 3) := by decide +kernel
theorem dM_look_10 : decode prog_8_method_2_code 10 = .ok (.aload_n 0, 1) := by decide +kernel
theorem dM_look_11 : decode prog_8_method_2_code 11 = .ok (.getfield 7, 3) := by decide +kernel
theorem dM_look_14 : decode prog_8_method_2_code 14 = .ok (.bipush 60, 2) := by decide +kernel
theorem dM_look_16 : decode prog_8_method_2_code 16 = .ok (.iload_n 1, 1) := by decide +kernel
theorem dM_look_17 : decode prog_8_method_2_code 17 = .ok (.imul, 1) := by decide +kernel
theorem dM_look_18 : decode prog_8_method_2_code 18 = .ok (.iload_n 2, 1) := by decide +kernel
theorem dM_look_19 : decode prog_8_method_2_code 19 = .ok (.iadd, 1) := by decide +kernel
theorem dM_look_20 : decode prog_8_method_2_code 20 = .ok (.caload, 1) := by decide +kernel
theorem dM_look_21 : decode prog_8_method_2_code 21 = .ok (.goto 4, 3) := by decide +kernel
theorem dM_look_24 : decode prog_8_method_2_code 24 = .ok (.iconst 0, 1) := by decide +kernel
theorem dM_look_25 : decode prog_8_method_2_code 25 = .ok (.ireturn, 1) := by decide +kernel
end
section
/-! what the classes lay, the private methods, the nest links, as members -/
theorem in_cL : ∀ w ∈ u_ws RcL TcL 2, w ∈ TB := List.forall_mem_cons.mpr ⟨tw36, List.forall_mem_cons.mpr ⟨tw38, fun _ h => absurd h List.not_mem_nil⟩⟩
theorem in_cK : ∀ w ∈ u_ws RcK TcK 6, w ∈ TB := List.forall_mem_cons.mpr ⟨tw99, List.forall_mem_cons.mpr ⟨tw101, List.forall_mem_cons.mpr ⟨tw103, List.forall_mem_cons.mpr ⟨tw105, List.forall_mem_cons.mpr ⟨tw107, List.forall_mem_cons.mpr ⟨tw109, fun _ h => absurd h List.not_mem_nil⟩⟩⟩⟩⟩⟩
theorem in_cT : ∀ w ∈ u_ws RcT TcT 9, w ∈ TB := List.forall_mem_cons.mpr ⟨tw68, List.forall_mem_cons.mpr ⟨tw70, List.forall_mem_cons.mpr ⟨tw72, List.forall_mem_cons.mpr ⟨tw74, List.forall_mem_cons.mpr ⟨tw76, List.forall_mem_cons.mpr ⟨tw78, List.forall_mem_cons.mpr ⟨tw80, List.forall_mem_cons.mpr ⟨tw82, List.forall_mem_cons.mpr ⟨tw84, fun _ h => absurd h List.not_mem_nil⟩⟩⟩⟩⟩⟩⟩⟩⟩
theorem in_cR : ∀ w ∈ u_ws RcR TcR 10, w ∈ TB := List.forall_mem_cons.mpr ⟨tw124, List.forall_mem_cons.mpr ⟨tw126, List.forall_mem_cons.mpr ⟨tw128, List.forall_mem_cons.mpr ⟨tw130, List.forall_mem_cons.mpr ⟨tw132, List.forall_mem_cons.mpr ⟨tw134, List.forall_mem_cons.mpr ⟨tw136, List.forall_mem_cons.mpr ⟨tw138, List.forall_mem_cons.mpr ⟨tw140, List.forall_mem_cons.mpr ⟨tw142, fun _ h => absurd h List.not_mem_nil⟩⟩⟩⟩⟩⟩⟩⟩⟩⟩
theorem in_cH : ∀ w ∈ u_ws RcH TcH 2, w ∈ TB := List.forall_mem_cons.mpr ⟨tw454, List.forall_mem_cons.mpr ⟨tw456, fun _ h => absurd h List.not_mem_nil⟩⟩
theorem in_cX : ∀ w ∈ u_ws RcX TcX 6, w ∈ TB := List.forall_mem_cons.mpr ⟨tw466, List.forall_mem_cons.mpr ⟨tw468, List.forall_mem_cons.mpr ⟨tw470, List.forall_mem_cons.mpr ⟨tw472, List.forall_mem_cons.mpr ⟨tw474, List.forall_mem_cons.mpr ⟨tw476, fun _ h => absurd h List.not_mem_nil⟩⟩⟩⟩⟩⟩
theorem in_cM : ∀ w ∈ u_ws RcM TcM 43, w ∈ TB := List.forall_mem_cons.mpr ⟨tw803, List.forall_mem_cons.mpr ⟨tw805, List.forall_mem_cons.mpr ⟨tw807, List.forall_mem_cons.mpr ⟨tw809, List.forall_mem_cons.mpr ⟨tw811, List.forall_mem_cons.mpr ⟨tw813, List.forall_mem_cons.mpr ⟨tw815, List.forall_mem_cons.mpr ⟨tw817, List.forall_mem_cons.mpr ⟨tw819, List.forall_mem_cons.mpr ⟨tw821, List.forall_mem_cons.mpr ⟨tw823, List.forall_mem_cons.mpr ⟨tw825, List.forall_mem_cons.mpr ⟨tw827, List.forall_mem_cons.mpr ⟨tw829, List.forall_mem_cons.mpr ⟨tw831, List.forall_mem_cons.mpr ⟨tw833, List.forall_mem_cons.mpr ⟨tw835, List.forall_mem_cons.mpr ⟨tw837, List.forall_mem_cons.mpr ⟨tw839, List.forall_mem_cons.mpr ⟨tw841, List.forall_mem_cons.mpr ⟨tw843, List.forall_mem_cons.mpr ⟨tw845, List.forall_mem_cons.mpr ⟨tw847, List.forall_mem_cons.mpr ⟨tw849, List.forall_mem_cons.mpr ⟨tw851, List.forall_mem_cons.mpr ⟨tw853, List.forall_mem_cons.mpr ⟨tw855, List.forall_mem_cons.mpr ⟨tw857, List.forall_mem_cons.mpr ⟨tw859, List.forall_mem_cons.mpr ⟨tw861, List.forall_mem_cons.mpr ⟨tw863, List.forall_mem_cons.mpr ⟨tw865, List.forall_mem_cons.mpr ⟨tw867, List.forall_mem_cons.mpr ⟨tw869, List.forall_mem_cons.mpr ⟨tw871, List.forall_mem_cons.mpr ⟨tw873, List.forall_mem_cons.mpr ⟨tw875, List.forall_mem_cons.mpr ⟨tw877, List.forall_mem_cons.mpr ⟨tw879, List.forall_mem_cons.mpr ⟨tw881, List.forall_mem_cons.mpr ⟨tw883, List.forall_mem_cons.mpr ⟨tw885, List.forall_mem_cons.mpr ⟨tw887, fun _ h => absurd h List.not_mem_nil⟩⟩⟩⟩⟩⟩⟩⟩⟩⟩⟩⟩⟩⟩⟩⟩⟩⟩⟩⟩⟩⟩⟩⟩⟩⟩⟩⟩⟩⟩⟩⟩⟩⟩⟩⟩⟩⟩⟩⟩⟩⟩⟩
theorem nw33 : (Jvm.Cond.fieldLinkNest "SharedSyntax$Tokens" (32 : Nat) "SharedSyntax$Letters" "size" "I" "SharedSyntax") ∈ NW := by decide +kernel
theorem nw34 : (Jvm.Cond.fieldLinkNest "SharedSyntax" (79 : Nat) "SharedSyntax$Letters" "size" "I" "SharedSyntax") ∈ NW := by decide +kernel
theorem nw35 : (Jvm.Cond.fieldLinkNest "SharedSyntax$Tree" (55 : Nat) "SharedSyntax$Letters" "size" "I" "SharedSyntax") ∈ NW := by decide +kernel
theorem nw54 : (Jvm.Cond.fieldLinkNest "SharedSyntax" (95 : Nat) "SharedSyntax$Tree" "kinds" "[I" "SharedSyntax") ∈ NW := by decide +kernel
theorem nw56 : (Jvm.Cond.fieldLinkNest "SharedSyntax" (120 : Nat) "SharedSyntax$Tree" "sizes" "[I" "SharedSyntax") ∈ NW := by decide +kernel
theorem nw58 : (Jvm.Cond.fieldLinkNest "SharedSyntax" (99 : Nat) "SharedSyntax$Tree" "begins" "[I" "SharedSyntax") ∈ NW := by decide +kernel
theorem nw62 : (Jvm.Cond.fieldLinkNest "SharedSyntax" (136 : Nat) "SharedSyntax$Tree" "faults" "[I" "SharedSyntax") ∈ NW := by decide +kernel
theorem nw64 : (Jvm.Cond.fieldLinkNest "SharedSyntax" (139 : Nat) "SharedSyntax$Tree" "used" "I" "SharedSyntax") ∈ NW := by decide +kernel
theorem nw65 : (Jvm.Cond.fieldLinkNest "SharedSyntax$Reading" (144 : Nat) "SharedSyntax$Tree" "used" "I" "SharedSyntax") ∈ NW := by decide +kernel
theorem nw67 : (Jvm.Cond.fieldLinkNest "SharedSyntax" (133 : Nat) "SharedSyntax$Tree" "faultCount" "I" "SharedSyntax") ∈ NW := by decide +kernel
theorem nw113 : (Jvm.Cond.fieldLinkNest "SharedSyntax" (55 : Nat) "SharedSyntax$Reading" "text" "LSharedSyntax$Letters;" "SharedSyntax") ∈ NW := by decide +kernel
theorem nw115 : (Jvm.Cond.fieldLinkNest "SharedSyntax" (86 : Nat) "SharedSyntax$Reading" "tree" "LSharedSyntax$Tree;" "SharedSyntax") ∈ NW := by decide +kernel
theorem nw453 : (Jvm.Cond.fieldLinkNest "SharedSyntax" (149 : Nat) "SharedSyntax$History" "stored" "I" "SharedSyntax") ∈ NW := by decide +kernel
theorem pv_K_behindBlanks : ((⟨"SharedSyntax$Tokens", "behindBlanks", "(I)I"⟩ : MethodName), 6) ∈ lw_privs := by decide +kernel
theorem pv_K_behindOwn : ((⟨"SharedSyntax$Tokens", "behindOwn", "(I)I"⟩ : MethodName), 6) ∈ lw_privs := by decide +kernel
theorem pv_K_kindOf : ((⟨"SharedSyntax$Tokens", "kindOf", "(II)I"⟩ : MethodName), 6) ∈ lw_privs := by decide +kernel
theorem pv_K_wordKind : ((⟨"SharedSyntax$Tokens", "wordKind", "(II)I"⟩ : MethodName), 6) ∈ lw_privs := by decide +kernel
theorem pv_K_spells : ((⟨"SharedSyntax$Tokens", "spells", "(IILjava/lang/String;)Z"⟩ : MethodName), 6) ∈ lw_privs := by decide +kernel
theorem pv_R_begin : ((⟨"SharedSyntax$Reading", "begin", "(I)I"⟩ : MethodName), 10) ∈ lw_privs := by decide +kernel
theorem pv_R_list : ((⟨"SharedSyntax$Reading", "list", "(I)V"⟩ : MethodName), 10) ∈ lw_privs := by decide +kernel
theorem pv_R_listEnds : ((⟨"SharedSyntax$Reading", "listEnds", "(I)Z"⟩ : MethodName), 10) ∈ lw_privs := by decide +kernel
theorem pv_R_statementFollows : ((⟨"SharedSyntax$Reading", "statementFollows", "(I)Z"⟩ : MethodName), 10) ∈ lw_privs := by decide +kernel
theorem pv_R_statement : ((⟨"SharedSyntax$Reading", "statement", "(I)V"⟩ : MethodName), 10) ∈ lw_privs := by decide +kernel
theorem pv_R_emptyStatement : ((⟨"SharedSyntax$Reading", "emptyStatement", "()V"⟩ : MethodName), 10) ∈ lw_privs := by decide +kernel
theorem pv_R_take : ((⟨"SharedSyntax$Reading", "take", "()V"⟩ : MethodName), 10) ∈ lw_privs := by decide +kernel
theorem pv_R_block : ((⟨"SharedSyntax$Reading", "block", "(I)V"⟩ : MethodName), 10) ∈ lw_privs := by decide +kernel
theorem pv_R_expect : ((⟨"SharedSyntax$Reading", "expect", "(I)V"⟩ : MethodName), 10) ∈ lw_privs := by decide +kernel
theorem pv_R_miss : ((⟨"SharedSyntax$Reading", "miss", "(II)V"⟩ : MethodName), 10) ∈ lw_privs := by decide +kernel
theorem pv_R_ifStatement : ((⟨"SharedSyntax$Reading", "ifStatement", "(I)V"⟩ : MethodName), 10) ∈ lw_privs := by decide +kernel
theorem pv_R_condition : ((⟨"SharedSyntax$Reading", "condition", "()V"⟩ : MethodName), 10) ∈ lw_privs := by decide +kernel
theorem pv_R_expression : ((⟨"SharedSyntax$Reading", "expression", "(I)V"⟩ : MethodName), 10) ∈ lw_privs := by decide +kernel
theorem pv_R_operand : ((⟨"SharedSyntax$Reading", "operand", "(I)V"⟩ : MethodName), 10) ∈ lw_privs := by decide +kernel
theorem pv_R_parentheses : ((⟨"SharedSyntax$Reading", "parentheses", "(I)V"⟩ : MethodName), 10) ∈ lw_privs := by decide +kernel
theorem pv_R_negative : ((⟨"SharedSyntax$Reading", "negative", "(I)V"⟩ : MethodName), 10) ∈ lw_privs := by decide +kernel
theorem pv_R_closeSigns : ((⟨"SharedSyntax$Reading", "closeSigns", "(III)I"⟩ : MethodName), 10) ∈ lw_privs := by decide +kernel
theorem pv_T_shift : ((⟨"SharedSyntax$Tree", "shift", "([II)V"⟩ : MethodName), 9) ∈ lw_privs := by decide +kernel
theorem pv_R_openSign : ((⟨"SharedSyntax$Reading", "openSign", "(II)V"⟩ : MethodName), 10) ∈ lw_privs := by decide +kernel
theorem pv_R_part : ((⟨"SharedSyntax$Reading", "part", "(I)V"⟩ : MethodName), 10) ∈ lw_privs := by decide +kernel
theorem pv_R_whileStatement : ((⟨"SharedSyntax$Reading", "whileStatement", "(I)V"⟩ : MethodName), 10) ∈ lw_privs := by decide +kernel
theorem pv_R_simpleStatement : ((⟨"SharedSyntax$Reading", "simpleStatement", "()V"⟩ : MethodName), 10) ∈ lw_privs := by decide +kernel
theorem pv_R_skip : ((⟨"SharedSyntax$Reading", "skip", "()V"⟩ : MethodName), 10) ∈ lw_privs := by decide +kernel
theorem pv_X_fits : ((⟨"SharedSyntax", "fits", "(II)Z"⟩ : MethodName), 6) ∈ lw_privs := by decide +kernel
theorem pv_H_giveUpFirst : ((⟨"SharedSyntax$History", "giveUpFirst", "()V"⟩ : MethodName), 2) ∈ lw_privs := by decide +kernel
theorem pv_L_appendPart : ((⟨"SharedSyntax$Letters", "appendPart", "(LSharedSyntax$Letters;II)V"⟩ : MethodName), 2) ∈ lw_privs := by decide +kernel
theorem pv_X_takeTurns : ((⟨"SharedSyntax", "takeTurns", "()V"⟩ : MethodName), 6) ∈ lw_privs := by decide +kernel
theorem pv_X_keptCount : ((⟨"SharedSyntax", "keptCount", "(II)I"⟩ : MethodName), 6) ∈ lw_privs := by decide +kernel
theorem pv_X_isKept : ((⟨"SharedSyntax", "isKept", "(III)Z"⟩ : MethodName), 6) ∈ lw_privs := by decide +kernel
theorem pv_T_sameNode : ((⟨"SharedSyntax$Tree", "sameNode", "(ILSharedSyntax$Tree;I)Z"⟩ : MethodName), 9) ∈ lw_privs := by decide +kernel
theorem pv_T_sameLetters : ((⟨"SharedSyntax$Tree", "sameLetters", "(ILSharedSyntax$Tree;I)Z"⟩ : MethodName), 9) ∈ lw_privs := by decide +kernel
theorem pv_T_sameFaults : ((⟨"SharedSyntax$Tree", "sameFaults", "(ILSharedSyntax$Tree;I)Z"⟩ : MethodName), 9) ∈ lw_privs := by decide +kernel
theorem pv_T_isFirstOfItsLike : ((⟨"SharedSyntax$Tree", "isFirstOfItsLike", "(I)Z"⟩ : MethodName), 9) ∈ lw_privs := by decide +kernel
theorem pv_M_parse : ((⟨"SharedSyntaxModel", "parse", "(I)V"⟩ : MethodName), 43) ∈ lw_privs := by decide +kernel
theorem pv_M_cut : ((⟨"SharedSyntaxModel", "cut", "(I)V"⟩ : MethodName), 43) ∈ lw_privs := by decide +kernel
theorem pv_M_blanks : ((⟨"SharedSyntaxModel", "blanks", "(II)I"⟩ : MethodName), 43) ∈ lw_privs := by decide +kernel
theorem pv_M_look : ((⟨"SharedSyntaxModel", "look", "(II)C"⟩ : MethodName), 43) ∈ lw_privs := by decide +kernel
theorem pv_M_behind : ((⟨"SharedSyntaxModel", "behind", "(II)I"⟩ : MethodName), 43) ∈ lw_privs := by decide +kernel
theorem pv_M_kindOf : ((⟨"SharedSyntaxModel", "kindOf", "(III)I"⟩ : MethodName), 43) ∈ lw_privs := by decide +kernel
theorem pv_M_add : ((⟨"SharedSyntaxModel", "add", "(III)V"⟩ : MethodName), 43) ∈ lw_privs := by decide +kernel
theorem pv_M_perform : ((⟨"SharedSyntaxModel", "perform", "(IIII)V"⟩ : MethodName), 43) ∈ lw_privs := by decide +kernel
theorem pv_M_reduce : ((⟨"SharedSyntaxModel", "reduce", "(II)V"⟩ : MethodName), 43) ∈ lw_privs := by decide +kernel
theorem pv_M_make : ((⟨"SharedSyntaxModel", "make", "(IIIII)V"⟩ : MethodName), 43) ∈ lw_privs := by decide +kernel
theorem pv_M_take : ((⟨"SharedSyntaxModel", "take", "()V"⟩ : MethodName), 43) ∈ lw_privs := by decide +kernel
theorem pv_M_list : ((⟨"SharedSyntaxModel", "list", "(III)V"⟩ : MethodName), 43) ∈ lw_privs := by decide +kernel
theorem pv_M_current : ((⟨"SharedSyntaxModel", "current", "()I"⟩ : MethodName), 43) ∈ lw_privs := by decide +kernel
theorem pv_M_begins : ((⟨"SharedSyntaxModel", "begins", "(I)Z"⟩ : MethodName), 43) ∈ lw_privs := by decide +kernel
theorem pv_M_leaveOut : ((⟨"SharedSyntaxModel", "leaveOut", "(I)V"⟩ : MethodName), 43) ∈ lw_privs := by decide +kernel
theorem pv_M_statement : ((⟨"SharedSyntaxModel", "statement", "(I)V"⟩ : MethodName), 43) ∈ lw_privs := by decide +kernel
theorem pv_M_expect : ((⟨"SharedSyntaxModel", "expect", "(I)V"⟩ : MethodName), 43) ∈ lw_privs := by decide +kernel
theorem pv_M_lack : ((⟨"SharedSyntaxModel", "lack", "(II)V"⟩ : MethodName), 43) ∈ lw_privs := by decide +kernel
theorem pv_M_other : ((⟨"SharedSyntaxModel", "other", "(I)V"⟩ : MethodName), 43) ∈ lw_privs := by decide +kernel
theorem pv_M_part : ((⟨"SharedSyntaxModel", "part", "(I)V"⟩ : MethodName), 43) ∈ lw_privs := by decide +kernel
theorem pv_M_more : ((⟨"SharedSyntaxModel", "more", "(II)V"⟩ : MethodName), 43) ∈ lw_privs := by decide +kernel
theorem pv_M_operand : ((⟨"SharedSyntaxModel", "operand", "(I)V"⟩ : MethodName), 43) ∈ lw_privs := by decide +kernel
theorem pv_M_number : ((⟨"SharedSyntaxModel", "number", "(I)V"⟩ : MethodName), 43) ∈ lw_privs := by decide +kernel
theorem pv_M_following : ((⟨"SharedSyntaxModel", "following", "(I)I"⟩ : MethodName), 43) ∈ lw_privs := by decide +kernel
theorem pv_M_keep : ((⟨"SharedSyntaxModel", "keep", "()V"⟩ : MethodName), 43) ∈ lw_privs := by decide +kernel
theorem pv_M_reused : ((⟨"SharedSyntaxModel", "reused", "(IIIII)Z"⟩ : MethodName), 43) ∈ lw_privs := by decide +kernel
theorem pv_M_alike : ((⟨"SharedSyntaxModel", "alike", "(IIII)Z"⟩ : MethodName), 43) ∈ lw_privs := by decide +kernel
theorem pv_M_sameLeaf : ((⟨"SharedSyntaxModel", "sameLeaf", "(IIII)Z"⟩ : MethodName), 43) ∈ lw_privs := by decide +kernel
theorem pv_M_there : ((⟨"SharedSyntaxModel", "there", "(I)Z"⟩ : MethodName), 43) ∈ lw_privs := by decide +kernel
theorem pv_M_faultsOf : ((⟨"SharedSyntaxModel", "faultsOf", "(I)I"⟩ : MethodName), 43) ∈ lw_privs := by decide +kernel
theorem pv_M_faultIn : ((⟨"SharedSyntaxModel", "faultIn", "(II)I"⟩ : MethodName), 43) ∈ lw_privs := by decide +kernel
theorem pv_M_leaves : ((⟨"SharedSyntaxModel", "leaves", "()I"⟩ : MethodName), 43) ∈ lw_privs := by decide +kernel
theorem pv_M_different : ((⟨"SharedSyntaxModel", "different", "()I"⟩ : MethodName), 43) ∈ lw_privs := by decide +kernel
/-! the world R (by gen.py) -/
def wR (cI cC : ClassId) (ad : Nat → Nat) (s : jS) : va_W := [(ad 0, .inr (3, [.ref (ad 3), .ref (ad 1), .ref (ad 2), .int (jgI s 5), .ref (ad 14), .ref (ad 15), .int (jgI s 6), .ref (ad 16), .ref (ad 17), .int (jgI s 7)])),
  (ad 1, .inr (2, [.ref (ad 3), .ref (ad 8), .ref (ad 9), .ref (ad 10), .ref (ad 11), .ref (ad 12), .ref (ad 13), .int (jgI s 3), .int (jgI s 4)])),
  (ad 2, .inr (1, [.ref (ad 3), .ref (ad 5), .ref (ad 6), .ref (ad 7), .int (jgI s 1), .int (jgI s 2)])),
  (ad 3, .inr (0, [.ref (ad 4), .int (jgI s 0)])),
  (ad 4, .inl (cI, 60, .inl (jgA s 0))),
  (ad 5, .inl (cI, 61, .inl (jgA s 1))),
  (ad 6, .inl (cI, 61, .inl (jgA s 2))),
  (ad 7, .inl (cI, 61, .inl (jgA s 3))),
  (ad 8, .inl (cI, 363, .inl (jgA s 4))),
  (ad 9, .inl (cI, 363, .inl (jgA s 5))),
  (ad 10, .inl (cI, 363, .inl (jgA s 6))),
  (ad 11, .inl (cI, 363, .inl (jgA s 7))),
  (ad 12, .inl (cI, 363, .inl (jgA s 8))),
  (ad 13, .inl (cI, 180, .inl (jgA s 9))),
  (ad 14, .inl (cI, 60, .inl (jgA s 10))),
  (ad 15, .inl (cI, 60, .inl (jgA s 11))),
  (ad 16, .inl (cI, 60, .inl (jgA s 12))),
  (ad 17, .inl (cI, 60, .inl (jgA s 13)))]
theorem wR_e0 (cI cC : ClassId) (ad : Nat → Nat) (s : jS) : (wR cI cC ad s)[0]? = some (ad 0, .inr (3, [.ref (ad 3), .ref (ad 1), .ref (ad 2), .int (jgI s 5), .ref (ad 14), .ref (ad 15), .int (jgI s 6), .ref (ad 16), .ref (ad 17), .int (jgI s 7)])) := rfl
theorem wR_e1 (cI cC : ClassId) (ad : Nat → Nat) (s : jS) : (wR cI cC ad s)[1]? = some (ad 1, .inr (2, [.ref (ad 3), .ref (ad 8), .ref (ad 9), .ref (ad 10), .ref (ad 11), .ref (ad 12), .ref (ad 13), .int (jgI s 3), .int (jgI s 4)])) := rfl
theorem wR_e2 (cI cC : ClassId) (ad : Nat → Nat) (s : jS) : (wR cI cC ad s)[2]? = some (ad 2, .inr (1, [.ref (ad 3), .ref (ad 5), .ref (ad 6), .ref (ad 7), .int (jgI s 1), .int (jgI s 2)])) := rfl
theorem wR_e3 (cI cC : ClassId) (ad : Nat → Nat) (s : jS) : (wR cI cC ad s)[3]? = some (ad 3, .inr (0, [.ref (ad 4), .int (jgI s 0)])) := rfl
theorem wR_e4 (cI cC : ClassId) (ad : Nat → Nat) (s : jS) : (wR cI cC ad s)[4]? = some (ad 4, .inl (cI, 60, .inl (jgA s 0))) := rfl
theorem wR_e5 (cI cC : ClassId) (ad : Nat → Nat) (s : jS) : (wR cI cC ad s)[5]? = some (ad 5, .inl (cI, 61, .inl (jgA s 1))) := rfl
theorem wR_e6 (cI cC : ClassId) (ad : Nat → Nat) (s : jS) : (wR cI cC ad s)[6]? = some (ad 6, .inl (cI, 61, .inl (jgA s 2))) := rfl
theorem wR_e7 (cI cC : ClassId) (ad : Nat → Nat) (s : jS) : (wR cI cC ad s)[7]? = some (ad 7, .inl (cI, 61, .inl (jgA s 3))) := rfl
theorem wR_e8 (cI cC : ClassId) (ad : Nat → Nat) (s : jS) : (wR cI cC ad s)[8]? = some (ad 8, .inl (cI, 363, .inl (jgA s 4))) := rfl
theorem wR_e9 (cI cC : ClassId) (ad : Nat → Nat) (s : jS) : (wR cI cC ad s)[9]? = some (ad 9, .inl (cI, 363, .inl (jgA s 5))) := rfl
theorem wR_e10 (cI cC : ClassId) (ad : Nat → Nat) (s : jS) : (wR cI cC ad s)[10]? = some (ad 10, .inl (cI, 363, .inl (jgA s 6))) := rfl
theorem wR_e11 (cI cC : ClassId) (ad : Nat → Nat) (s : jS) : (wR cI cC ad s)[11]? = some (ad 11, .inl (cI, 363, .inl (jgA s 7))) := rfl
theorem wR_e12 (cI cC : ClassId) (ad : Nat → Nat) (s : jS) : (wR cI cC ad s)[12]? = some (ad 12, .inl (cI, 363, .inl (jgA s 8))) := rfl
theorem wR_e13 (cI cC : ClassId) (ad : Nat → Nat) (s : jS) : (wR cI cC ad s)[13]? = some (ad 13, .inl (cI, 180, .inl (jgA s 9))) := rfl
theorem wR_e14 (cI cC : ClassId) (ad : Nat → Nat) (s : jS) : (wR cI cC ad s)[14]? = some (ad 14, .inl (cI, 60, .inl (jgA s 10))) := rfl
theorem wR_e15 (cI cC : ClassId) (ad : Nat → Nat) (s : jS) : (wR cI cC ad s)[15]? = some (ad 15, .inl (cI, 60, .inl (jgA s 11))) := rfl
theorem wR_e16 (cI cC : ClassId) (ad : Nat → Nat) (s : jS) : (wR cI cC ad s)[16]? = some (ad 16, .inl (cI, 60, .inl (jgA s 12))) := rfl
theorem wR_e17 (cI cC : ClassId) (ad : Nat → Nat) (s : jS) : (wR cI cC ad s)[17]? = some (ad 17, .inl (cI, 60, .inl (jgA s 13))) := rfl
theorem wR_p5 (cI cC : ClassId) (ad : Nat → Nat) (s : jS) (v : Int32) : (wR cI cC ad s).set 0 (ad 0, .inr (3, ([.ref (ad 3), .ref (ad 1), .ref (ad 2), .int (jgI s 5), .ref (ad 14), .ref (ad 15), .int (jgI s 6), .ref (ad 16), .ref (ad 17), .int (jgI s 7)] : List Value).set 3 (.int v))) = wR cI cC ad (jsI s 5 v) := rfl
theorem wR_p6 (cI cC : ClassId) (ad : Nat → Nat) (s : jS) (v : Int32) : (wR cI cC ad s).set 0 (ad 0, .inr (3, ([.ref (ad 3), .ref (ad 1), .ref (ad 2), .int (jgI s 5), .ref (ad 14), .ref (ad 15), .int (jgI s 6), .ref (ad 16), .ref (ad 17), .int (jgI s 7)] : List Value).set 6 (.int v))) = wR cI cC ad (jsI s 6 v) := rfl
theorem wR_p7 (cI cC : ClassId) (ad : Nat → Nat) (s : jS) (v : Int32) : (wR cI cC ad s).set 0 (ad 0, .inr (3, ([.ref (ad 3), .ref (ad 1), .ref (ad 2), .int (jgI s 5), .ref (ad 14), .ref (ad 15), .int (jgI s 6), .ref (ad 16), .ref (ad 17), .int (jgI s 7)] : List Value).set 9 (.int v))) = wR cI cC ad (jsI s 7 v) := rfl
theorem wR_p3 (cI cC : ClassId) (ad : Nat → Nat) (s : jS) (v : Int32) : (wR cI cC ad s).set 1 (ad 1, .inr (2, ([.ref (ad 3), .ref (ad 8), .ref (ad 9), .ref (ad 10), .ref (ad 11), .ref (ad 12), .ref (ad 13), .int (jgI s 3), .int (jgI s 4)] : List Value).set 7 (.int v))) = wR cI cC ad (jsI s 3 v) := rfl
theorem wR_p4 (cI cC : ClassId) (ad : Nat → Nat) (s : jS) (v : Int32) : (wR cI cC ad s).set 1 (ad 1, .inr (2, ([.ref (ad 3), .ref (ad 8), .ref (ad 9), .ref (ad 10), .ref (ad 11), .ref (ad 12), .ref (ad 13), .int (jgI s 3), .int (jgI s 4)] : List Value).set 8 (.int v))) = wR cI cC ad (jsI s 4 v) := rfl
theorem wR_p1 (cI cC : ClassId) (ad : Nat → Nat) (s : jS) (v : Int32) : (wR cI cC ad s).set 2 (ad 2, .inr (1, ([.ref (ad 3), .ref (ad 5), .ref (ad 6), .ref (ad 7), .int (jgI s 1), .int (jgI s 2)] : List Value).set 4 (.int v))) = wR cI cC ad (jsI s 1 v) := rfl
theorem wR_p2 (cI cC : ClassId) (ad : Nat → Nat) (s : jS) (v : Int32) : (wR cI cC ad s).set 2 (ad 2, .inr (1, ([.ref (ad 3), .ref (ad 5), .ref (ad 6), .ref (ad 7), .int (jgI s 1), .int (jgI s 2)] : List Value).set 5 (.int v))) = wR cI cC ad (jsI s 2 v) := rfl
theorem wR_p0 (cI cC : ClassId) (ad : Nat → Nat) (s : jS) (v : Int32) : (wR cI cC ad s).set 3 (ad 3, .inr (0, ([.ref (ad 4), .int (jgI s 0)] : List Value).set 1 (.int v))) = wR cI cC ad (jsI s 0 v) := rfl
theorem wR_f0 (cI cC : ClassId) (ad : Nat → Nat) (s : jS) (f : Nat → Int32) : (wR cI cC ad s).set 4 (ad 4, .inl (cI, 60, .inl f)) = wR cI cC ad (jsF s 0 f) := rfl
theorem wR_a0 (cI cC : ClassId) (ad : Nat → Nat) (s : jS) (i : Nat) (v : Int32) : (wR cI cC ad s).set 4 (ad 4, .inl (cI, 60, .inl (upd (jgA s 0) i v))) = wR cI cC ad (jsA s 0 i v) := rfl
theorem wR_f1 (cI cC : ClassId) (ad : Nat → Nat) (s : jS) (f : Nat → Int32) : (wR cI cC ad s).set 5 (ad 5, .inl (cI, 61, .inl f)) = wR cI cC ad (jsF s 1 f) := rfl
theorem wR_a1 (cI cC : ClassId) (ad : Nat → Nat) (s : jS) (i : Nat) (v : Int32) : (wR cI cC ad s).set 5 (ad 5, .inl (cI, 61, .inl (upd (jgA s 1) i v))) = wR cI cC ad (jsA s 1 i v) := rfl
theorem wR_f2 (cI cC : ClassId) (ad : Nat → Nat) (s : jS) (f : Nat → Int32) : (wR cI cC ad s).set 6 (ad 6, .inl (cI, 61, .inl f)) = wR cI cC ad (jsF s 2 f) := rfl
theorem wR_a2 (cI cC : ClassId) (ad : Nat → Nat) (s : jS) (i : Nat) (v : Int32) : (wR cI cC ad s).set 6 (ad 6, .inl (cI, 61, .inl (upd (jgA s 2) i v))) = wR cI cC ad (jsA s 2 i v) := rfl
theorem wR_f3 (cI cC : ClassId) (ad : Nat → Nat) (s : jS) (f : Nat → Int32) : (wR cI cC ad s).set 7 (ad 7, .inl (cI, 61, .inl f)) = wR cI cC ad (jsF s 3 f) := rfl
theorem wR_a3 (cI cC : ClassId) (ad : Nat → Nat) (s : jS) (i : Nat) (v : Int32) : (wR cI cC ad s).set 7 (ad 7, .inl (cI, 61, .inl (upd (jgA s 3) i v))) = wR cI cC ad (jsA s 3 i v) := rfl
theorem wR_f4 (cI cC : ClassId) (ad : Nat → Nat) (s : jS) (f : Nat → Int32) : (wR cI cC ad s).set 8 (ad 8, .inl (cI, 363, .inl f)) = wR cI cC ad (jsF s 4 f) := rfl
theorem wR_a4 (cI cC : ClassId) (ad : Nat → Nat) (s : jS) (i : Nat) (v : Int32) : (wR cI cC ad s).set 8 (ad 8, .inl (cI, 363, .inl (upd (jgA s 4) i v))) = wR cI cC ad (jsA s 4 i v) := rfl
theorem wR_f5 (cI cC : ClassId) (ad : Nat → Nat) (s : jS) (f : Nat → Int32) : (wR cI cC ad s).set 9 (ad 9, .inl (cI, 363, .inl f)) = wR cI cC ad (jsF s 5 f) := rfl
theorem wR_a5 (cI cC : ClassId) (ad : Nat → Nat) (s : jS) (i : Nat) (v : Int32) : (wR cI cC ad s).set 9 (ad 9, .inl (cI, 363, .inl (upd (jgA s 5) i v))) = wR cI cC ad (jsA s 5 i v) := rfl
theorem wR_f6 (cI cC : ClassId) (ad : Nat → Nat) (s : jS) (f : Nat → Int32) : (wR cI cC ad s).set 10 (ad 10, .inl (cI, 363, .inl f)) = wR cI cC ad (jsF s 6 f) := rfl
theorem wR_a6 (cI cC : ClassId) (ad : Nat → Nat) (s : jS) (i : Nat) (v : Int32) : (wR cI cC ad s).set 10 (ad 10, .inl (cI, 363, .inl (upd (jgA s 6) i v))) = wR cI cC ad (jsA s 6 i v) := rfl
theorem wR_f7 (cI cC : ClassId) (ad : Nat → Nat) (s : jS) (f : Nat → Int32) : (wR cI cC ad s).set 11 (ad 11, .inl (cI, 363, .inl f)) = wR cI cC ad (jsF s 7 f) := rfl
theorem wR_a7 (cI cC : ClassId) (ad : Nat → Nat) (s : jS) (i : Nat) (v : Int32) : (wR cI cC ad s).set 11 (ad 11, .inl (cI, 363, .inl (upd (jgA s 7) i v))) = wR cI cC ad (jsA s 7 i v) := rfl
theorem wR_f8 (cI cC : ClassId) (ad : Nat → Nat) (s : jS) (f : Nat → Int32) : (wR cI cC ad s).set 12 (ad 12, .inl (cI, 363, .inl f)) = wR cI cC ad (jsF s 8 f) := rfl
theorem wR_a8 (cI cC : ClassId) (ad : Nat → Nat) (s : jS) (i : Nat) (v : Int32) : (wR cI cC ad s).set 12 (ad 12, .inl (cI, 363, .inl (upd (jgA s 8) i v))) = wR cI cC ad (jsA s 8 i v) := rfl
theorem wR_f9 (cI cC : ClassId) (ad : Nat → Nat) (s : jS) (f : Nat → Int32) : (wR cI cC ad s).set 13 (ad 13, .inl (cI, 180, .inl f)) = wR cI cC ad (jsF s 9 f) := rfl
theorem wR_a9 (cI cC : ClassId) (ad : Nat → Nat) (s : jS) (i : Nat) (v : Int32) : (wR cI cC ad s).set 13 (ad 13, .inl (cI, 180, .inl (upd (jgA s 9) i v))) = wR cI cC ad (jsA s 9 i v) := rfl
theorem wR_f10 (cI cC : ClassId) (ad : Nat → Nat) (s : jS) (f : Nat → Int32) : (wR cI cC ad s).set 14 (ad 14, .inl (cI, 60, .inl f)) = wR cI cC ad (jsF s 10 f) := rfl
theorem wR_a10 (cI cC : ClassId) (ad : Nat → Nat) (s : jS) (i : Nat) (v : Int32) : (wR cI cC ad s).set 14 (ad 14, .inl (cI, 60, .inl (upd (jgA s 10) i v))) = wR cI cC ad (jsA s 10 i v) := rfl
theorem wR_f11 (cI cC : ClassId) (ad : Nat → Nat) (s : jS) (f : Nat → Int32) : (wR cI cC ad s).set 15 (ad 15, .inl (cI, 60, .inl f)) = wR cI cC ad (jsF s 11 f) := rfl
theorem wR_a11 (cI cC : ClassId) (ad : Nat → Nat) (s : jS) (i : Nat) (v : Int32) : (wR cI cC ad s).set 15 (ad 15, .inl (cI, 60, .inl (upd (jgA s 11) i v))) = wR cI cC ad (jsA s 11 i v) := rfl
theorem wR_f12 (cI cC : ClassId) (ad : Nat → Nat) (s : jS) (f : Nat → Int32) : (wR cI cC ad s).set 16 (ad 16, .inl (cI, 60, .inl f)) = wR cI cC ad (jsF s 12 f) := rfl
theorem wR_a12 (cI cC : ClassId) (ad : Nat → Nat) (s : jS) (i : Nat) (v : Int32) : (wR cI cC ad s).set 16 (ad 16, .inl (cI, 60, .inl (upd (jgA s 12) i v))) = wR cI cC ad (jsA s 12 i v) := rfl
theorem wR_f13 (cI cC : ClassId) (ad : Nat → Nat) (s : jS) (f : Nat → Int32) : (wR cI cC ad s).set 17 (ad 17, .inl (cI, 60, .inl f)) = wR cI cC ad (jsF s 13 f) := rfl
theorem wR_a13 (cI cC : ClassId) (ad : Nat → Nat) (s : jS) (i : Nat) (v : Int32) : (wR cI cC ad s).set 17 (ad 17, .inl (cI, 60, .inl (upd (jgA s 13) i v))) = wR cI cC ad (jsA s 13 i v) := rfl
/-! the world M (by gen.py) -/
def wM (cI cC : ClassId) (ad : Nat → Nat) (s : jS) : va_W := [(ad 0, .inr (6, [.int (jgI s 0), .ref (ad 1), .ref (ad 2), .ref (ad 3), .ref (ad 4), .ref (ad 5), .ref (ad 6), .ref (ad 7), .ref (ad 8), .ref (ad 9), .ref (ad 10), .ref (ad 11), .ref (ad 12), .ref (ad 13), .ref (ad 14), .int (jgI s 1), .int (jgI s 2), .int (jgI s 3), .ref (ad 15), .int (jgI s 4), .int (jgI s 5), .ref (ad 16), .ref (ad 17), .ref (ad 18), .int (jgI s 6), .int (jgI s 7), .int (jgI s 8), .ref (ad 19), .ref (ad 20), .ref (ad 21), .ref (ad 22), .ref (ad 23), .ref (ad 24), .ref (ad 25), .ref (ad 26), .ref (ad 27), .ref (ad 28), .int (jgI s 9), .ref (ad 29), .int (jgI s 10), .ref (ad 30), .ref (ad 31), .ref (ad 32)])),
  (ad 1, .inl (cC, 120, .inl (jgA s 0))),
  (ad 2, .inl (cI, 2, .inl (jgA s 1))),
  (ad 3, .inl (cI, 122, .inl (jgA s 2))),
  (ad 4, .inl (cI, 2, .inl (jgA s 3))),
  (ad 5, .inl (cI, 800, .inl (jgA s 4))),
  (ad 6, .inl (cI, 800, .inl (jgA s 5))),
  (ad 7, .inl (cI, 800, .inl (jgA s 6))),
  (ad 8, .inl (cI, 800, .inl (jgA s 7))),
  (ad 9, .inl (cI, 800, .inl (jgA s 8))),
  (ad 10, .inl (cI, 800, .inl (jgA s 9))),
  (ad 11, .inl (cI, 800, .inl (jgA s 10))),
  (ad 12, .inl (cI, 800, .inl (jgA s 11))),
  (ad 13, .inl (cC, 180, .inl (jgA s 12))),
  (ad 14, .inl (cI, 3, .inl (jgA s 13))),
  (ad 15, .inl (cC, 20, .inl (jgA s 14))),
  (ad 16, .inl (cI, 61, .inl (jgA s 15))),
  (ad 17, .inl (cI, 61, .inl (jgA s 16))),
  (ad 18, .inl (cI, 61, .inl (jgA s 17))),
  (ad 19, .inl (cI, 400, .inl (jgA s 18))),
  (ad 20, .inl (cI, 400, .inl (jgA s 19))),
  (ad 21, .inl (cI, 400, .inl (jgA s 20))),
  (ad 22, .inl (cI, 400, .inl (jgA s 21))),
  (ad 23, .inl (cI, 400, .inl (jgA s 22))),
  (ad 24, .inl (cI, 400, .inl (jgA s 23))),
  (ad 25, .inl (cI, 400, .inl (jgA s 24))),
  (ad 26, .inl (cI, 400, .inl (jgA s 25))),
  (ad 27, .inl (cI, 400, .inl (jgA s 26))),
  (ad 28, .inl (cI, 400, .inl (jgA s 27))),
  (ad 29, .inl (cI, 400, .inl (jgA s 28))),
  (ad 30, .inl (cI, 200, .inl (jgA s 29))),
  (ad 31, .inl (cI, 200, .inl (jgA s 30))),
  (ad 32, .inl (cI, 200, .inl (jgA s 31)))]
theorem wM_e0 (cI cC : ClassId) (ad : Nat → Nat) (s : jS) : (wM cI cC ad s)[0]? = some (ad 0, .inr (6, [.int (jgI s 0), .ref (ad 1), .ref (ad 2), .ref (ad 3), .ref (ad 4), .ref (ad 5), .ref (ad 6), .ref (ad 7), .ref (ad 8), .ref (ad 9), .ref (ad 10), .ref (ad 11), .ref (ad 12), .ref (ad 13), .ref (ad 14), .int (jgI s 1), .int (jgI s 2), .int (jgI s 3), .ref (ad 15), .int (jgI s 4), .int (jgI s 5), .ref (ad 16), .ref (ad 17), .ref (ad 18), .int (jgI s 6), .int (jgI s 7), .int (jgI s 8), .ref (ad 19), .ref (ad 20), .ref (ad 21), .ref (ad 22), .ref (ad 23), .ref (ad 24), .ref (ad 25), .ref (ad 26), .ref (ad 27), .ref (ad 28), .int (jgI s 9), .ref (ad 29), .int (jgI s 10), .ref (ad 30), .ref (ad 31), .ref (ad 32)])) := rfl
theorem wM_e1 (cI cC : ClassId) (ad : Nat → Nat) (s : jS) : (wM cI cC ad s)[1]? = some (ad 1, .inl (cC, 120, .inl (jgA s 0))) := rfl
theorem wM_e2 (cI cC : ClassId) (ad : Nat → Nat) (s : jS) : (wM cI cC ad s)[2]? = some (ad 2, .inl (cI, 2, .inl (jgA s 1))) := rfl
theorem wM_e3 (cI cC : ClassId) (ad : Nat → Nat) (s : jS) : (wM cI cC ad s)[3]? = some (ad 3, .inl (cI, 122, .inl (jgA s 2))) := rfl
theorem wM_e4 (cI cC : ClassId) (ad : Nat → Nat) (s : jS) : (wM cI cC ad s)[4]? = some (ad 4, .inl (cI, 2, .inl (jgA s 3))) := rfl
theorem wM_e5 (cI cC : ClassId) (ad : Nat → Nat) (s : jS) : (wM cI cC ad s)[5]? = some (ad 5, .inl (cI, 800, .inl (jgA s 4))) := rfl
theorem wM_e6 (cI cC : ClassId) (ad : Nat → Nat) (s : jS) : (wM cI cC ad s)[6]? = some (ad 6, .inl (cI, 800, .inl (jgA s 5))) := rfl
theorem wM_e7 (cI cC : ClassId) (ad : Nat → Nat) (s : jS) : (wM cI cC ad s)[7]? = some (ad 7, .inl (cI, 800, .inl (jgA s 6))) := rfl
theorem wM_e8 (cI cC : ClassId) (ad : Nat → Nat) (s : jS) : (wM cI cC ad s)[8]? = some (ad 8, .inl (cI, 800, .inl (jgA s 7))) := rfl
theorem wM_e9 (cI cC : ClassId) (ad : Nat → Nat) (s : jS) : (wM cI cC ad s)[9]? = some (ad 9, .inl (cI, 800, .inl (jgA s 8))) := rfl
theorem wM_e10 (cI cC : ClassId) (ad : Nat → Nat) (s : jS) : (wM cI cC ad s)[10]? = some (ad 10, .inl (cI, 800, .inl (jgA s 9))) := rfl
theorem wM_e11 (cI cC : ClassId) (ad : Nat → Nat) (s : jS) : (wM cI cC ad s)[11]? = some (ad 11, .inl (cI, 800, .inl (jgA s 10))) := rfl
theorem wM_e12 (cI cC : ClassId) (ad : Nat → Nat) (s : jS) : (wM cI cC ad s)[12]? = some (ad 12, .inl (cI, 800, .inl (jgA s 11))) := rfl
theorem wM_e13 (cI cC : ClassId) (ad : Nat → Nat) (s : jS) : (wM cI cC ad s)[13]? = some (ad 13, .inl (cC, 180, .inl (jgA s 12))) := rfl
theorem wM_e14 (cI cC : ClassId) (ad : Nat → Nat) (s : jS) : (wM cI cC ad s)[14]? = some (ad 14, .inl (cI, 3, .inl (jgA s 13))) := rfl
theorem wM_e15 (cI cC : ClassId) (ad : Nat → Nat) (s : jS) : (wM cI cC ad s)[15]? = some (ad 15, .inl (cC, 20, .inl (jgA s 14))) := rfl
theorem wM_e16 (cI cC : ClassId) (ad : Nat → Nat) (s : jS) : (wM cI cC ad s)[16]? = some (ad 16, .inl (cI, 61, .inl (jgA s 15))) := rfl
theorem wM_e17 (cI cC : ClassId) (ad : Nat → Nat) (s : jS) : (wM cI cC ad s)[17]? = some (ad 17, .inl (cI, 61, .inl (jgA s 16))) := rfl
theorem wM_e18 (cI cC : ClassId) (ad : Nat → Nat) (s : jS) : (wM cI cC ad s)[18]? = some (ad 18, .inl (cI, 61, .inl (jgA s 17))) := rfl
theorem wM_e19 (cI cC : ClassId) (ad : Nat → Nat) (s : jS) : (wM cI cC ad s)[19]? = some (ad 19, .inl (cI, 400, .inl (jgA s 18))) := rfl
theorem wM_e20 (cI cC : ClassId) (ad : Nat → Nat) (s : jS) : (wM cI cC ad s)[20]? = some (ad 20, .inl (cI, 400, .inl (jgA s 19))) := rfl
theorem wM_e21 (cI cC : ClassId) (ad : Nat → Nat) (s : jS) : (wM cI cC ad s)[21]? = some (ad 21, .inl (cI, 400, .inl (jgA s 20))) := rfl
theorem wM_e22 (cI cC : ClassId) (ad : Nat → Nat) (s : jS) : (wM cI cC ad s)[22]? = some (ad 22, .inl (cI, 400, .inl (jgA s 21))) := rfl
theorem wM_e23 (cI cC : ClassId) (ad : Nat → Nat) (s : jS) : (wM cI cC ad s)[23]? = some (ad 23, .inl (cI, 400, .inl (jgA s 22))) := rfl
theorem wM_e24 (cI cC : ClassId) (ad : Nat → Nat) (s : jS) : (wM cI cC ad s)[24]? = some (ad 24, .inl (cI, 400, .inl (jgA s 23))) := rfl
theorem wM_e25 (cI cC : ClassId) (ad : Nat → Nat) (s : jS) : (wM cI cC ad s)[25]? = some (ad 25, .inl (cI, 400, .inl (jgA s 24))) := rfl
theorem wM_e26 (cI cC : ClassId) (ad : Nat → Nat) (s : jS) : (wM cI cC ad s)[26]? = some (ad 26, .inl (cI, 400, .inl (jgA s 25))) := rfl
theorem wM_e27 (cI cC : ClassId) (ad : Nat → Nat) (s : jS) : (wM cI cC ad s)[27]? = some (ad 27, .inl (cI, 400, .inl (jgA s 26))) := rfl
theorem wM_e28 (cI cC : ClassId) (ad : Nat → Nat) (s : jS) : (wM cI cC ad s)[28]? = some (ad 28, .inl (cI, 400, .inl (jgA s 27))) := rfl
theorem wM_e29 (cI cC : ClassId) (ad : Nat → Nat) (s : jS) : (wM cI cC ad s)[29]? = some (ad 29, .inl (cI, 400, .inl (jgA s 28))) := rfl
theorem wM_e30 (cI cC : ClassId) (ad : Nat → Nat) (s : jS) : (wM cI cC ad s)[30]? = some (ad 30, .inl (cI, 200, .inl (jgA s 29))) := rfl
theorem wM_e31 (cI cC : ClassId) (ad : Nat → Nat) (s : jS) : (wM cI cC ad s)[31]? = some (ad 31, .inl (cI, 200, .inl (jgA s 30))) := rfl
theorem wM_e32 (cI cC : ClassId) (ad : Nat → Nat) (s : jS) : (wM cI cC ad s)[32]? = some (ad 32, .inl (cI, 200, .inl (jgA s 31))) := rfl
theorem wM_p0 (cI cC : ClassId) (ad : Nat → Nat) (s : jS) (v : Int32) : (wM cI cC ad s).set 0 (ad 0, .inr (6, ([.int (jgI s 0), .ref (ad 1), .ref (ad 2), .ref (ad 3), .ref (ad 4), .ref (ad 5), .ref (ad 6), .ref (ad 7), .ref (ad 8), .ref (ad 9), .ref (ad 10), .ref (ad 11), .ref (ad 12), .ref (ad 13), .ref (ad 14), .int (jgI s 1), .int (jgI s 2), .int (jgI s 3), .ref (ad 15), .int (jgI s 4), .int (jgI s 5), .ref (ad 16), .ref (ad 17), .ref (ad 18), .int (jgI s 6), .int (jgI s 7), .int (jgI s 8), .ref (ad 19), .ref (ad 20), .ref (ad 21), .ref (ad 22), .ref (ad 23), .ref (ad 24), .ref (ad 25), .ref (ad 26), .ref (ad 27), .ref (ad 28), .int (jgI s 9), .ref (ad 29), .int (jgI s 10), .ref (ad 30), .ref (ad 31), .ref (ad 32)] : List Value).set 0 (.int v))) = wM cI cC ad (jsI s 0 v) := rfl
theorem wM_p1 (cI cC : ClassId) (ad : Nat → Nat) (s : jS) (v : Int32) : (wM cI cC ad s).set 0 (ad 0, .inr (6, ([.int (jgI s 0), .ref (ad 1), .ref (ad 2), .ref (ad 3), .ref (ad 4), .ref (ad 5), .ref (ad 6), .ref (ad 7), .ref (ad 8), .ref (ad 9), .ref (ad 10), .ref (ad 11), .ref (ad 12), .ref (ad 13), .ref (ad 14), .int (jgI s 1), .int (jgI s 2), .int (jgI s 3), .ref (ad 15), .int (jgI s 4), .int (jgI s 5), .ref (ad 16), .ref (ad 17), .ref (ad 18), .int (jgI s 6), .int (jgI s 7), .int (jgI s 8), .ref (ad 19), .ref (ad 20), .ref (ad 21), .ref (ad 22), .ref (ad 23), .ref (ad 24), .ref (ad 25), .ref (ad 26), .ref (ad 27), .ref (ad 28), .int (jgI s 9), .ref (ad 29), .int (jgI s 10), .ref (ad 30), .ref (ad 31), .ref (ad 32)] : List Value).set 15 (.int v))) = wM cI cC ad (jsI s 1 v) := rfl
theorem wM_p2 (cI cC : ClassId) (ad : Nat → Nat) (s : jS) (v : Int32) : (wM cI cC ad s).set 0 (ad 0, .inr (6, ([.int (jgI s 0), .ref (ad 1), .ref (ad 2), .ref (ad 3), .ref (ad 4), .ref (ad 5), .ref (ad 6), .ref (ad 7), .ref (ad 8), .ref (ad 9), .ref (ad 10), .ref (ad 11), .ref (ad 12), .ref (ad 13), .ref (ad 14), .int (jgI s 1), .int (jgI s 2), .int (jgI s 3), .ref (ad 15), .int (jgI s 4), .int (jgI s 5), .ref (ad 16), .ref (ad 17), .ref (ad 18), .int (jgI s 6), .int (jgI s 7), .int (jgI s 8), .ref (ad 19), .ref (ad 20), .ref (ad 21), .ref (ad 22), .ref (ad 23), .ref (ad 24), .ref (ad 25), .ref (ad 26), .ref (ad 27), .ref (ad 28), .int (jgI s 9), .ref (ad 29), .int (jgI s 10), .ref (ad 30), .ref (ad 31), .ref (ad 32)] : List Value).set 16 (.int v))) = wM cI cC ad (jsI s 2 v) := rfl
theorem wM_p3 (cI cC : ClassId) (ad : Nat → Nat) (s : jS) (v : Int32) : (wM cI cC ad s).set 0 (ad 0, .inr (6, ([.int (jgI s 0), .ref (ad 1), .ref (ad 2), .ref (ad 3), .ref (ad 4), .ref (ad 5), .ref (ad 6), .ref (ad 7), .ref (ad 8), .ref (ad 9), .ref (ad 10), .ref (ad 11), .ref (ad 12), .ref (ad 13), .ref (ad 14), .int (jgI s 1), .int (jgI s 2), .int (jgI s 3), .ref (ad 15), .int (jgI s 4), .int (jgI s 5), .ref (ad 16), .ref (ad 17), .ref (ad 18), .int (jgI s 6), .int (jgI s 7), .int (jgI s 8), .ref (ad 19), .ref (ad 20), .ref (ad 21), .ref (ad 22), .ref (ad 23), .ref (ad 24), .ref (ad 25), .ref (ad 26), .ref (ad 27), .ref (ad 28), .int (jgI s 9), .ref (ad 29), .int (jgI s 10), .ref (ad 30), .ref (ad 31), .ref (ad 32)] : List Value).set 17 (.int v))) = wM cI cC ad (jsI s 3 v) := rfl
theorem wM_p4 (cI cC : ClassId) (ad : Nat → Nat) (s : jS) (v : Int32) : (wM cI cC ad s).set 0 (ad 0, .inr (6, ([.int (jgI s 0), .ref (ad 1), .ref (ad 2), .ref (ad 3), .ref (ad 4), .ref (ad 5), .ref (ad 6), .ref (ad 7), .ref (ad 8), .ref (ad 9), .ref (ad 10), .ref (ad 11), .ref (ad 12), .ref (ad 13), .ref (ad 14), .int (jgI s 1), .int (jgI s 2), .int (jgI s 3), .ref (ad 15), .int (jgI s 4), .int (jgI s 5), .ref (ad 16), .ref (ad 17), .ref (ad 18), .int (jgI s 6), .int (jgI s 7), .int (jgI s 8), .ref (ad 19), .ref (ad 20), .ref (ad 21), .ref (ad 22), .ref (ad 23), .ref (ad 24), .ref (ad 25), .ref (ad 26), .ref (ad 27), .ref (ad 28), .int (jgI s 9), .ref (ad 29), .int (jgI s 10), .ref (ad 30), .ref (ad 31), .ref (ad 32)] : List Value).set 19 (.int v))) = wM cI cC ad (jsI s 4 v) := rfl
theorem wM_p5 (cI cC : ClassId) (ad : Nat → Nat) (s : jS) (v : Int32) : (wM cI cC ad s).set 0 (ad 0, .inr (6, ([.int (jgI s 0), .ref (ad 1), .ref (ad 2), .ref (ad 3), .ref (ad 4), .ref (ad 5), .ref (ad 6), .ref (ad 7), .ref (ad 8), .ref (ad 9), .ref (ad 10), .ref (ad 11), .ref (ad 12), .ref (ad 13), .ref (ad 14), .int (jgI s 1), .int (jgI s 2), .int (jgI s 3), .ref (ad 15), .int (jgI s 4), .int (jgI s 5), .ref (ad 16), .ref (ad 17), .ref (ad 18), .int (jgI s 6), .int (jgI s 7), .int (jgI s 8), .ref (ad 19), .ref (ad 20), .ref (ad 21), .ref (ad 22), .ref (ad 23), .ref (ad 24), .ref (ad 25), .ref (ad 26), .ref (ad 27), .ref (ad 28), .int (jgI s 9), .ref (ad 29), .int (jgI s 10), .ref (ad 30), .ref (ad 31), .ref (ad 32)] : List Value).set 20 (.int v))) = wM cI cC ad (jsI s 5 v) := rfl
theorem wM_p6 (cI cC : ClassId) (ad : Nat → Nat) (s : jS) (v : Int32) : (wM cI cC ad s).set 0 (ad 0, .inr (6, ([.int (jgI s 0), .ref (ad 1), .ref (ad 2), .ref (ad 3), .ref (ad 4), .ref (ad 5), .ref (ad 6), .ref (ad 7), .ref (ad 8), .ref (ad 9), .ref (ad 10), .ref (ad 11), .ref (ad 12), .ref (ad 13), .ref (ad 14), .int (jgI s 1), .int (jgI s 2), .int (jgI s 3), .ref (ad 15), .int (jgI s 4), .int (jgI s 5), .ref (ad 16), .ref (ad 17), .ref (ad 18), .int (jgI s 6), .int (jgI s 7), .int (jgI s 8), .ref (ad 19), .ref (ad 20), .ref (ad 21), .ref (ad 22), .ref (ad 23), .ref (ad 24), .ref (ad 25), .ref (ad 26), .ref (ad 27), .ref (ad 28), .int (jgI s 9), .ref (ad 29), .int (jgI s 10), .ref (ad 30), .ref (ad 31), .ref (ad 32)] : List Value).set 24 (.int v))) = wM cI cC ad (jsI s 6 v) := rfl
theorem wM_p7 (cI cC : ClassId) (ad : Nat → Nat) (s : jS) (v : Int32) : (wM cI cC ad s).set 0 (ad 0, .inr (6, ([.int (jgI s 0), .ref (ad 1), .ref (ad 2), .ref (ad 3), .ref (ad 4), .ref (ad 5), .ref (ad 6), .ref (ad 7), .ref (ad 8), .ref (ad 9), .ref (ad 10), .ref (ad 11), .ref (ad 12), .ref (ad 13), .ref (ad 14), .int (jgI s 1), .int (jgI s 2), .int (jgI s 3), .ref (ad 15), .int (jgI s 4), .int (jgI s 5), .ref (ad 16), .ref (ad 17), .ref (ad 18), .int (jgI s 6), .int (jgI s 7), .int (jgI s 8), .ref (ad 19), .ref (ad 20), .ref (ad 21), .ref (ad 22), .ref (ad 23), .ref (ad 24), .ref (ad 25), .ref (ad 26), .ref (ad 27), .ref (ad 28), .int (jgI s 9), .ref (ad 29), .int (jgI s 10), .ref (ad 30), .ref (ad 31), .ref (ad 32)] : List Value).set 25 (.int v))) = wM cI cC ad (jsI s 7 v) := rfl
theorem wM_p8 (cI cC : ClassId) (ad : Nat → Nat) (s : jS) (v : Int32) : (wM cI cC ad s).set 0 (ad 0, .inr (6, ([.int (jgI s 0), .ref (ad 1), .ref (ad 2), .ref (ad 3), .ref (ad 4), .ref (ad 5), .ref (ad 6), .ref (ad 7), .ref (ad 8), .ref (ad 9), .ref (ad 10), .ref (ad 11), .ref (ad 12), .ref (ad 13), .ref (ad 14), .int (jgI s 1), .int (jgI s 2), .int (jgI s 3), .ref (ad 15), .int (jgI s 4), .int (jgI s 5), .ref (ad 16), .ref (ad 17), .ref (ad 18), .int (jgI s 6), .int (jgI s 7), .int (jgI s 8), .ref (ad 19), .ref (ad 20), .ref (ad 21), .ref (ad 22), .ref (ad 23), .ref (ad 24), .ref (ad 25), .ref (ad 26), .ref (ad 27), .ref (ad 28), .int (jgI s 9), .ref (ad 29), .int (jgI s 10), .ref (ad 30), .ref (ad 31), .ref (ad 32)] : List Value).set 26 (.int v))) = wM cI cC ad (jsI s 8 v) := rfl
theorem wM_p9 (cI cC : ClassId) (ad : Nat → Nat) (s : jS) (v : Int32) : (wM cI cC ad s).set 0 (ad 0, .inr (6, ([.int (jgI s 0), .ref (ad 1), .ref (ad 2), .ref (ad 3), .ref (ad 4), .ref (ad 5), .ref (ad 6), .ref (ad 7), .ref (ad 8), .ref (ad 9), .ref (ad 10), .ref (ad 11), .ref (ad 12), .ref (ad 13), .ref (ad 14), .int (jgI s 1), .int (jgI s 2), .int (jgI s 3), .ref (ad 15), .int (jgI s 4), .int (jgI s 5), .ref (ad 16), .ref (ad 17), .ref (ad 18), .int (jgI s 6), .int (jgI s 7), .int (jgI s 8), .ref (ad 19), .ref (ad 20), .ref (ad 21), .ref (ad 22), .ref (ad 23), .ref (ad 24), .ref (ad 25), .ref (ad 26), .ref (ad 27), .ref (ad 28), .int (jgI s 9), .ref (ad 29), .int (jgI s 10), .ref (ad 30), .ref (ad 31), .ref (ad 32)] : List Value).set 37 (.int v))) = wM cI cC ad (jsI s 9 v) := rfl
theorem wM_p10 (cI cC : ClassId) (ad : Nat → Nat) (s : jS) (v : Int32) : (wM cI cC ad s).set 0 (ad 0, .inr (6, ([.int (jgI s 0), .ref (ad 1), .ref (ad 2), .ref (ad 3), .ref (ad 4), .ref (ad 5), .ref (ad 6), .ref (ad 7), .ref (ad 8), .ref (ad 9), .ref (ad 10), .ref (ad 11), .ref (ad 12), .ref (ad 13), .ref (ad 14), .int (jgI s 1), .int (jgI s 2), .int (jgI s 3), .ref (ad 15), .int (jgI s 4), .int (jgI s 5), .ref (ad 16), .ref (ad 17), .ref (ad 18), .int (jgI s 6), .int (jgI s 7), .int (jgI s 8), .ref (ad 19), .ref (ad 20), .ref (ad 21), .ref (ad 22), .ref (ad 23), .ref (ad 24), .ref (ad 25), .ref (ad 26), .ref (ad 27), .ref (ad 28), .int (jgI s 9), .ref (ad 29), .int (jgI s 10), .ref (ad 30), .ref (ad 31), .ref (ad 32)] : List Value).set 39 (.int v))) = wM cI cC ad (jsI s 10 v) := rfl
theorem wM_f0 (cI cC : ClassId) (ad : Nat → Nat) (s : jS) (f : Nat → Int32) : (wM cI cC ad s).set 1 (ad 1, .inl (cC, 120, .inl f)) = wM cI cC ad (jsF s 0 f) := rfl
theorem wM_a0 (cI cC : ClassId) (ad : Nat → Nat) (s : jS) (i : Nat) (v : Int32) : (wM cI cC ad s).set 1 (ad 1, .inl (cC, 120, .inl (upd (jgA s 0) i v))) = wM cI cC ad (jsA s 0 i v) := rfl
theorem wM_f1 (cI cC : ClassId) (ad : Nat → Nat) (s : jS) (f : Nat → Int32) : (wM cI cC ad s).set 2 (ad 2, .inl (cI, 2, .inl f)) = wM cI cC ad (jsF s 1 f) := rfl
theorem wM_a1 (cI cC : ClassId) (ad : Nat → Nat) (s : jS) (i : Nat) (v : Int32) : (wM cI cC ad s).set 2 (ad 2, .inl (cI, 2, .inl (upd (jgA s 1) i v))) = wM cI cC ad (jsA s 1 i v) := rfl
theorem wM_f2 (cI cC : ClassId) (ad : Nat → Nat) (s : jS) (f : Nat → Int32) : (wM cI cC ad s).set 3 (ad 3, .inl (cI, 122, .inl f)) = wM cI cC ad (jsF s 2 f) := rfl
theorem wM_a2 (cI cC : ClassId) (ad : Nat → Nat) (s : jS) (i : Nat) (v : Int32) : (wM cI cC ad s).set 3 (ad 3, .inl (cI, 122, .inl (upd (jgA s 2) i v))) = wM cI cC ad (jsA s 2 i v) := rfl
theorem wM_f3 (cI cC : ClassId) (ad : Nat → Nat) (s : jS) (f : Nat → Int32) : (wM cI cC ad s).set 4 (ad 4, .inl (cI, 2, .inl f)) = wM cI cC ad (jsF s 3 f) := rfl
theorem wM_a3 (cI cC : ClassId) (ad : Nat → Nat) (s : jS) (i : Nat) (v : Int32) : (wM cI cC ad s).set 4 (ad 4, .inl (cI, 2, .inl (upd (jgA s 3) i v))) = wM cI cC ad (jsA s 3 i v) := rfl
theorem wM_f4 (cI cC : ClassId) (ad : Nat → Nat) (s : jS) (f : Nat → Int32) : (wM cI cC ad s).set 5 (ad 5, .inl (cI, 800, .inl f)) = wM cI cC ad (jsF s 4 f) := rfl
theorem wM_a4 (cI cC : ClassId) (ad : Nat → Nat) (s : jS) (i : Nat) (v : Int32) : (wM cI cC ad s).set 5 (ad 5, .inl (cI, 800, .inl (upd (jgA s 4) i v))) = wM cI cC ad (jsA s 4 i v) := rfl
theorem wM_f5 (cI cC : ClassId) (ad : Nat → Nat) (s : jS) (f : Nat → Int32) : (wM cI cC ad s).set 6 (ad 6, .inl (cI, 800, .inl f)) = wM cI cC ad (jsF s 5 f) := rfl
theorem wM_a5 (cI cC : ClassId) (ad : Nat → Nat) (s : jS) (i : Nat) (v : Int32) : (wM cI cC ad s).set 6 (ad 6, .inl (cI, 800, .inl (upd (jgA s 5) i v))) = wM cI cC ad (jsA s 5 i v) := rfl
theorem wM_f6 (cI cC : ClassId) (ad : Nat → Nat) (s : jS) (f : Nat → Int32) : (wM cI cC ad s).set 7 (ad 7, .inl (cI, 800, .inl f)) = wM cI cC ad (jsF s 6 f) := rfl
theorem wM_a6 (cI cC : ClassId) (ad : Nat → Nat) (s : jS) (i : Nat) (v : Int32) : (wM cI cC ad s).set 7 (ad 7, .inl (cI, 800, .inl (upd (jgA s 6) i v))) = wM cI cC ad (jsA s 6 i v) := rfl
theorem wM_f7 (cI cC : ClassId) (ad : Nat → Nat) (s : jS) (f : Nat → Int32) : (wM cI cC ad s).set 8 (ad 8, .inl (cI, 800, .inl f)) = wM cI cC ad (jsF s 7 f) := rfl
theorem wM_a7 (cI cC : ClassId) (ad : Nat → Nat) (s : jS) (i : Nat) (v : Int32) : (wM cI cC ad s).set 8 (ad 8, .inl (cI, 800, .inl (upd (jgA s 7) i v))) = wM cI cC ad (jsA s 7 i v) := rfl
theorem wM_f8 (cI cC : ClassId) (ad : Nat → Nat) (s : jS) (f : Nat → Int32) : (wM cI cC ad s).set 9 (ad 9, .inl (cI, 800, .inl f)) = wM cI cC ad (jsF s 8 f) := rfl
theorem wM_a8 (cI cC : ClassId) (ad : Nat → Nat) (s : jS) (i : Nat) (v : Int32) : (wM cI cC ad s).set 9 (ad 9, .inl (cI, 800, .inl (upd (jgA s 8) i v))) = wM cI cC ad (jsA s 8 i v) := rfl
theorem wM_f9 (cI cC : ClassId) (ad : Nat → Nat) (s : jS) (f : Nat → Int32) : (wM cI cC ad s).set 10 (ad 10, .inl (cI, 800, .inl f)) = wM cI cC ad (jsF s 9 f) := rfl
theorem wM_a9 (cI cC : ClassId) (ad : Nat → Nat) (s : jS) (i : Nat) (v : Int32) : (wM cI cC ad s).set 10 (ad 10, .inl (cI, 800, .inl (upd (jgA s 9) i v))) = wM cI cC ad (jsA s 9 i v) := rfl
theorem wM_f10 (cI cC : ClassId) (ad : Nat → Nat) (s : jS) (f : Nat → Int32) : (wM cI cC ad s).set 11 (ad 11, .inl (cI, 800, .inl f)) = wM cI cC ad (jsF s 10 f) := rfl
theorem wM_a10 (cI cC : ClassId) (ad : Nat → Nat) (s : jS) (i : Nat) (v : Int32) : (wM cI cC ad s).set 11 (ad 11, .inl (cI, 800, .inl (upd (jgA s 10) i v))) = wM cI cC ad (jsA s 10 i v) := rfl
theorem wM_f11 (cI cC : ClassId) (ad : Nat → Nat) (s : jS) (f : Nat → Int32) : (wM cI cC ad s).set 12 (ad 12, .inl (cI, 800, .inl f)) = wM cI cC ad (jsF s 11 f) := rfl
theorem wM_a11 (cI cC : ClassId) (ad : Nat → Nat) (s : jS) (i : Nat) (v : Int32) : (wM cI cC ad s).set 12 (ad 12, .inl (cI, 800, .inl (upd (jgA s 11) i v))) = wM cI cC ad (jsA s 11 i v) := rfl
theorem wM_f12 (cI cC : ClassId) (ad : Nat → Nat) (s : jS) (f : Nat → Int32) : (wM cI cC ad s).set 13 (ad 13, .inl (cC, 180, .inl f)) = wM cI cC ad (jsF s 12 f) := rfl
theorem wM_a12 (cI cC : ClassId) (ad : Nat → Nat) (s : jS) (i : Nat) (v : Int32) : (wM cI cC ad s).set 13 (ad 13, .inl (cC, 180, .inl (upd (jgA s 12) i v))) = wM cI cC ad (jsA s 12 i v) := rfl
theorem wM_f13 (cI cC : ClassId) (ad : Nat → Nat) (s : jS) (f : Nat → Int32) : (wM cI cC ad s).set 14 (ad 14, .inl (cI, 3, .inl f)) = wM cI cC ad (jsF s 13 f) := rfl
theorem wM_a13 (cI cC : ClassId) (ad : Nat → Nat) (s : jS) (i : Nat) (v : Int32) : (wM cI cC ad s).set 14 (ad 14, .inl (cI, 3, .inl (upd (jgA s 13) i v))) = wM cI cC ad (jsA s 13 i v) := rfl
theorem wM_f14 (cI cC : ClassId) (ad : Nat → Nat) (s : jS) (f : Nat → Int32) : (wM cI cC ad s).set 15 (ad 15, .inl (cC, 20, .inl f)) = wM cI cC ad (jsF s 14 f) := rfl
theorem wM_a14 (cI cC : ClassId) (ad : Nat → Nat) (s : jS) (i : Nat) (v : Int32) : (wM cI cC ad s).set 15 (ad 15, .inl (cC, 20, .inl (upd (jgA s 14) i v))) = wM cI cC ad (jsA s 14 i v) := rfl
theorem wM_f15 (cI cC : ClassId) (ad : Nat → Nat) (s : jS) (f : Nat → Int32) : (wM cI cC ad s).set 16 (ad 16, .inl (cI, 61, .inl f)) = wM cI cC ad (jsF s 15 f) := rfl
theorem wM_a15 (cI cC : ClassId) (ad : Nat → Nat) (s : jS) (i : Nat) (v : Int32) : (wM cI cC ad s).set 16 (ad 16, .inl (cI, 61, .inl (upd (jgA s 15) i v))) = wM cI cC ad (jsA s 15 i v) := rfl
theorem wM_f16 (cI cC : ClassId) (ad : Nat → Nat) (s : jS) (f : Nat → Int32) : (wM cI cC ad s).set 17 (ad 17, .inl (cI, 61, .inl f)) = wM cI cC ad (jsF s 16 f) := rfl
theorem wM_a16 (cI cC : ClassId) (ad : Nat → Nat) (s : jS) (i : Nat) (v : Int32) : (wM cI cC ad s).set 17 (ad 17, .inl (cI, 61, .inl (upd (jgA s 16) i v))) = wM cI cC ad (jsA s 16 i v) := rfl
theorem wM_f17 (cI cC : ClassId) (ad : Nat → Nat) (s : jS) (f : Nat → Int32) : (wM cI cC ad s).set 18 (ad 18, .inl (cI, 61, .inl f)) = wM cI cC ad (jsF s 17 f) := rfl
theorem wM_a17 (cI cC : ClassId) (ad : Nat → Nat) (s : jS) (i : Nat) (v : Int32) : (wM cI cC ad s).set 18 (ad 18, .inl (cI, 61, .inl (upd (jgA s 17) i v))) = wM cI cC ad (jsA s 17 i v) := rfl
theorem wM_f18 (cI cC : ClassId) (ad : Nat → Nat) (s : jS) (f : Nat → Int32) : (wM cI cC ad s).set 19 (ad 19, .inl (cI, 400, .inl f)) = wM cI cC ad (jsF s 18 f) := rfl
theorem wM_a18 (cI cC : ClassId) (ad : Nat → Nat) (s : jS) (i : Nat) (v : Int32) : (wM cI cC ad s).set 19 (ad 19, .inl (cI, 400, .inl (upd (jgA s 18) i v))) = wM cI cC ad (jsA s 18 i v) := rfl
theorem wM_f19 (cI cC : ClassId) (ad : Nat → Nat) (s : jS) (f : Nat → Int32) : (wM cI cC ad s).set 20 (ad 20, .inl (cI, 400, .inl f)) = wM cI cC ad (jsF s 19 f) := rfl
theorem wM_a19 (cI cC : ClassId) (ad : Nat → Nat) (s : jS) (i : Nat) (v : Int32) : (wM cI cC ad s).set 20 (ad 20, .inl (cI, 400, .inl (upd (jgA s 19) i v))) = wM cI cC ad (jsA s 19 i v) := rfl
theorem wM_f20 (cI cC : ClassId) (ad : Nat → Nat) (s : jS) (f : Nat → Int32) : (wM cI cC ad s).set 21 (ad 21, .inl (cI, 400, .inl f)) = wM cI cC ad (jsF s 20 f) := rfl
theorem wM_a20 (cI cC : ClassId) (ad : Nat → Nat) (s : jS) (i : Nat) (v : Int32) : (wM cI cC ad s).set 21 (ad 21, .inl (cI, 400, .inl (upd (jgA s 20) i v))) = wM cI cC ad (jsA s 20 i v) := rfl
theorem wM_f21 (cI cC : ClassId) (ad : Nat → Nat) (s : jS) (f : Nat → Int32) : (wM cI cC ad s).set 22 (ad 22, .inl (cI, 400, .inl f)) = wM cI cC ad (jsF s 21 f) := rfl
theorem wM_a21 (cI cC : ClassId) (ad : Nat → Nat) (s : jS) (i : Nat) (v : Int32) : (wM cI cC ad s).set 22 (ad 22, .inl (cI, 400, .inl (upd (jgA s 21) i v))) = wM cI cC ad (jsA s 21 i v) := rfl
theorem wM_f22 (cI cC : ClassId) (ad : Nat → Nat) (s : jS) (f : Nat → Int32) : (wM cI cC ad s).set 23 (ad 23, .inl (cI, 400, .inl f)) = wM cI cC ad (jsF s 22 f) := rfl
theorem wM_a22 (cI cC : ClassId) (ad : Nat → Nat) (s : jS) (i : Nat) (v : Int32) : (wM cI cC ad s).set 23 (ad 23, .inl (cI, 400, .inl (upd (jgA s 22) i v))) = wM cI cC ad (jsA s 22 i v) := rfl
theorem wM_f23 (cI cC : ClassId) (ad : Nat → Nat) (s : jS) (f : Nat → Int32) : (wM cI cC ad s).set 24 (ad 24, .inl (cI, 400, .inl f)) = wM cI cC ad (jsF s 23 f) := rfl
theorem wM_a23 (cI cC : ClassId) (ad : Nat → Nat) (s : jS) (i : Nat) (v : Int32) : (wM cI cC ad s).set 24 (ad 24, .inl (cI, 400, .inl (upd (jgA s 23) i v))) = wM cI cC ad (jsA s 23 i v) := rfl
theorem wM_f24 (cI cC : ClassId) (ad : Nat → Nat) (s : jS) (f : Nat → Int32) : (wM cI cC ad s).set 25 (ad 25, .inl (cI, 400, .inl f)) = wM cI cC ad (jsF s 24 f) := rfl
theorem wM_a24 (cI cC : ClassId) (ad : Nat → Nat) (s : jS) (i : Nat) (v : Int32) : (wM cI cC ad s).set 25 (ad 25, .inl (cI, 400, .inl (upd (jgA s 24) i v))) = wM cI cC ad (jsA s 24 i v) := rfl
theorem wM_f25 (cI cC : ClassId) (ad : Nat → Nat) (s : jS) (f : Nat → Int32) : (wM cI cC ad s).set 26 (ad 26, .inl (cI, 400, .inl f)) = wM cI cC ad (jsF s 25 f) := rfl
theorem wM_a25 (cI cC : ClassId) (ad : Nat → Nat) (s : jS) (i : Nat) (v : Int32) : (wM cI cC ad s).set 26 (ad 26, .inl (cI, 400, .inl (upd (jgA s 25) i v))) = wM cI cC ad (jsA s 25 i v) := rfl
theorem wM_f26 (cI cC : ClassId) (ad : Nat → Nat) (s : jS) (f : Nat → Int32) : (wM cI cC ad s).set 27 (ad 27, .inl (cI, 400, .inl f)) = wM cI cC ad (jsF s 26 f) := rfl
theorem wM_a26 (cI cC : ClassId) (ad : Nat → Nat) (s : jS) (i : Nat) (v : Int32) : (wM cI cC ad s).set 27 (ad 27, .inl (cI, 400, .inl (upd (jgA s 26) i v))) = wM cI cC ad (jsA s 26 i v) := rfl
theorem wM_f27 (cI cC : ClassId) (ad : Nat → Nat) (s : jS) (f : Nat → Int32) : (wM cI cC ad s).set 28 (ad 28, .inl (cI, 400, .inl f)) = wM cI cC ad (jsF s 27 f) := rfl
theorem wM_a27 (cI cC : ClassId) (ad : Nat → Nat) (s : jS) (i : Nat) (v : Int32) : (wM cI cC ad s).set 28 (ad 28, .inl (cI, 400, .inl (upd (jgA s 27) i v))) = wM cI cC ad (jsA s 27 i v) := rfl
theorem wM_f28 (cI cC : ClassId) (ad : Nat → Nat) (s : jS) (f : Nat → Int32) : (wM cI cC ad s).set 29 (ad 29, .inl (cI, 400, .inl f)) = wM cI cC ad (jsF s 28 f) := rfl
theorem wM_a28 (cI cC : ClassId) (ad : Nat → Nat) (s : jS) (i : Nat) (v : Int32) : (wM cI cC ad s).set 29 (ad 29, .inl (cI, 400, .inl (upd (jgA s 28) i v))) = wM cI cC ad (jsA s 28 i v) := rfl
theorem wM_f29 (cI cC : ClassId) (ad : Nat → Nat) (s : jS) (f : Nat → Int32) : (wM cI cC ad s).set 30 (ad 30, .inl (cI, 200, .inl f)) = wM cI cC ad (jsF s 29 f) := rfl
theorem wM_a29 (cI cC : ClassId) (ad : Nat → Nat) (s : jS) (i : Nat) (v : Int32) : (wM cI cC ad s).set 30 (ad 30, .inl (cI, 200, .inl (upd (jgA s 29) i v))) = wM cI cC ad (jsA s 29 i v) := rfl
theorem wM_f30 (cI cC : ClassId) (ad : Nat → Nat) (s : jS) (f : Nat → Int32) : (wM cI cC ad s).set 31 (ad 31, .inl (cI, 200, .inl f)) = wM cI cC ad (jsF s 30 f) := rfl
theorem wM_a30 (cI cC : ClassId) (ad : Nat → Nat) (s : jS) (i : Nat) (v : Int32) : (wM cI cC ad s).set 31 (ad 31, .inl (cI, 200, .inl (upd (jgA s 30) i v))) = wM cI cC ad (jsA s 30 i v) := rfl
theorem wM_f31 (cI cC : ClassId) (ad : Nat → Nat) (s : jS) (f : Nat → Int32) : (wM cI cC ad s).set 32 (ad 32, .inl (cI, 200, .inl f)) = wM cI cC ad (jsF s 31 f) := rfl
theorem wM_a31 (cI cC : ClassId) (ad : Nat → Nat) (s : jS) (i : Nat) (v : Int32) : (wM cI cC ad s).set 32 (ad 32, .inl (cI, 200, .inl (upd (jgA s 31) i v))) = wM cI cC ad (jsA s 31 i v) := rfl
end
