/-! what the classes lay, the private methods, the nest links, as members -/
theorem in_cL : ∀ w ∈ u_ws RcL TcL 2, w ∈ TB := List.forall_mem_cons.mpr ⟨tw36, List.forall_mem_cons.mpr ⟨tw38, fun _ h => absurd h List.not_mem_nil⟩⟩
theorem in_cK : ∀ w ∈ u_ws RcK TcK 6, w ∈ TB := List.forall_mem_cons.mpr ⟨tw99, List.forall_mem_cons.mpr ⟨tw101, List.forall_mem_cons.mpr ⟨tw103, List.forall_mem_cons.mpr ⟨tw105, List.forall_mem_cons.mpr ⟨tw107, List.forall_mem_cons.mpr ⟨tw109, fun _ h => absurd h List.not_mem_nil⟩⟩⟩⟩⟩⟩
theorem in_cT : ∀ w ∈ u_ws RcT TcT 9, w ∈ TB := List.forall_mem_cons.mpr ⟨tw68, List.forall_mem_cons.mpr ⟨tw70, List.forall_mem_cons.mpr ⟨tw72, List.forall_mem_cons.mpr ⟨tw74, List.forall_mem_cons.mpr ⟨tw76, List.forall_mem_cons.mpr ⟨tw78, List.forall_mem_cons.mpr ⟨tw80, List.forall_mem_cons.mpr ⟨tw82, List.forall_mem_cons.mpr ⟨tw84, fun _ h => absurd h List.not_mem_nil⟩⟩⟩⟩⟩⟩⟩⟩⟩
theorem in_cR : ∀ w ∈ u_ws RcR TcR 10, w ∈ TB := List.forall_mem_cons.mpr ⟨tw124, List.forall_mem_cons.mpr ⟨tw126, List.forall_mem_cons.mpr ⟨tw128, List.forall_mem_cons.mpr ⟨tw130, List.forall_mem_cons.mpr ⟨tw132, List.forall_mem_cons.mpr ⟨tw134, List.forall_mem_cons.mpr ⟨tw136, List.forall_mem_cons.mpr ⟨tw138, List.forall_mem_cons.mpr ⟨tw140, List.forall_mem_cons.mpr ⟨tw142, fun _ h => absurd h List.not_mem_nil⟩⟩⟩⟩⟩⟩⟩⟩⟩⟩
theorem in_cH : ∀ w ∈ u_ws RcH TcH 2, w ∈ TB := List.forall_mem_cons.mpr ⟨tw454, List.forall_mem_cons.mpr ⟨tw456, fun _ h => absurd h List.not_mem_nil⟩⟩
theorem in_cX : ∀ w ∈ u_ws RcX TcX 6, w ∈ TB := List.forall_mem_cons.mpr ⟨tw466, List.forall_mem_cons.mpr ⟨tw468, List.forall_mem_cons.mpr ⟨tw470, List.forall_mem_cons.mpr ⟨tw472, List.forall_mem_cons.mpr ⟨tw474, List.forall_mem_cons.mpr ⟨tw476, fun _ h => absurd h List.not_mem_nil⟩⟩⟩⟩⟩⟩
theorem in_cM : ∀ w ∈ u_ws RcM TcM 43, w ∈ TB := List.forall_mem_cons.mpr ⟨tw803, List.forall_mem_cons.mpr ⟨tw805, List.forall_mem_cons.mpr ⟨tw807, List.forall_mem_cons.mpr ⟨tw809, List.forall_mem_cons.mpr ⟨tw811, List.forall_mem_cons.mpr ⟨tw813, List.forall_mem_cons.mpr ⟨tw815, List.forall_mem_cons.mpr ⟨tw817, List.forall_mem_cons.mpr ⟨tw819, List.forall_mem_cons.mpr ⟨tw821, List.forall_mem_cons.mpr ⟨tw823, List.forall_mem_cons.mpr ⟨tw825, List.forall_mem_cons.mpr ⟨tw827, List.forall_mem_cons.mpr ⟨tw829, List.forall_mem_cons.mpr ⟨tw831, List.forall_mem_cons.mpr ⟨tw833, List.forall_mem_cons.mpr ⟨tw835, List.forall_mem_cons.mpr ⟨tw837, List.forall_mem_cons.mpr ⟨tw839, List.forall_mem_cons.mpr ⟨tw841, List.forall_mem_cons.mpr ⟨tw843, List.forall_mem_cons.mpr ⟨tw845, List.forall_mem_cons.mpr ⟨tw847, List.forall_mem_cons.mpr ⟨tw849, List.forall_mem_cons.mpr ⟨tw851, List.forall_mem_cons.mpr ⟨tw853, List.forall_mem_cons.mpr ⟨tw855, List.forall_mem_cons.mpr ⟨tw857, List.forall_mem_cons.mpr ⟨tw859, List.forall_mem_cons.mpr ⟨tw861, List.forall_mem_cons.mpr ⟨tw863, List.forall_mem_cons.mpr ⟨tw865, List.forall_mem_cons.mpr ⟨tw867, List.forall_mem_cons.mpr ⟨tw869, List.forall_mem_cons.mpr ⟨tw871, List.forall_mem_cons.mpr ⟨tw873, List.forall_mem_cons.mpr ⟨tw875, List.forall_mem_cons.mpr ⟨tw877, List.forall_mem_cons.mpr ⟨tw879, List.forall_mem_cons.mpr ⟨tw881, List.forall_mem_cons.mpr ⟨tw883, List.forall_mem_cons.mpr ⟨tw885, List.forall_mem_cons.mpr ⟨tw887, fun _ h => absurd h List.not_mem_nil⟩⟩⟩⟩⟩⟩⟩⟩⟩⟩⟩⟩⟩⟩⟩⟩⟩⟩⟩⟩⟩⟩⟩⟩⟩⟩⟩⟩⟩⟩⟩⟩⟩⟩⟩⟩⟩⟩⟩⟩⟩⟩⟩
def NW : List Cond := [(Jvm.Cond.fieldLinkNest "SharedSyntax$Tokens" (32 : Nat) "SharedSyntax$Letters" "size" "I" "SharedSyntax"), (Jvm.Cond.fieldLinkNest "SharedSyntax" (79 : Nat) "SharedSyntax$Letters" "size" "I" "SharedSyntax"), (Jvm.Cond.fieldLinkNest "SharedSyntax$Tree" (55 : Nat) "SharedSyntax$Letters" "size" "I" "SharedSyntax"), (Jvm.Cond.fieldLinkNest "SharedSyntax" (95 : Nat) "SharedSyntax$Tree" "kinds" "[I" "SharedSyntax"), (Jvm.Cond.fieldLinkNest "SharedSyntax" (120 : Nat) "SharedSyntax$Tree" "sizes" "[I" "SharedSyntax"), (Jvm.Cond.fieldLinkNest "SharedSyntax" (99 : Nat) "SharedSyntax$Tree" "begins" "[I" "SharedSyntax"), (Jvm.Cond.fieldLinkNest "SharedSyntax" (136 : Nat) "SharedSyntax$Tree" "faults" "[I" "SharedSyntax"), (Jvm.Cond.fieldLinkNest "SharedSyntax" (139 : Nat) "SharedSyntax$Tree" "used" "I" "SharedSyntax"), (Jvm.Cond.fieldLinkNest "SharedSyntax$Reading" (144 : Nat) "SharedSyntax$Tree" "used" "I" "SharedSyntax"), (Jvm.Cond.fieldLinkNest "SharedSyntax" (133 : Nat) "SharedSyntax$Tree" "faultCount" "I" "SharedSyntax"), (Jvm.Cond.fieldLinkNest "SharedSyntax" (55 : Nat) "SharedSyntax$Reading" "text" "LSharedSyntax$Letters;" "SharedSyntax"), (Jvm.Cond.fieldLinkNest "SharedSyntax" (86 : Nat) "SharedSyntax$Reading" "tree" "LSharedSyntax$Tree;" "SharedSyntax"), (Jvm.Cond.fieldLinkNest "SharedSyntax" (149 : Nat) "SharedSyntax$History" "stored" "I" "SharedSyntax")]
theorem NW_ok : NW.all jNest = true := rfl
theorem nw33 : (Jvm.Cond.fieldLinkNest "SharedSyntax$Tokens" (32 : Nat) "SharedSyntax$Letters" "size" "I" "SharedSyntax") ∈ NW := by decide +kernel
theorem nw34 : (Jvm.Cond.fieldLinkNest "SharedSyntax" (79 : Nat) "SharedSyntax$Letters" "size" "I" "SharedSyntax") ∈ NW := by decide +kernel
theorem nw35 : (Jvm.Cond.fieldLinkNest "SharedSyntax$Tree" (55 : Nat) "SharedSyntax$Letters" "size" "I" "SharedSyntax") ∈ NW := by decide +kernel
theorem nw54 : (Jvm.Cond.fieldLinkNest "SharedSyntax" (95 : Nat) "SharedSyntax$Tree" "kinds" "[I" "SharedSyntax") ∈ NW := by decide +kernel
theorem nw56 : (Jvm.Cond.fieldLinkNest "SharedSyntax" (120 : Nat) "SharedSyntax$Tree" "sizes" "[I" "SharedSyntax") ∈ NW := by decide +kernel
theorem nw58 : (Jvm.Cond.fieldLinkNest "SharedSyntax" (99 : Nat) "SharedSyntax$Tree" "begins" "[I" "SharedSyntax") ∈ NW := by decide +kernel
theorem nw62 : (Jvm.Cond.fieldLinkNest "SharedSyntax" (136 : Nat) "SharedSyntax$Tree" "faults" "[I" "SharedSyntax") ∈ NW := by decide +kernel
theorem nw64 : (Jvm.Cond.fieldLinkNest "SharedSyntax" (139 : Nat) "SharedSyntax$Tree" "used" "I" "SharedSyntax") ∈ NW := by decide +kernel
theorem nw65 : (Jvm.Cond.fieldLinkNest "SharedSyntax$Reading" (144 : Nat) "SharedSyntax$Tree" "used" "I" "SharedSyntax") ∈ NW := by decide +kernel
theorem nw67 : (Jvm.Cond.fieldLinkNest "SharedSyntax" (133 : Nat) "SharedSyntax$Tree" "faultCount" "I" "SharedSyntax") ∈ NW := by decide +kernel
theorem nw113 : (Jvm.Cond.fieldLinkNest "SharedSyntax" (55 : Nat) "SharedSyntax$Reading" "text" "LSharedSyntax$Letters;" "SharedSyntax") ∈ NW := by decide +kernel
theorem nw115 : (Jvm.Cond.fieldLinkNest "SharedSyntax" (86 : Nat) "SharedSyntax$Reading" "tree" "LSharedSyntax$Tree;" "SharedSyntax") ∈ NW := by decide +kernel
theorem nw453 : (Jvm.Cond.fieldLinkNest "SharedSyntax" (149 : Nat) "SharedSyntax$History" "stored" "I" "SharedSyntax") ∈ NW := by decide +kernel
theorem pv_K_behindBlanks : ((⟨"SharedSyntax$Tokens", "behindBlanks", "(I)I"⟩ : MethodName), 6) ∈ lw_privs := by decide +kernel
theorem pv_K_behindOwn : ((⟨"SharedSyntax$Tokens", "behindOwn", "(I)I"⟩ : MethodName), 6) ∈ lw_privs := by decide +kernel
theorem pv_K_kindOf : ((⟨"SharedSyntax$Tokens", "kindOf", "(II)I"⟩ : MethodName), 6) ∈ lw_privs := by decide +kernel
theorem pv_K_wordKind : ((⟨"SharedSyntax$Tokens", "wordKind", "(II)I"⟩ : MethodName), 6) ∈ lw_privs := by decide +kernel
theorem pv_K_spells : ((⟨"SharedSyntax$Tokens", "spells", "(IILjava/lang/String;)Z"⟩ : MethodName), 6) ∈ lw_privs := by decide +kernel
theorem pv_R_begin : ((⟨"SharedSyntax$Reading", "begin", "(I)I"⟩ : MethodName), 10) ∈ lw_privs := by decide +kernel
theorem pv_R_list : ((⟨"SharedSyntax$Reading", "list", "(I)V"⟩ : MethodName), 10) ∈ lw_privs := by decide +kernel
theorem pv_R_listEnds : ((⟨"SharedSyntax$Reading", "listEnds", "(I)Z"⟩ : MethodName), 10) ∈ lw_privs := by decide +kernel
theorem pv_R_statementFollows : ((⟨"SharedSyntax$Reading", "statementFollows", "(I)Z"⟩ : MethodName), 10) ∈ lw_privs := by decide +kernel
theorem pv_R_statement : ((⟨"SharedSyntax$Reading", "statement", "(I)V"⟩ : MethodName), 10) ∈ lw_privs := by decide +kernel
theorem pv_R_emptyStatement : ((⟨"SharedSyntax$Reading", "emptyStatement", "()V"⟩ : MethodName), 10) ∈ lw_privs := by decide +kernel
theorem pv_R_take : ((⟨"SharedSyntax$Reading", "take", "()V"⟩ : MethodName), 10) ∈ lw_privs := by decide +kernel
theorem pv_R_block : ((⟨"SharedSyntax$Reading", "block", "(I)V"⟩ : MethodName), 10) ∈ lw_privs := by decide +kernel
theorem pv_R_expect : ((⟨"SharedSyntax$Reading", "expect", "(I)V"⟩ : MethodName), 10) ∈ lw_privs := by decide +kernel
theorem pv_R_miss : ((⟨"SharedSyntax$Reading", "miss", "(II)V"⟩ : MethodName), 10) ∈ lw_privs := by decide +kernel
theorem pv_R_ifStatement : ((⟨"SharedSyntax$Reading", "ifStatement", "(I)V"⟩ : MethodName), 10) ∈ lw_privs := by decide +kernel
theorem pv_R_condition : ((⟨"SharedSyntax$Reading", "condition", "()V"⟩ : MethodName), 10) ∈ lw_privs := by decide +kernel
theorem pv_R_expression : ((⟨"SharedSyntax$Reading", "expression", "(I)V"⟩ : MethodName), 10) ∈ lw_privs := by decide +kernel
theorem pv_R_operand : ((⟨"SharedSyntax$Reading", "operand", "(I)V"⟩ : MethodName), 10) ∈ lw_privs := by decide +kernel
theorem pv_R_parentheses : ((⟨"SharedSyntax$Reading", "parentheses", "(I)V"⟩ : MethodName), 10) ∈ lw_privs := by decide +kernel
theorem pv_R_negative : ((⟨"SharedSyntax$Reading", "negative", "(I)V"⟩ : MethodName), 10) ∈ lw_privs := by decide +kernel
theorem pv_R_closeSigns : ((⟨"SharedSyntax$Reading", "closeSigns", "(III)I"⟩ : MethodName), 10) ∈ lw_privs := by decide +kernel
theorem pv_T_shift : ((⟨"SharedSyntax$Tree", "shift", "([II)V"⟩ : MethodName), 9) ∈ lw_privs := by decide +kernel
theorem pv_R_openSign : ((⟨"SharedSyntax$Reading", "openSign", "(II)V"⟩ : MethodName), 10) ∈ lw_privs := by decide +kernel
theorem pv_R_part : ((⟨"SharedSyntax$Reading", "part", "(I)V"⟩ : MethodName), 10) ∈ lw_privs := by decide +kernel
theorem pv_R_whileStatement : ((⟨"SharedSyntax$Reading", "whileStatement", "(I)V"⟩ : MethodName), 10) ∈ lw_privs := by decide +kernel
theorem pv_R_simpleStatement : ((⟨"SharedSyntax$Reading", "simpleStatement", "()V"⟩ : MethodName), 10) ∈ lw_privs := by decide +kernel
theorem pv_R_skip : ((⟨"SharedSyntax$Reading", "skip", "()V"⟩ : MethodName), 10) ∈ lw_privs := by decide +kernel
theorem pv_X_fits : ((⟨"SharedSyntax", "fits", "(II)Z"⟩ : MethodName), 6) ∈ lw_privs := by decide +kernel
theorem pv_H_giveUpFirst : ((⟨"SharedSyntax$History", "giveUpFirst", "()V"⟩ : MethodName), 2) ∈ lw_privs := by decide +kernel
theorem pv_L_appendPart : ((⟨"SharedSyntax$Letters", "appendPart", "(LSharedSyntax$Letters;II)V"⟩ : MethodName), 2) ∈ lw_privs := by decide +kernel
theorem pv_X_takeTurns : ((⟨"SharedSyntax", "takeTurns", "()V"⟩ : MethodName), 6) ∈ lw_privs := by decide +kernel
theorem pv_X_keptCount : ((⟨"SharedSyntax", "keptCount", "(II)I"⟩ : MethodName), 6) ∈ lw_privs := by decide +kernel
theorem pv_X_isKept : ((⟨"SharedSyntax", "isKept", "(III)Z"⟩ : MethodName), 6) ∈ lw_privs := by decide +kernel
theorem pv_T_sameNode : ((⟨"SharedSyntax$Tree", "sameNode", "(ILSharedSyntax$Tree;I)Z"⟩ : MethodName), 9) ∈ lw_privs := by decide +kernel
theorem pv_T_sameLetters : ((⟨"SharedSyntax$Tree", "sameLetters", "(ILSharedSyntax$Tree;I)Z"⟩ : MethodName), 9) ∈ lw_privs := by decide +kernel
theorem pv_T_sameFaults : ((⟨"SharedSyntax$Tree", "sameFaults", "(ILSharedSyntax$Tree;I)Z"⟩ : MethodName), 9) ∈ lw_privs := by decide +kernel
theorem pv_T_isFirstOfItsLike : ((⟨"SharedSyntax$Tree", "isFirstOfItsLike", "(I)Z"⟩ : MethodName), 9) ∈ lw_privs := by decide +kernel
theorem pv_M_parse : ((⟨"SharedSyntaxModel", "parse", "(I)V"⟩ : MethodName), 43) ∈ lw_privs := by decide +kernel
theorem pv_M_cut : ((⟨"SharedSyntaxModel", "cut", "(I)V"⟩ : MethodName), 43) ∈ lw_privs := by decide +kernel
theorem pv_M_blanks : ((⟨"SharedSyntaxModel", "blanks", "(II)I"⟩ : MethodName), 43) ∈ lw_privs := by decide +kernel
theorem pv_M_look : ((⟨"SharedSyntaxModel", "look", "(II)C"⟩ : MethodName), 43) ∈ lw_privs := by decide +kernel
theorem pv_M_behind : ((⟨"SharedSyntaxModel", "behind", "(II)I"⟩ : MethodName), 43) ∈ lw_privs := by decide +kernel
theorem pv_M_kindOf : ((⟨"SharedSyntaxModel", "kindOf", "(III)I"⟩ : MethodName), 43) ∈ lw_privs := by decide +kernel
theorem pv_M_add : ((⟨"SharedSyntaxModel", "add", "(III)V"⟩ : MethodName), 43) ∈ lw_privs := by decide +kernel
theorem pv_M_perform : ((⟨"SharedSyntaxModel", "perform", "(IIII)V"⟩ : MethodName), 43) ∈ lw_privs := by decide +kernel
theorem pv_M_reduce : ((⟨"SharedSyntaxModel", "reduce", "(II)V"⟩ : MethodName), 43) ∈ lw_privs := by decide +kernel
theorem pv_M_make : ((⟨"SharedSyntaxModel", "make", "(IIIII)V"⟩ : MethodName), 43) ∈ lw_privs := by decide +kernel
theorem pv_M_take : ((⟨"SharedSyntaxModel", "take", "()V"⟩ : MethodName), 43) ∈ lw_privs := by decide +kernel
theorem pv_M_list : ((⟨"SharedSyntaxModel", "list", "(III)V"⟩ : MethodName), 43) ∈ lw_privs := by decide +kernel
theorem pv_M_current : ((⟨"SharedSyntaxModel", "current", "()I"⟩ : MethodName), 43) ∈ lw_privs := by decide +kernel
theorem pv_M_begins : ((⟨"SharedSyntaxModel", "begins", "(I)Z"⟩ : MethodName), 43) ∈ lw_privs := by decide +kernel
theorem pv_M_leaveOut : ((⟨"SharedSyntaxModel", "leaveOut", "(I)V"⟩ : MethodName), 43) ∈ lw_privs := by decide +kernel
theorem pv_M_statement : ((⟨"SharedSyntaxModel", "statement", "(I)V"⟩ : MethodName), 43) ∈ lw_privs := by decide +kernel
theorem pv_M_expect : ((⟨"SharedSyntaxModel", "expect", "(I)V"⟩ : MethodName), 43) ∈ lw_privs := by decide +kernel
theorem pv_M_lack : ((⟨"SharedSyntaxModel", "lack", "(II)V"⟩ : MethodName), 43) ∈ lw_privs := by decide +kernel
theorem pv_M_other : ((⟨"SharedSyntaxModel", "other", "(I)V"⟩ : MethodName), 43) ∈ lw_privs := by decide +kernel
theorem pv_M_part : ((⟨"SharedSyntaxModel", "part", "(I)V"⟩ : MethodName), 43) ∈ lw_privs := by decide +kernel
theorem pv_M_more : ((⟨"SharedSyntaxModel", "more", "(II)V"⟩ : MethodName), 43) ∈ lw_privs := by decide +kernel
theorem pv_M_operand : ((⟨"SharedSyntaxModel", "operand", "(I)V"⟩ : MethodName), 43) ∈ lw_privs := by decide +kernel
theorem pv_M_number : ((⟨"SharedSyntaxModel", "number", "(I)V"⟩ : MethodName), 43) ∈ lw_privs := by decide +kernel
theorem pv_M_following : ((⟨"SharedSyntaxModel", "following", "(I)I"⟩ : MethodName), 43) ∈ lw_privs := by decide +kernel
theorem pv_M_keep : ((⟨"SharedSyntaxModel", "keep", "()V"⟩ : MethodName), 43) ∈ lw_privs := by decide +kernel
theorem pv_M_reused : ((⟨"SharedSyntaxModel", "reused", "(IIIII)Z"⟩ : MethodName), 43) ∈ lw_privs := by decide +kernel
theorem pv_M_alike : ((⟨"SharedSyntaxModel", "alike", "(IIII)Z"⟩ : MethodName), 43) ∈ lw_privs := by decide +kernel
theorem pv_M_sameLeaf : ((⟨"SharedSyntaxModel", "sameLeaf", "(IIII)Z"⟩ : MethodName), 43) ∈ lw_privs := by decide +kernel
theorem pv_M_there : ((⟨"SharedSyntaxModel", "there", "(I)Z"⟩ : MethodName), 43) ∈ lw_privs := by decide +kernel
theorem pv_M_faultsOf : ((⟨"SharedSyntaxModel", "faultsOf", "(I)I"⟩ : MethodName), 43) ∈ lw_privs := by decide +kernel
theorem pv_M_faultIn : ((⟨"SharedSyntaxModel", "faultIn", "(II)I"⟩ : MethodName), 43) ∈ lw_privs := by decide +kernel
theorem pv_M_leaves : ((⟨"SharedSyntaxModel", "leaves", "()I"⟩ : MethodName), 43) ∈ lw_privs := by decide +kernel
theorem pv_M_different : ((⟨"SharedSyntaxModel", "different", "()I"⟩ : MethodName), 43) ∈ lw_privs := by decide +kernel
/-! the world R (by gen.py) -/
def wR (cI cC : ClassId) (ad : Nat → Nat) (s : jS) : va_W := [(ad 0, .inr (3, [.ref (ad 3), .ref (ad 1), .ref (ad 2), .int (jgI s 5), .ref (ad 14), .ref (ad 15), .int (jgI s 6), .ref (ad 16), .ref (ad 17), .int (jgI s 7)])),
  (ad 1, .inr (2, [.ref (ad 3), .ref (ad 8), .ref (ad 9), .ref (ad 10), .ref (ad 11), .ref (ad 12), .ref (ad 13), .int (jgI s 3), .int (jgI s 4)])),
  (ad 2, .inr (1, [.ref (ad 3), .ref (ad 5), .ref (ad 6), .ref (ad 7), .int (jgI s 1), .int (jgI s 2)])),
  (ad 3, .inr (0, [.ref (ad 4), .int (jgI s 0)])),
  (ad 4, .inl (cI, 60, .inl (jgA s 0))),
  (ad 5, .inl (cI, 61, .inl (jgA s 1))),
  (ad 6, .inl (cI, 61, .inl (jgA s 2))),
  (ad 7, .inl (cI, 61, .inl (jgA s 3))),
  (ad 8, .inl (cI, 363, .inl (jgA s 4))),
  (ad 9, .inl (cI, 363, .inl (jgA s 5))),
  (ad 10, .inl (cI, 363, .inl (jgA s 6))),
  (ad 11, .inl (cI, 363, .inl (jgA s 7))),
  (ad 12, .inl (cI, 363, .inl (jgA s 8))),
  (ad 13, .inl (cI, 180, .inl (jgA s 9))),
  (ad 14, .inl (cI, 60, .inl (jgA s 10))),
  (ad 15, .inl (cI, 60, .inl (jgA s 11))),
  (ad 16, .inl (cI, 60, .inl (jgA s 12))),
  (ad 17, .inl (cI, 60, .inl (jgA s 13)))]
theorem wR_e0 (cI cC : ClassId) (ad : Nat → Nat) (s : jS) : (wR cI cC ad s)[0]? = some (ad 0, .inr (3, [.ref (ad 3), .ref (ad 1), .ref (ad 2), .int (jgI s 5), .ref (ad 14), .ref (ad 15), .int (jgI s 6), .ref (ad 16), .ref (ad 17), .int (jgI s 7)])) := rfl
theorem wR_e1 (cI cC : ClassId) (ad : Nat → Nat) (s : jS) : (wR cI cC ad s)[1]? = some (ad 1, .inr (2, [.ref (ad 3), .ref (ad 8), .ref (ad 9), .ref (ad 10), .ref (ad 11), .ref (ad 12), .ref (ad 13), .int (jgI s 3), .int (jgI s 4)])) := rfl
theorem wR_e2 (cI cC : ClassId) (ad : Nat → Nat) (s : jS) : (wR cI cC ad s)[2]? = some (ad 2, .inr (1, [.ref (ad 3), .ref (ad 5), .ref (ad 6), .ref (ad 7), .int (jgI s 1), .int (jgI s 2)])) := rfl
theorem wR_e3 (cI cC : ClassId) (ad : Nat → Nat) (s : jS) : (wR cI cC ad s)[3]? = some (ad 3, .inr (0, [.ref (ad 4), .int (jgI s 0)])) := rfl
theorem wR_e4 (cI cC : ClassId) (ad : Nat → Nat) (s : jS) : (wR cI cC ad s)[4]? = some (ad 4, .inl (cI, 60, .inl (jgA s 0))) := rfl
theorem wR_e5 (cI cC : ClassId) (ad : Nat → Nat) (s : jS) : (wR cI cC ad s)[5]? = some (ad 5, .inl (cI, 61, .inl (jgA s 1))) := rfl
theorem wR_e6 (cI cC : ClassId) (ad : Nat → Nat) (s : jS) : (wR cI cC ad s)[6]? = some (ad 6, .inl (cI, 61, .inl (jgA s 2))) := rfl
theorem wR_e7 (cI cC : ClassId) (ad : Nat → Nat) (s : jS) : (wR cI cC ad s)[7]? = some (ad 7, .inl (cI, 61, .inl (jgA s 3))) := rfl
theorem wR_e8 (cI cC : ClassId) (ad : Nat → Nat) (s : jS) : (wR cI cC ad s)[8]? = some (ad 8, .inl (cI, 363, .inl (jgA s 4))) := rfl
theorem wR_e9 (cI cC : ClassId) (ad : Nat → Nat) (s : jS) : (wR cI cC ad s)[9]? = some (ad 9, .inl (cI, 363, .inl (jgA s 5))) := rfl
theorem wR_e10 (cI cC : ClassId) (ad : Nat → Nat) (s : jS) : (wR cI cC ad s)[10]? = some (ad 10, .inl (cI, 363, .inl (jgA s 6))) := rfl
theorem wR_e11 (cI cC : ClassId) (ad : Nat → Nat) (s : jS) : (wR cI cC ad s)[11]? = some (ad 11, .inl (cI, 363, .inl (jgA s 7))) := rfl
theorem wR_e12 (cI cC : ClassId) (ad : Nat → Nat) (s : jS) : (wR cI cC ad s)[12]? = some (ad 12, .inl (cI, 363, .inl (jgA s 8))) := rfl
theorem wR_e13 (cI cC : ClassId) (ad : Nat → Nat) (s : jS) : (wR cI cC ad s)[13]? = some (ad 13, .inl (cI, 180, .inl (jgA s 9))) := rfl
theorem wR_e14 (cI cC : ClassId) (ad : Nat → Nat) (s : jS) : (wR cI cC ad s)[14]? = some (ad 14, .inl (cI, 60, .inl (jgA s 10))) := rfl
theorem wR_e15 (cI cC : ClassId) (ad : Nat → Nat) (s : jS) : (wR cI cC ad s)[15]? = some (ad 15, .inl (cI, 60, .inl (jgA s 11))) := rfl
theorem wR_e16 (cI cC : ClassId) (ad : Nat → Nat) (s : jS) : (wR cI cC ad s)[16]? = some (ad 16, .inl (cI, 60, .inl (jgA s 12))) := rfl
theorem wR_e17 (cI cC : ClassId) (ad : Nat → Nat) (s : jS) : (wR cI cC ad s)[17]? = some (ad 17, .inl (cI, 60, .inl (jgA s 13))) := rfl
theorem wR_p5 (cI cC : ClassId) (ad : Nat → Nat) (s : jS) (v : Int32) : (wR cI cC ad s).set 0 (ad 0, .inr (3, ([.ref (ad 3), .ref (ad 1), .ref (ad 2), .int (jgI s 5), .ref (ad 14), .ref (ad 15), .int (jgI s 6), .ref (ad 16), .ref (ad 17), .int (jgI s 7)] : List Value).set 3 (.int v))) = wR cI cC ad (jsI s 5 v) := rfl
theorem wR_p6 (cI cC : ClassId) (ad : Nat → Nat) (s : jS) (v : Int32) : (wR cI cC ad s).set 0 (ad 0, .inr (3, ([.ref (ad 3), .ref (ad 1), .ref (ad 2), .int (jgI s 5), .ref (ad 14), .ref (ad 15), .int (jgI s 6), .ref (ad 16), .ref (ad 17), .int (jgI s 7)] : List Value).set 6 (.int v))) = wR cI cC ad (jsI s 6 v) := rfl
theorem wR_p7 (cI cC : ClassId) (ad : Nat → Nat) (s : jS) (v : Int32) : (wR cI cC ad s).set 0 (ad 0, .inr (3, ([.ref (ad 3), .ref (ad 1), .ref (ad 2), .int (jgI s 5), .ref (ad 14), .ref (ad 15), .int (jgI s 6), .ref (ad 16), .ref (ad 17), .int (jgI s 7)] : List Value).set 9 (.int v))) = wR cI cC ad (jsI s 7 v) := rfl
theorem wR_p3 (cI cC : ClassId) (ad : Nat → Nat) (s : jS) (v : Int32) : (wR cI cC ad s).set 1 (ad 1, .inr (2, ([.ref (ad 3), .ref (ad 8), .ref (ad 9), .ref (ad 10), .ref (ad 11), .ref (ad 12), .ref (ad 13), .int (jgI s 3), .int (jgI s 4)] : List Value).set 7 (.int v))) = wR cI cC ad (jsI s 3 v) := rfl
theorem wR_p4 (cI cC : ClassId) (ad : Nat → Nat) (s : jS) (v : Int32) : (wR cI cC ad s).set 1 (ad 1, .inr (2, ([.ref (ad 3), .ref (ad 8), .ref (ad 9), .ref (ad 10), .ref (ad 11), .ref (ad 12), .ref (ad 13), .int (jgI s 3), .int (jgI s 4)] : List Value).set 8 (.int v))) = wR cI cC ad (jsI s 4 v) := rfl
theorem wR_p1 (cI cC : ClassId) (ad : Nat → Nat) (s : jS) (v : Int32) : (wR cI cC ad s).set 2 (ad 2, .inr (1, ([.ref (ad 3), .ref (ad 5), .ref (ad 6), .ref (ad 7), .int (jgI s 1), .int (jgI s 2)] : List Value).set 4 (.int v))) = wR cI cC ad (jsI s 1 v) := rfl
theorem wR_p2 (cI cC : ClassId) (ad : Nat → Nat) (s : jS) (v : Int32) : (wR cI cC ad s).set 2 (ad 2, .inr (1, ([.ref (ad 3), .ref (ad 5), .ref (ad 6), .ref (ad 7), .int (jgI s 1), .int (jgI s 2)] : List Value).set 5 (.int v))) = wR cI cC ad (jsI s 2 v) := rfl
theorem wR_p0 (cI cC : ClassId) (ad : Nat → Nat) (s : jS) (v : Int32) : (wR cI cC ad s).set 3 (ad 3, .inr (0, ([.ref (ad 4), .int (jgI s 0)] : List Value).set 1 (.int v))) = wR cI cC ad (jsI s 0 v) := rfl
theorem wR_f0 (cI cC : ClassId) (ad : Nat → Nat) (s : jS) (f : Nat → Int32) : (wR cI cC ad s).set 4 (ad 4, .inl (cI, 60, .inl f)) = wR cI cC ad (jsF s 0 f) := rfl
theorem wR_a0 (cI cC : ClassId) (ad : Nat → Nat) (s : jS) (i : Nat) (v : Int32) : (wR cI cC ad s).set 4 (ad 4, .inl (cI, 60, .inl (upd (jgA s 0) i v))) = wR cI cC ad (jsA s 0 i v) := rfl
theorem wR_f1 (cI cC : ClassId) (ad : Nat → Nat) (s : jS) (f : Nat → Int32) : (wR cI cC ad s).set 5 (ad 5, .inl (cI, 61, .inl f)) = wR cI cC ad (jsF s 1 f) := rfl
theorem wR_a1 (cI cC : ClassId) (ad : Nat → Nat) (s : jS) (i : Nat) (v : Int32) : (wR cI cC ad s).set 5 (ad 5, .inl (cI, 61, .inl (upd (jgA s 1) i v))) = wR cI cC ad (jsA s 1 i v) := rfl
theorem wR_f2 (cI cC : ClassId) (ad : Nat → Nat) (s : jS) (f : Nat → Int32) : (wR cI cC ad s).set 6 (ad 6, .inl (cI, 61, .inl f)) = wR cI cC ad (jsF s 2 f) := rfl
theorem wR_a2 (cI cC : ClassId) (ad : Nat → Nat) (s : jS) (i : Nat) (v : Int32) : (wR cI cC ad s).set 6 (ad 6, .inl (cI, 61, .inl (upd (jgA s 2) i v))) = wR cI cC ad (jsA s 2 i v) := rfl
theorem wR_f3 (cI cC : ClassId) (ad : Nat → Nat) (s : jS) (f : Nat → Int32) : (wR cI cC ad s).set 7 (ad 7, .inl (cI, 61, .inl f)) = wR cI cC ad (jsF s 3 f) := rfl
theorem wR_a3 (cI cC : ClassId) (ad : Nat → Nat) (s : jS) (i : Nat) (v : Int32) : (wR cI cC ad s).set 7 (ad 7, .inl (cI, 61, .inl (upd (jgA s 3) i v))) = wR cI cC ad (jsA s 3 i v) := rfl
theorem wR_f4 (cI cC : ClassId) (ad : Nat → Nat) (s : jS) (f : Nat → Int32) : (wR cI cC ad s).set 8 (ad 8, .inl (cI, 363, .inl f)) = wR cI cC ad (jsF s 4 f) := rfl
theorem wR_a4 (cI cC : ClassId) (ad : Nat → Nat) (s : jS) (i : Nat) (v : Int32) : (wR cI cC ad s).set 8 (ad 8, .inl (cI, 363, .inl (upd (jgA s 4) i v))) = wR cI cC ad (jsA s 4 i v) := rfl
theorem wR_f5 (cI cC : ClassId) (ad : Nat → Nat) (s : jS) (f : Nat → Int32) : (wR cI cC ad s).set 9 (ad 9, .inl (cI, 363, .inl f)) = wR cI cC ad (jsF s 5 f) := rfl
theorem wR_a5 (cI cC : ClassId) (ad : Nat → Nat) (s : jS) (i : Nat) (v : Int32) : (wR cI cC ad s).set 9 (ad 9, .inl (cI, 363, .inl (upd (jgA s 5) i v))) = wR cI cC ad (jsA s 5 i v) := rfl
theorem wR_f6 (cI cC : ClassId) (ad : Nat → Nat) (s : jS) (f : Nat → Int32) : (wR cI cC ad s).set 10 (ad 10, .inl (cI, 363, .inl f)) = wR cI cC ad (jsF s 6 f) := rfl
theorem wR_a6 (cI cC : ClassId) (ad : Nat → Nat) (s : jS) (i : Nat) (v : Int32) : (wR cI cC ad s).set 10 (ad 10, .inl (cI, 363, .inl (upd (jgA s 6) i v))) = wR cI cC ad (jsA s 6 i v) := rfl
theorem wR_f7 (cI cC : ClassId) (ad : Nat → Nat) (s : jS) (f : Nat → Int32) : (wR cI cC ad s).set 11 (ad 11, .inl (cI, 363, .inl f)) = wR cI cC ad (jsF s 7 f) := rfl
theorem wR_a7 (cI cC : ClassId) (ad : Nat → Nat) (s : jS) (i : Nat) (v : Int32) : (wR cI cC ad s).set 11 (ad 11, .inl (cI, 363, .inl (upd (jgA s 7) i v))) = wR cI cC ad (jsA s 7 i v) := rfl
theorem wR_f8 (cI cC : ClassId) (ad : Nat → Nat) (s : jS) (f : Nat → Int32) : (wR cI cC ad s).set 12 (ad 12, .inl (cI, 363, .inl f)) = wR cI cC ad (jsF s 8 f) := rfl
theorem wR_a8 (cI cC : ClassId) (ad : Nat → Nat) (s : jS) (i : Nat) (v : Int32) : (wR cI cC ad s).set 12 (ad 12, .inl (cI, 363, .inl (upd (jgA s 8) i v))) = wR cI cC ad (jsA s 8 i v) := rfl
theorem wR_f9 (cI cC : ClassId) (ad : Nat → Nat) (s : jS) (f : Nat → Int32) : (wR cI cC ad s).set 13 (ad 13, .inl (cI, 180, .inl f)) = wR cI cC ad (jsF s 9 f) := rfl
theorem wR_a9 (cI cC : ClassId) (ad : Nat → Nat) (s : jS) (i : Nat) (v : Int32) : (wR cI cC ad s).set 13 (ad 13, .inl (cI, 180, .inl (upd (jgA s 9) i v))) = wR cI cC ad (jsA s 9 i v) := rfl
theorem wR_f10 (cI cC : ClassId) (ad : Nat → Nat) (s : jS) (f : Nat → Int32) : (wR cI cC ad s).set 14 (ad 14, .inl (cI, 60, .inl f)) = wR cI cC ad (jsF s 10 f) := rfl
theorem wR_a10 (cI cC : ClassId) (ad : Nat → Nat) (s : jS) (i : Nat) (v : Int32) : (wR cI cC ad s).set 14 (ad 14, .inl (cI, 60, .inl (upd (jgA s 10) i v))) = wR cI cC ad (jsA s 10 i v) := rfl
theorem wR_f11 (cI cC : ClassId) (ad : Nat → Nat) (s : jS) (f : Nat → Int32) : (wR cI cC ad s).set 15 (ad 15, .inl (cI, 60, .inl f)) = wR cI cC ad (jsF s 11 f) := rfl
theorem wR_a11 (cI cC : ClassId) (ad : Nat → Nat) (s : jS) (i : Nat) (v : Int32) : (wR cI cC ad s).set 15 (ad 15, .inl (cI, 60, .inl (upd (jgA s 11) i v))) = wR cI cC ad (jsA s 11 i v) := rfl
theorem wR_f12 (cI cC : ClassId) (ad : Nat → Nat) (s : jS) (f : Nat → Int32) : (wR cI cC ad s).set 16 (ad 16, .inl (cI, 60, .inl f)) = wR cI cC ad (jsF s 12 f) := rfl
theorem wR_a12 (cI cC : ClassId) (ad : Nat → Nat) (s : jS) (i : Nat) (v : Int32) : (wR cI cC ad s).set 16 (ad 16, .inl (cI, 60, .inl (upd (jgA s 12) i v))) = wR cI cC ad (jsA s 12 i v) := rfl
theorem wR_f13 (cI cC : ClassId) (ad : Nat → Nat) (s : jS) (f : Nat → Int32) : (wR cI cC ad s).set 17 (ad 17, .inl (cI, 60, .inl f)) = wR cI cC ad (jsF s 13 f) := rfl
theorem wR_a13 (cI cC : ClassId) (ad : Nat → Nat) (s : jS) (i : Nat) (v : Int32) : (wR cI cC ad s).set 17 (ad 17, .inl (cI, 60, .inl (upd (jgA s 13) i v))) = wR cI cC ad (jsA s 13 i v) := rfl
/-! the world M (by gen.py) -/
def wM (cI cC : ClassId) (ad : Nat → Nat) (s : jS) : va_W := [(ad 0, .inr (6, [.int (jgI s 0), .ref (ad 1), .ref (ad 2), .ref (ad 3), .ref (ad 4), .ref (ad 5), .ref (ad 6), .ref (ad 7), .ref (ad 8), .ref (ad 9), .ref (ad 10), .ref (ad 11), .ref (ad 12), .ref (ad 13), .ref (ad 14), .int (jgI s 1), .int (jgI s 2), .int (jgI s 3), .ref (ad 15), .int (jgI s 4), .int (jgI s 5), .ref (ad 16), .ref (ad 17), .ref (ad 18), .int (jgI s 6), .int (jgI s 7), .int (jgI s 8), .ref (ad 19), .ref (ad 20), .ref (ad 21), .ref (ad 22), .ref (ad 23), .ref (ad 24), .ref (ad 25), .ref (ad 26), .ref (ad 27), .ref (ad 28), .int (jgI s 9), .ref (ad 29), .int (jgI s 10), .ref (ad 30), .ref (ad 31), .ref (ad 32)])),
  (ad 1, .inl (cC, 120, .inl (jgA s 0))),
  (ad 2, .inl (cI, 2, .inl (jgA s 1))),
  (ad 3, .inl (cI, 122, .inl (jgA s 2))),
  (ad 4, .inl (cI, 2, .inl (jgA s 3))),
  (ad 5, .inl (cI, 800, .inl (jgA s 4))),
  (ad 6, .inl (cI, 800, .inl (jgA s 5))),
  (ad 7, .inl (cI, 800, .inl (jgA s 6))),
  (ad 8, .inl (cI, 800, .inl (jgA s 7))),
  (ad 9, .inl (cI, 800, .inl (jgA s 8))),
  (ad 10, .inl (cI, 800, .inl (jgA s 9))),
  (ad 11, .inl (cI, 800, .inl (jgA s 10))),
  (ad 12, .inl (cI, 800, .inl (jgA s 11))),
  (ad 13, .inl (cC, 180, .inl (jgA s 12))),
  (ad 14, .inl (cI, 3, .inl (jgA s 13))),
  (ad 15, .inl (cC, 20, .inl (jgA s 14))),
  (ad 16, .inl (cI, 61, .inl (jgA s 15))),
  (ad 17, .inl (cI, 61, .inl (jgA s 16))),
  (ad 18, .inl (cI, 61, .inl (jgA s 17))),
  (ad 19, .inl (cI, 400, .inl (jgA s 18))),
  (ad 20, .inl (cI, 400, .inl (jgA s 19))),
  (ad 21, .inl (cI, 400, .inl (jgA s 20))),
  (ad 22, .inl (cI, 400, .inl (jgA s 21))),
  (ad 23, .inl (cI, 400, .inl (jgA s 22))),
  (ad 24, .inl (cI, 400, .inl (jgA s 23))),
  (ad 25, .inl (cI, 400, .inl (jgA s 24))),
  (ad 26, .inl (cI, 400, .inl (jgA s 25))),
  (ad 27, .inl (cI, 400, .inl (jgA s 26))),
  (ad 28, .inl (cI, 400, .inl (jgA s 27))),
  (ad 29, .inl (cI, 400, .inl (jgA s 28))),
  (ad 30, .inl (cI, 200, .inl (jgA s 29))),
  (ad 31, .inl (cI, 200, .inl (jgA s 30))),
  (ad 32, .inl (cI, 200, .inl (jgA s 31)))]
theorem wM_e0 (cI cC : ClassId) (ad : Nat → Nat) (s : jS) : (wM cI cC ad s)[0]? = some (ad 0, .inr (6, [.int (jgI s 0), .ref (ad 1), .ref (ad 2), .ref (ad 3), .ref (ad 4), .ref (ad 5), .ref (ad 6), .ref (ad 7), .ref (ad 8), .ref (ad 9), .ref (ad 10), .ref (ad 11), .ref (ad 12), .ref (ad 13), .ref (ad 14), .int (jgI s 1), .int (jgI s 2), .int (jgI s 3), .ref (ad 15), .int (jgI s 4), .int (jgI s 5), .ref (ad 16), .ref (ad 17), .ref (ad 18), .int (jgI s 6), .int (jgI s 7), .int (jgI s 8), .ref (ad 19), .ref (ad 20), .ref (ad 21), .ref (ad 22), .ref (ad 23), .ref (ad 24), .ref (ad 25), .ref (ad 26), .ref (ad 27), .ref (ad 28), .int (jgI s 9), .ref (ad 29), .int (jgI s 10), .ref (ad 30), .ref (ad 31), .ref (ad 32)])) := rfl
theorem wM_e1 (cI cC : ClassId) (ad : Nat → Nat) (s : jS) : (wM cI cC ad s)[1]? = some (ad 1, .inl (cC, 120, .inl (jgA s 0))) := rfl
theorem wM_e2 (cI cC : ClassId) (ad : Nat → Nat) (s : jS) : (wM cI cC ad s)[2]? = some (ad 2, .inl (cI, 2, .inl (jgA s 1))) := rfl
theorem wM_e3 (cI cC : ClassId) (ad : Nat → Nat) (s : jS) : (wM cI cC ad s)[3]? = some (ad 3, .inl (cI, 122, .inl (jgA s 2))) := rfl
theorem wM_e4 (cI cC : ClassId) (ad : Nat → Nat) (s : jS) : (wM cI cC ad s)[4]? = some (ad 4, .inl (cI, 2, .inl (jgA s 3))) := rfl
theorem wM_e5 (cI cC : ClassId) (ad : Nat → Nat) (s : jS) : (wM cI cC ad s)[5]? = some (ad 5, .inl (cI, 800, .inl (jgA s 4))) := rfl
theorem wM_e6 (cI cC : ClassId) (ad : Nat → Nat) (s : jS) : (wM cI cC ad s)[6]? = some (ad 6, .inl (cI, 800, .inl (jgA s 5))) := rfl
theorem wM_e7 (cI cC : ClassId) (ad : Nat → Nat) (s : jS) : (wM cI cC ad s)[7]? = some (ad 7, .inl (cI, 800, .inl (jgA s 6))) := rfl
theorem wM_e8 (cI cC : ClassId) (ad : Nat → Nat) (s : jS) : (wM cI cC ad s)[8]? = some (ad 8, .inl (cI, 800, .inl (jgA s 7))) := rfl
theorem wM_e9 (cI cC : ClassId) (ad : Nat → Nat) (s : jS) : (wM cI cC ad s)[9]? = some (ad 9, .inl (cI, 800, .inl (jgA s 8))) := rfl
theorem wM_e10 (cI cC : ClassId) (ad : Nat → Nat) (s : jS) : (wM cI cC ad s)[10]? = some (ad 10, .inl (cI, 800, .inl (jgA s 9))) := rfl
theorem wM_e11 (cI cC : ClassId) (ad : Nat → Nat) (s : jS) : (wM cI cC ad s)[11]? = some (ad 11, .inl (cI, 800, .inl (jgA s 10))) := rfl
theorem wM_e12 (cI cC : ClassId) (ad : Nat → Nat) (s : jS) : (wM cI cC ad s)[12]? = some (ad 12, .inl (cI, 800, .inl (jgA s 11))) := rfl
theorem wM_e13 (cI cC : ClassId) (ad : Nat → Nat) (s : jS) : (wM cI cC ad s)[13]? = some (ad 13, .inl (cC, 180, .inl (jgA s 12))) := rfl
theorem wM_e14 (cI cC : ClassId) (ad : Nat → Nat) (s : jS) : (wM cI cC ad s)[14]? = some (ad 14, .inl (cI, 3, .inl (jgA s 13))) := rfl
theorem wM_e15 (cI cC : ClassId) (ad : Nat → Nat) (s : jS) : (wM cI cC ad s)[15]? = some (ad 15, .inl (cC, 20, .inl (jgA s 14))) := rfl
theorem wM_e16 (cI cC : ClassId) (ad : Nat → Nat) (s : jS) : (wM cI cC ad s)[16]? = some (ad 16, .inl (cI, 61, .inl (jgA s 15))) := rfl
theorem wM_e17 (cI cC : ClassId) (ad : Nat → Nat) (s : jS) : (wM cI cC ad s)[17]? = some (ad 17, .inl (cI, 61, .inl (jgA s 16))) := rfl
theorem wM_e18 (cI cC : ClassId) (ad : Nat → Nat) (s : jS) : (wM cI cC ad s)[18]? = some (ad 18, .inl (cI, 61, .inl (jgA s 17))) := rfl
theorem wM_e19 (cI cC : ClassId) (ad : Nat → Nat) (s : jS) : (wM cI cC ad s)[19]? = some (ad 19, .inl (cI, 400, .inl (jgA s 18))) := rfl
theorem wM_e20 (cI cC : ClassId) (ad : Nat → Nat) (s : jS) : (wM cI cC ad s)[20]? = some (ad 20, .inl (cI, 400, .inl (jgA s 19))) := rfl
theorem wM_e21 (cI cC : ClassId) (ad : Nat → Nat) (s : jS) : (wM cI cC ad s)[21]? = some (ad 21, .inl (cI, 400, .inl (jgA s 20))) := rfl
theorem wM_e22 (cI cC : ClassId) (ad : Nat → Nat) (s : jS) : (wM cI cC ad s)[22]? = some (ad 22, .inl (cI, 400, .inl (jgA s 21))) := rfl
theorem wM_e23 (cI cC : ClassId) (ad : Nat → Nat) (s : jS) : (wM cI cC ad s)[23]? = some (ad 23, .inl (cI, 400, .inl (jgA s 22))) := rfl
theorem wM_e24 (cI cC : ClassId) (ad : Nat → Nat) (s : jS) : (wM cI cC ad s)[24]? = some (ad 24, .inl (cI, 400, .inl (jgA s 23))) := rfl
theorem wM_e25 (cI cC : ClassId) (ad : Nat → Nat) (s : jS) : (wM cI cC ad s)[25]? = some (ad 25, .inl (cI, 400, .inl (jgA s 24))) := rfl
theorem wM_e26 (cI cC : ClassId) (ad : Nat → Nat) (s : jS) : (wM cI cC ad s)[26]? = some (ad 26, .inl (cI, 400, .inl (jgA s 25))) := rfl
theorem wM_e27 (cI cC : ClassId) (ad : Nat → Nat) (s : jS) : (wM cI cC ad s)[27]? = some (ad 27, .inl (cI, 400, .inl (jgA s 26))) := rfl
theorem wM_e28 (cI cC : ClassId) (ad : Nat → Nat) (s : jS) : (wM cI cC ad s)[28]? = some (ad 28, .inl (cI, 400, .inl (jgA s 27))) := rfl
theorem wM_e29 (cI cC : ClassId) (ad : Nat → Nat) (s : jS) : (wM cI cC ad s)[29]? = some (ad 29, .inl (cI, 400, .inl (jgA s 28))) := rfl
theorem wM_e30 (cI cC : ClassId) (ad : Nat → Nat) (s : jS) : (wM cI cC ad s)[30]? = some (ad 30, .inl (cI, 200, .inl (jgA s 29))) := rfl
theorem wM_e31 (cI cC : ClassId) (ad : Nat → Nat) (s : jS) : (wM cI cC ad s)[31]? = some (ad 31, .inl (cI, 200, .inl (jgA s 30))) := rfl
theorem wM_e32 (cI cC : ClassId) (ad : Nat → Nat) (s : jS) : (wM cI cC ad s)[32]? = some (ad 32, .inl (cI, 200, .inl (jgA s 31))) := rfl
theorem wM_p0 (cI cC : ClassId) (ad : Nat → Nat) (s : jS) (v : Int32) : (wM cI cC ad s).set 0 (ad 0, .inr (6, ([.int (jgI s 0), .ref (ad 1), .ref (ad 2), .ref (ad 3), .ref (ad 4), .ref (ad 5), .ref (ad 6), .ref (ad 7), .ref (ad 8), .ref (ad 9), .ref (ad 10), .ref (ad 11), .ref (ad 12), .ref (ad 13), .ref (ad 14), .int (jgI s 1), .int (jgI s 2), .int (jgI s 3), .ref (ad 15), .int (jgI s 4), .int (jgI s 5), .ref (ad 16), .ref (ad 17), .ref (ad 18), .int (jgI s 6), .int (jgI s 7), .int (jgI s 8), .ref (ad 19), .ref (ad 20), .ref (ad 21), .ref (ad 22), .ref (ad 23), .ref (ad 24), .ref (ad 25), .ref (ad 26), .ref (ad 27), .ref (ad 28), .int (jgI s 9), .ref (ad 29), .int (jgI s 10), .ref (ad 30), .ref (ad 31), .ref (ad 32)] : List Value).set 0 (.int v))) = wM cI cC ad (jsI s 0 v) := rfl
theorem wM_p1 (cI cC : ClassId) (ad : Nat → Nat) (s : jS) (v : Int32) : (wM cI cC ad s).set 0 (ad 0, .inr (6, ([.int (jgI s 0), .ref (ad 1), .ref (ad 2), .ref (ad 3), .ref (ad 4), .ref (ad 5), .ref (ad 6), .ref (ad 7), .ref (ad 8), .ref (ad 9), .ref (ad 10), .ref (ad 11), .ref (ad 12), .ref (ad 13), .ref (ad 14), .int (jgI s 1), .int (jgI s 2), .int (jgI s 3), .ref (ad 15), .int (jgI s 4), .int (jgI s 5), .ref (ad 16), .ref (ad 17), .ref (ad 18), .int (jgI s 6), .int (jgI s 7), .int (jgI s 8), .ref (ad 19), .ref (ad 20), .ref (ad 21), .ref (ad 22), .ref (ad 23), .ref (ad 24), .ref (ad 25), .ref (ad 26), .ref (ad 27), .ref (ad 28), .int (jgI s 9), .ref (ad 29), .int (jgI s 10), .ref (ad 30), .ref (ad 31), .ref (ad 32)] : List Value).set 15 (.int v))) = wM cI cC ad (jsI s 1 v) := rfl
theorem wM_p2 (cI cC : ClassId) (ad : Nat → Nat) (s : jS) (v : Int32) : (wM cI cC ad s).set 0 (ad 0, .inr (6, ([.int (jgI s 0), .ref (ad 1), .ref (ad 2), .ref (ad 3), .ref (ad 4), .ref (ad 5), .ref (ad 6), .ref (ad 7), .ref (ad 8), .ref (ad 9), .ref (ad 10), .ref (ad 11), .ref (ad 12), .ref (ad 13), .ref (ad 14), .int (jgI s 1), .int (jgI s 2), .int (jgI s 3), .ref (ad 15), .int (jgI s 4), .int (jgI s 5), .ref (ad 16), .ref (ad 17), .ref (ad 18), .int (jgI s 6), .int (jgI s 7), .int (jgI s 8), .ref (ad 19), .ref (ad 20), .ref (ad 21), .ref (ad 22), .ref (ad 23), .ref (ad 24), .ref (ad 25), .ref (ad 26), .ref (ad 27), .ref (ad 28), .int (jgI s 9), .ref (ad 29), .int (jgI s 10), .ref (ad 30), .ref (ad 31), .ref (ad 32)] : List Value).set 16 (.int v))) = wM cI cC ad (jsI s 2 v) := rfl
theorem wM_p3 (cI cC : ClassId) (ad : Nat → Nat) (s : jS) (v : Int32) : (wM cI cC ad s).set 0 (ad 0, .inr (6, ([.int (jgI s 0), .ref (ad 1), .ref (ad 2), .ref (ad 3), .ref (ad 4), .ref (ad 5), .ref (ad 6), .ref (ad 7), .ref (ad 8), .ref (ad 9), .ref (ad 10), .ref (ad 11), .ref (ad 12), .ref (ad 13), .ref (ad 14), .int (jgI s 1), .int (jgI s 2), .int (jgI s 3), .ref (ad 15), .int (jgI s 4), .int (jgI s 5), .ref (ad 16), .ref (ad 17), .ref (ad 18), .int (jgI s 6), .int (jgI s 7), .int (jgI s 8), .ref (ad 19), .ref (ad 20), .ref (ad 21), .ref (ad 22), .ref (ad 23), .ref (ad 24), .ref (ad 25), .ref (ad 26), .ref (ad 27), .ref (ad 28), .int (jgI s 9), .ref (ad 29), .int (jgI s 10), .ref (ad 30), .ref (ad 31), .ref (ad 32)] : List Value).set 17 (.int v))) = wM cI cC ad (jsI s 3 v) := rfl
theorem wM_p4 (cI cC : ClassId) (ad : Nat → Nat) (s : jS) (v : Int32) : (wM cI cC ad s).set 0 (ad 0, .inr (6, ([.int (jgI s 0), .ref (ad 1), .ref (ad 2), .ref (ad 3), .ref (ad 4), .ref (ad 5), .ref (ad 6), .ref (ad 7), .ref (ad 8), .ref (ad 9), .ref (ad 10), .ref (ad 11), .ref (ad 12), .ref (ad 13), .ref (ad 14), .int (jgI s 1), .int (jgI s 2), .int (jgI s 3), .ref (ad 15), .int (jgI s 4), .int (jgI s 5), .ref (ad 16), .ref (ad 17), .ref (ad 18), .int (jgI s 6), .int (jgI s 7), .int (jgI s 8), .ref (ad 19), .ref (ad 20), .ref (ad 21), .ref (ad 22), .ref (ad 23), .ref (ad 24), .ref (ad 25), .ref (ad 26), .ref (ad 27), .ref (ad 28), .int (jgI s 9), .ref (ad 29), .int (jgI s 10), .ref (ad 30), .ref (ad 31), .ref (ad 32)] : List Value).set 19 (.int v))) = wM cI cC ad (jsI s 4 v) := rfl
theorem wM_p5 (cI cC : ClassId) (ad : Nat → Nat) (s : jS) (v : Int32) : (wM cI cC ad s).set 0 (ad 0, .inr (6, ([.int (jgI s 0), .ref (ad 1), .ref (ad 2), .ref (ad 3), .ref (ad 4), .ref (ad 5), .ref (ad 6), .ref (ad 7), .ref (ad 8), .ref (ad 9), .ref (ad 10), .ref (ad 11), .ref (ad 12), .ref (ad 13), .ref (ad 14), .int (jgI s 1), .int (jgI s 2), .int (jgI s 3), .ref (ad 15), .int (jgI s 4), .int (jgI s 5), .ref (ad 16), .ref (ad 17), .ref (ad 18), .int (jgI s 6), .int (jgI s 7), .int (jgI s 8), .ref (ad 19), .ref (ad 20), .ref (ad 21), .ref (ad 22), .ref (ad 23), .ref (ad 24), .ref (ad 25), .ref (ad 26), .ref (ad 27), .ref (ad 28), .int (jgI s 9), .ref (ad 29), .int (jgI s 10), .ref (ad 30), .ref (ad 31), .ref (ad 32)] : List Value).set 20 (.int v))) = wM cI cC ad (jsI s 5 v) := rfl
theorem wM_p6 (cI cC : ClassId) (ad : Nat → Nat) (s : jS) (v : Int32) : (wM cI cC ad s).set 0 (ad 0, .inr (6, ([.int (jgI s 0), .ref (ad 1), .ref (ad 2), .ref (ad 3), .ref (ad 4), .ref (ad 5), .ref (ad 6), .ref (ad 7), .ref (ad 8), .ref (ad 9), .ref (ad 10), .ref (ad 11), .ref (ad 12), .ref (ad 13), .ref (ad 14), .int (jgI s 1), .int (jgI s 2), .int (jgI s 3), .ref (ad 15), .int (jgI s 4), .int (jgI s 5), .ref (ad 16), .ref (ad 17), .ref (ad 18), .int (jgI s 6), .int (jgI s 7), .int (jgI s 8), .ref (ad 19), .ref (ad 20), .ref (ad 21), .ref (ad 22), .ref (ad 23), .ref (ad 24), .ref (ad 25), .ref (ad 26), .ref (ad 27), .ref (ad 28), .int (jgI s 9), .ref (ad 29), .int (jgI s 10), .ref (ad 30), .ref (ad 31), .ref (ad 32)] : List Value).set 24 (.int v))) = wM cI cC ad (jsI s 6 v) := rfl
theorem wM_p7 (cI cC : ClassId) (ad : Nat → Nat) (s : jS) (v : Int32) : (wM cI cC ad s).set 0 (ad 0, .inr (6, ([.int (jgI s 0), .ref (ad 1), .ref (ad 2), .ref (ad 3), .ref (ad 4), .ref (ad 5), .ref (ad 6), .ref (ad 7), .ref (ad 8), .ref (ad 9), .ref (ad 10), .ref (ad 11), .ref (ad 12), .ref (ad 13), .ref (ad 14), .int (jgI s 1), .int (jgI s 2), .int (jgI s 3), .ref (ad 15), .int (jgI s 4), .int (jgI s 5), .ref (ad 16), .ref (ad 17), .ref (ad 18), .int (jgI s 6), .int (jgI s 7), .int (jgI s 8), .ref (ad 19), .ref (ad 20), .ref (ad 21), .ref (ad 22), .ref (ad 23), .ref (ad 24), .ref (ad 25), .ref (ad 26), .ref (ad 27), .ref (ad 28), .int (jgI s 9), .ref (ad 29), .int (jgI s 10), .ref (ad 30), .ref (ad 31), .ref (ad 32)] : List Value).set 25 (.int v))) = wM cI cC ad (jsI s 7 v) := rfl
theorem wM_p8 (cI cC : ClassId) (ad : Nat → Nat) (s : jS) (v : Int32) : (wM cI cC ad s).set 0 (ad 0, .inr (6, ([.int (jgI s 0), .ref (ad 1), .ref (ad 2), .ref (ad 3), .ref (ad 4), .ref (ad 5), .ref (ad 6), .ref (ad 7), .ref (ad 8), .ref (ad 9), .ref (ad 10), .ref (ad 11), .ref (ad 12), .ref (ad 13), .ref (ad 14), .int (jgI s 1), .int (jgI s 2), .int (jgI s 3), .ref (ad 15), .int (jgI s 4), .int (jgI s 5), .ref (ad 16), .ref (ad 17), .ref (ad 18), .int (jgI s 6), .int (jgI s 7), .int (jgI s 8), .ref (ad 19), .ref (ad 20), .ref (ad 21), .ref (ad 22), .ref (ad 23), .ref (ad 24), .ref (ad 25), .ref (ad 26), .ref (ad 27), .ref (ad 28), .int (jgI s 9), .ref (ad 29), .int (jgI s 10), .ref (ad 30), .ref (ad 31), .ref (ad 32)] : List Value).set 26 (.int v))) = wM cI cC ad (jsI s 8 v) := rfl
theorem wM_p9 (cI cC : ClassId) (ad : Nat → Nat) (s : jS) (v : Int32) : (wM cI cC ad s).set 0 (ad 0, .inr (6, ([.int (jgI s 0), .ref (ad 1), .ref (ad 2), .ref (ad 3), .ref (ad 4), .ref (ad 5), .ref (ad 6), .ref (ad 7), .ref (ad 8), .ref (ad 9), .ref (ad 10), .ref (ad 11), .ref (ad 12), .ref (ad 13), .ref (ad 14), .int (jgI s 1), .int (jgI s 2), .int (jgI s 3), .ref (ad 15), .int (jgI s 4), .int (jgI s 5), .ref (ad 16), .ref (ad 17), .ref (ad 18), .int (jgI s 6), .int (jgI s 7), .int (jgI s 8), .ref (ad 19), .ref (ad 20), .ref (ad 21), .ref (ad 22), .ref (ad 23), .ref (ad 24), .ref (ad 25), .ref (ad 26), .ref (ad 27), .ref (ad 28), .int (jgI s 9), .ref (ad 29), .int (jgI s 10), .ref (ad 30), .ref (ad 31), .ref (ad 32)] : List Value).set 37 (.int v))) = wM cI cC ad (jsI s 9 v) := rfl
theorem wM_p10 (cI cC : ClassId) (ad : Nat → Nat) (s : jS) (v : Int32) : (wM cI cC ad s).set 0 (ad 0, .inr (6, ([.int (jgI s 0), .ref (ad 1), .ref (ad 2), .ref (ad 3), .ref (ad 4), .ref (ad 5), .ref (ad 6), .ref (ad 7), .ref (ad 8), .ref (ad 9), .ref (ad 10), .ref (ad 11), .ref (ad 12), .ref (ad 13), .ref (ad 14), .int (jgI s 1), .int (jgI s 2), .int (jgI s 3), .ref (ad 15), .int (jgI s 4), .int (jgI s 5), .ref (ad 16), .ref (ad 17), .ref (ad 18), .int (jgI s 6), .int (jgI s 7), .int (jgI s 8), .ref (ad 19), .ref (ad 20), .ref (ad 21), .ref (ad 22), .ref (ad 23), .ref (ad 24), .ref (ad 25), .ref (ad 26), .ref (ad 27), .ref (ad 28), .int (jgI s 9), .ref (ad 29), .int (jgI s 10), .ref (ad 30), .ref (ad 31), .ref (ad 32)] : List Value).set 39 (.int v))) = wM cI cC ad (jsI s 10 v) := rfl
theorem wM_f0 (cI cC : ClassId) (ad : Nat → Nat) (s : jS) (f : Nat → Int32) : (wM cI cC ad s).set 1 (ad 1, .inl (cC, 120, .inl f)) = wM cI cC ad (jsF s 0 f) := rfl
theorem wM_a0 (cI cC : ClassId) (ad : Nat → Nat) (s : jS) (i : Nat) (v : Int32) : (wM cI cC ad s).set 1 (ad 1, .inl (cC, 120, .inl (upd (jgA s 0) i v))) = wM cI cC ad (jsA s 0 i v) := rfl
theorem wM_f1 (cI cC : ClassId) (ad : Nat → Nat) (s : jS) (f : Nat → Int32) : (wM cI cC ad s).set 2 (ad 2, .inl (cI, 2, .inl f)) = wM cI cC ad (jsF s 1 f) := rfl
theorem wM_a1 (cI cC : ClassId) (ad : Nat → Nat) (s : jS) (i : Nat) (v : Int32) : (wM cI cC ad s).set 2 (ad 2, .inl (cI, 2, .inl (upd (jgA s 1) i v))) = wM cI cC ad (jsA s 1 i v) := rfl
theorem wM_f2 (cI cC : ClassId) (ad : Nat → Nat) (s : jS) (f : Nat → Int32) : (wM cI cC ad s).set 3 (ad 3, .inl (cI, 122, .inl f)) = wM cI cC ad (jsF s 2 f) := rfl
theorem wM_a2 (cI cC : ClassId) (ad : Nat → Nat) (s : jS) (i : Nat) (v : Int32) : (wM cI cC ad s).set 3 (ad 3, .inl (cI, 122, .inl (upd (jgA s 2) i v))) = wM cI cC ad (jsA s 2 i v) := rfl
theorem wM_f3 (cI cC : ClassId) (ad : Nat → Nat) (s : jS) (f : Nat → Int32) : (wM cI cC ad s).set 4 (ad 4, .inl (cI, 2, .inl f)) = wM cI cC ad (jsF s 3 f) := rfl
theorem wM_a3 (cI cC : ClassId) (ad : Nat → Nat) (s : jS) (i : Nat) (v : Int32) : (wM cI cC ad s).set 4 (ad 4, .inl (cI, 2, .inl (upd (jgA s 3) i v))) = wM cI cC ad (jsA s 3 i v) := rfl
theorem wM_f4 (cI cC : ClassId) (ad : Nat → Nat) (s : jS) (f : Nat → Int32) : (wM cI cC ad s).set 5 (ad 5, .inl (cI, 800, .inl f)) = wM cI cC ad (jsF s 4 f) := rfl
theorem wM_a4 (cI cC : ClassId) (ad : Nat → Nat) (s : jS) (i : Nat) (v : Int32) : (wM cI cC ad s).set 5 (ad 5, .inl (cI, 800, .inl (upd (jgA s 4) i v))) = wM cI cC ad (jsA s 4 i v) := rfl
theorem wM_f5 (cI cC : ClassId) (ad : Nat → Nat) (s : jS) (f : Nat → Int32) : (wM cI cC ad s).set 6 (ad 6, .inl (cI, 800, .inl f)) = wM cI cC ad (jsF s 5 f) := rfl
theorem wM_a5 (cI cC : ClassId) (ad : Nat → Nat) (s : jS) (i : Nat) (v : Int32) : (wM cI cC ad s).set 6 (ad 6, .inl (cI, 800, .inl (upd (jgA s 5) i v))) = wM cI cC ad (jsA s 5 i v) := rfl
theorem wM_f6 (cI cC : ClassId) (ad : Nat → Nat) (s : jS) (f : Nat → Int32) : (wM cI cC ad s).set 7 (ad 7, .inl (cI, 800, .inl f)) = wM cI cC ad (jsF s 6 f) := rfl
theorem wM_a6 (cI cC : ClassId) (ad : Nat → Nat) (s : jS) (i : Nat) (v : Int32) : (wM cI cC ad s).set 7 (ad 7, .inl (cI, 800, .inl (upd (jgA s 6) i v))) = wM cI cC ad (jsA s 6 i v) := rfl
theorem wM_f7 (cI cC : ClassId) (ad : Nat → Nat) (s : jS) (f : Nat → Int32) : (wM cI cC ad s).set 8 (ad 8, .inl (cI, 800, .inl f)) = wM cI cC ad (jsF s 7 f) := rfl
theorem wM_a7 (cI cC : ClassId) (ad : Nat → Nat) (s : jS) (i : Nat) (v : Int32) : (wM cI cC ad s).set 8 (ad 8, .inl (cI, 800, .inl (upd (jgA s 7) i v))) = wM cI cC ad (jsA s 7 i v) := rfl
theorem wM_f8 (cI cC : ClassId) (ad : Nat → Nat) (s : jS) (f : Nat → Int32) : (wM cI cC ad s).set 9 (ad 9, .inl (cI, 800, .inl f)) = wM cI cC ad (jsF s 8 f) := rfl
theorem wM_a8 (cI cC : ClassId) (ad : Nat → Nat) (s : jS) (i : Nat) (v : Int32) : (wM cI cC ad s).set 9 (ad 9, .inl (cI, 800, .inl (upd (jgA s 8) i v))) = wM cI cC ad (jsA s 8 i v) := rfl
theorem wM_f9 (cI cC : ClassId) (ad : Nat → Nat) (s : jS) (f : Nat → Int32) : (wM cI cC ad s).set 10 (ad 10, .inl (cI, 800, .inl f)) = wM cI cC ad (jsF s 9 f) := rfl
theorem wM_a9 (cI cC : ClassId) (ad : Nat → Nat) (s : jS) (i : Nat) (v : Int32) : (wM cI cC ad s).set 10 (ad 10, .inl (cI, 800, .inl (upd (jgA s 9) i v))) = wM cI cC ad (jsA s 9 i v) := rfl
theorem wM_f10 (cI cC : ClassId) (ad : Nat → Nat) (s : jS) (f : Nat → Int32) : (wM cI cC ad s).set 11 (ad 11, .inl (cI, 800, .inl f)) = wM cI cC ad (jsF s 10 f) := rfl
theorem wM_a10 (cI cC : ClassId) (ad : Nat → Nat) (s : jS) (i : Nat) (v : Int32) : (wM cI cC ad s).set 11 (ad 11, .inl (cI, 800, .inl (upd (jgA s 10) i v))) = wM cI cC ad (jsA s 10 i v) := rfl
theorem wM_f11 (cI cC : ClassId) (ad : Nat → Nat) (s : jS) (f : Nat → Int32) : (wM cI cC ad s).set 12 (ad 12, .inl (cI, 800, .inl f)) = wM cI cC ad (jsF s 11 f) := rfl
theorem wM_a11 (cI cC : ClassId) (ad : Nat → Nat) (s : jS) (i : Nat) (v : Int32) : (wM cI cC ad s).set 12 (ad 12, .inl (cI, 800, .inl (upd (jgA s 11) i v))) = wM cI cC ad (jsA s 11 i v) := rfl
theorem wM_f12 (cI cC : ClassId) (ad : Nat → Nat) (s : jS) (f : Nat → Int32) : (wM cI cC ad s).set 13 (ad 13, .inl (cC, 180, .inl f)) = wM cI cC ad (jsF s 12 f) := rfl
theorem wM_a12 (cI cC : ClassId) (ad : Nat → Nat) (s : jS) (i : Nat) (v : Int32) : (wM cI cC ad s).set 13 (ad 13, .inl (cC, 180, .inl (upd (jgA s 12) i v))) = wM cI cC ad (jsA s 12 i v) := rfl
theorem wM_f13 (cI cC : ClassId) (ad : Nat → Nat) (s : jS) (f : Nat → Int32) : (wM cI cC ad s).set 14 (ad 14, .inl (cI, 3, .inl f)) = wM cI cC ad (jsF s 13 f) := rfl
theorem wM_a13 (cI cC : ClassId) (ad : Nat → Nat) (s : jS) (i : Nat) (v : Int32) : (wM cI cC ad s).set 14 (ad 14, .inl (cI, 3, .inl (upd (jgA s 13) i v))) = wM cI cC ad (jsA s 13 i v) := rfl
theorem wM_f14 (cI cC : ClassId) (ad : Nat → Nat) (s : jS) (f : Nat → Int32) : (wM cI cC ad s).set 15 (ad 15, .inl (cC, 20, .inl f)) = wM cI cC ad (jsF s 14 f) := rfl
theorem wM_a14 (cI cC : ClassId) (ad : Nat → Nat) (s : jS) (i : Nat) (v : Int32) : (wM cI cC ad s).set 15 (ad 15, .inl (cC, 20, .inl (upd (jgA s 14) i v))) = wM cI cC ad (jsA s 14 i v) := rfl
theorem wM_f15 (cI cC : ClassId) (ad : Nat → Nat) (s : jS) (f : Nat → Int32) : (wM cI cC ad s).set 16 (ad 16, .inl (cI, 61, .inl f)) = wM cI cC ad (jsF s 15 f) := rfl
theorem wM_a15 (cI cC : ClassId) (ad : Nat → Nat) (s : jS) (i : Nat) (v : Int32) : (wM cI cC ad s).set 16 (ad 16, .inl (cI, 61, .inl (upd (jgA s 15) i v))) = wM cI cC ad (jsA s 15 i v) := rfl
theorem wM_f16 (cI cC : ClassId) (ad : Nat → Nat) (s : jS) (f : Nat → Int32) : (wM cI cC ad s).set 17 (ad 17, .inl (cI, 61, .inl f)) = wM cI cC ad (jsF s 16 f) := rfl
theorem wM_a16 (cI cC : ClassId) (ad : Nat → Nat) (s : jS) (i : Nat) (v : Int32) : (wM cI cC ad s).set 17 (ad 17, .inl (cI, 61, .inl (upd (jgA s 16) i v))) = wM cI cC ad (jsA s 16 i v) := rfl
theorem wM_f17 (cI cC : ClassId) (ad : Nat → Nat) (s : jS) (f : Nat → Int32) : (wM cI cC ad s).set 18 (ad 18, .inl (cI, 61, .inl f)) = wM cI cC ad (jsF s 17 f) := rfl
theorem wM_a17 (cI cC : ClassId) (ad : Nat → Nat) (s : jS) (i : Nat) (v : Int32) : (wM cI cC ad s).set 18 (ad 18, .inl (cI, 61, .inl (upd (jgA s 17) i v))) = wM cI cC ad (jsA s 17 i v) := rfl
theorem wM_f18 (cI cC : ClassId) (ad : Nat → Nat) (s : jS) (f : Nat → Int32) : (wM cI cC ad s).set 19 (ad 19, .inl (cI, 400, .inl f)) = wM cI cC ad (jsF s 18 f) := rfl
theorem wM_a18 (cI cC : ClassId) (ad : Nat → Nat) (s : jS) (i : Nat) (v : Int32) : (wM cI cC ad s).set 19 (ad 19, .inl (cI, 400, .inl (upd (jgA s 18) i v))) = wM cI cC ad (jsA s 18 i v) := rfl
theorem wM_f19 (cI cC : ClassId) (ad : Nat → Nat) (s : jS) (f : Nat → Int32) : (wM cI cC ad s).set 20 (ad 20, .inl (cI, 400, .inl f)) = wM cI cC ad (jsF s 19 f) := rfl
theorem wM_a19 (cI cC : ClassId) (ad : Nat → Nat) (s : jS) (i : Nat) (v : Int32) : (wM cI cC ad s).set 20 (ad 20, .inl (cI, 400, .inl (upd (jgA s 19) i v))) = wM cI cC ad (jsA s 19 i v) := rfl
theorem wM_f20 (cI cC : ClassId) (ad : Nat → Nat) (s : jS) (f : Nat → Int32) : (wM cI cC ad s).set 21 (ad 21, .inl (cI, 400, .inl f)) = wM cI cC ad (jsF s 20 f) := rfl
theorem wM_a20 (cI cC : ClassId) (ad : Nat → Nat) (s : jS) (i : Nat) (v : Int32) : (wM cI cC ad s).set 21 (ad 21, .inl (cI, 400, .inl (upd (jgA s 20) i v))) = wM cI cC ad (jsA s 20 i v) := rfl
theorem wM_f21 (cI cC : ClassId) (ad : Nat → Nat) (s : jS) (f : Nat → Int32) : (wM cI cC ad s).set 22 (ad 22, .inl (cI, 400, .inl f)) = wM cI cC ad (jsF s 21 f) := rfl
theorem wM_a21 (cI cC : ClassId) (ad : Nat → Nat) (s : jS) (i : Nat) (v : Int32) : (wM cI cC ad s).set 22 (ad 22, .inl (cI, 400, .inl (upd (jgA s 21) i v))) = wM cI cC ad (jsA s 21 i v) := rfl
theorem wM_f22 (cI cC : ClassId) (ad : Nat → Nat) (s : jS) (f : Nat → Int32) : (wM cI cC ad s).set 23 (ad 23, .inl (cI, 400, .inl f)) = wM cI cC ad (jsF s 22 f) := rfl
theorem wM_a22 (cI cC : ClassId) (ad : Nat → Nat) (s : jS) (i : Nat) (v : Int32) : (wM cI cC ad s).set 23 (ad 23, .inl (cI, 400, .inl (upd (jgA s 22) i v))) = wM cI cC ad (jsA s 22 i v) := rfl
theorem wM_f23 (cI cC : ClassId) (ad : Nat → Nat) (s : jS) (f : Nat → Int32) : (wM cI cC ad s).set 24 (ad 24, .inl (cI, 400, .inl f)) = wM cI cC ad (jsF s 23 f) := rfl
theorem wM_a23 (cI cC : ClassId) (ad : Nat → Nat) (s : jS) (i : Nat) (v : Int32) : (wM cI cC ad s).set 24 (ad 24, .inl (cI, 400, .inl (upd (jgA s 23) i v))) = wM cI cC ad (jsA s 23 i v) := rfl
theorem wM_f24 (cI cC : ClassId) (ad : Nat → Nat) (s : jS) (f : Nat → Int32) : (wM cI cC ad s).set 25 (ad 25, .inl (cI, 400, .inl f)) = wM cI cC ad (jsF s 24 f) := rfl
theorem wM_a24 (cI cC : ClassId) (ad : Nat → Nat) (s : jS) (i : Nat) (v : Int32) : (wM cI cC ad s).set 25 (ad 25, .inl (cI, 400, .inl (upd (jgA s 24) i v))) = wM cI cC ad (jsA s 24 i v) := rfl
theorem wM_f25 (cI cC : ClassId) (ad : Nat → Nat) (s : jS) (f : Nat → Int32) : (wM cI cC ad s).set 26 (ad 26, .inl (cI, 400, .inl f)) = wM cI cC ad (jsF s 25 f) := rfl
theorem wM_a25 (cI cC : ClassId) (ad : Nat → Nat) (s : jS) (i : Nat) (v : Int32) : (wM cI cC ad s).set 26 (ad 26, .inl (cI, 400, .inl (upd (jgA s 25) i v))) = wM cI cC ad (jsA s 25 i v) := rfl
theorem wM_f26 (cI cC : ClassId) (ad : Nat → Nat) (s : jS) (f : Nat → Int32) : (wM cI cC ad s).set 27 (ad 27, .inl (cI, 400, .inl f)) = wM cI cC ad (jsF s 26 f) := rfl
theorem wM_a26 (cI cC : ClassId) (ad : Nat → Nat) (s : jS) (i : Nat) (v : Int32) : (wM cI cC ad s).set 27 (ad 27, .inl (cI, 400, .inl (upd (jgA s 26) i v))) = wM cI cC ad (jsA s 26 i v) := rfl
theorem wM_f27 (cI cC : ClassId) (ad : Nat → Nat) (s : jS) (f : Nat → Int32) : (wM cI cC ad s).set 28 (ad 28, .inl (cI, 400, .inl f)) = wM cI cC ad (jsF s 27 f) := rfl
theorem wM_a27 (cI cC : ClassId) (ad : Nat → Nat) (s : jS) (i : Nat) (v : Int32) : (wM cI cC ad s).set 28 (ad 28, .inl (cI, 400, .inl (upd (jgA s 27) i v))) = wM cI cC ad (jsA s 27 i v) := rfl
theorem wM_f28 (cI cC : ClassId) (ad : Nat → Nat) (s : jS) (f : Nat → Int32) : (wM cI cC ad s).set 29 (ad 29, .inl (cI, 400, .inl f)) = wM cI cC ad (jsF s 28 f) := rfl
theorem wM_a28 (cI cC : ClassId) (ad : Nat → Nat) (s : jS) (i : Nat) (v : Int32) : (wM cI cC ad s).set 29 (ad 29, .inl (cI, 400, .inl (upd (jgA s 28) i v))) = wM cI cC ad (jsA s 28 i v) := rfl
theorem wM_f29 (cI cC : ClassId) (ad : Nat → Nat) (s : jS) (f : Nat → Int32) : (wM cI cC ad s).set 30 (ad 30, .inl (cI, 200, .inl f)) = wM cI cC ad (jsF s 29 f) := rfl
theorem wM_a29 (cI cC : ClassId) (ad : Nat → Nat) (s : jS) (i : Nat) (v : Int32) : (wM cI cC ad s).set 30 (ad 30, .inl (cI, 200, .inl (upd (jgA s 29) i v))) = wM cI cC ad (jsA s 29 i v) := rfl
theorem wM_f30 (cI cC : ClassId) (ad : Nat → Nat) (s : jS) (f : Nat → Int32) : (wM cI cC ad s).set 31 (ad 31, .inl (cI, 200, .inl f)) = wM cI cC ad (jsF s 30 f) := rfl
theorem wM_a30 (cI cC : ClassId) (ad : Nat → Nat) (s : jS) (i : Nat) (v : Int32) : (wM cI cC ad s).set 31 (ad 31, .inl (cI, 200, .inl (upd (jgA s 30) i v))) = wM cI cC ad (jsA s 30 i v) := rfl
theorem wM_f31 (cI cC : ClassId) (ad : Nat → Nat) (s : jS) (f : Nat → Int32) : (wM cI cC ad s).set 32 (ad 32, .inl (cI, 200, .inl f)) = wM cI cC ad (jsF s 31 f) := rfl
theorem wM_a31 (cI cC : ClassId) (ad : Nat → Nat) (s : jS) (i : Nat) (v : Int32) : (wM cI cC ad s).set 32 (ad 32, .inl (cI, 200, .inl (upd (jgA s 31) i v))) = wM cI cC ad (jsA s 31 i v) := rfl
