section
-- ===== PART A: goes FIRST, ahead of the names: the tables' words, and 'selects' of the private methods out of them =====
/-- a private method of a class that the tables say can be made, by its rows of tables_1 -/
def lw_okq (q : MethodName × Nat) : Prop := (q.1.cls ≠ "java/lang/invoke/MethodHandle" ∧ q.1.cls ≠ "java/lang/invoke/VarHandle") ∧ Cond.instantiable q.1.cls q.2 ∈ tables_1 ∧ Cond.privateMethod q.1 ∈ tables_1 ∧ Cond.instanceMethod q.1 ∈ tables_1
theorem lw_p0 : lw_okq (⟨"AssertionGate", "putHead", "(II)V"⟩, 14) := ⟨⟨by decide +kernel, by decide +kernel⟩, List.mem_of_getElem? (i := 20) (by decide +kernel), List.mem_of_getElem? (i := 382) (by decide +kernel), List.mem_of_getElem? (i := 383) (by decide +kernel)⟩
theorem lw_p1 : lw_okq (⟨"AssertionGate", "putIssuer", "(I)V"⟩, 14) := ⟨⟨by decide +kernel, by decide +kernel⟩, List.mem_of_getElem? (i := 20) (by decide +kernel), List.mem_of_getElem? (i := 449) (by decide +kernel), List.mem_of_getElem? (i := 450) (by decide +kernel)⟩
theorem lw_p2 : lw_okq (⟨"AssertionGate", "putAssertion", "(IIII)V"⟩, 14) := ⟨⟨by decide +kernel, by decide +kernel⟩, List.mem_of_getElem? (i := 20) (by decide +kernel), List.mem_of_getElem? (i := 456) (by decide +kernel), List.mem_of_getElem? (i := 457) (by decide +kernel)⟩
theorem lw_p3 : lw_okq (⟨"AssertionGate", "putUser", "(I)V"⟩, 14) := ⟨⟨by decide +kernel, by decide +kernel⟩, List.mem_of_getElem? (i := 20) (by decide +kernel), List.mem_of_getElem? (i := 463) (by decide +kernel), List.mem_of_getElem? (i := 464) (by decide +kernel)⟩
theorem lw_p4 : lw_okq (⟨"AssertionGate", "sealOfRead", "(II)I"⟩, 14) := ⟨⟨by decide +kernel, by decide +kernel⟩, List.mem_of_getElem? (i := 20) (by decide +kernel), List.mem_of_getElem? (i := 474) (by decide +kernel), List.mem_of_getElem? (i := 475) (by decide +kernel)⟩
theorem lw_p5 : lw_okq (⟨"AssertionGate$Reader", "isBanned", "()Z"⟩, 4) := ⟨⟨by decide +kernel, by decide +kernel⟩, List.mem_of_getElem? (i := 105) (by decide +kernel), List.mem_of_getElem? (i := 482) (by decide +kernel), List.mem_of_getElem? (i := 483) (by decide +kernel)⟩
theorem lw_p6 : lw_okq (⟨"AssertionGate$Reader", "afterStartTag", "(I)I"⟩, 4) := ⟨⟨by decide +kernel, by decide +kernel⟩, List.mem_of_getElem? (i := 105) (by decide +kernel), List.mem_of_getElem? (i := 495) (by decide +kernel), List.mem_of_getElem? (i := 496) (by decide +kernel)⟩
theorem lw_p7 : lw_okq (⟨"AssertionGate$Reader", "afterName", "(I)I"⟩, 4) := ⟨⟨by decide +kernel, by decide +kernel⟩, List.mem_of_getElem? (i := 105) (by decide +kernel), List.mem_of_getElem? (i := 499) (by decide +kernel), List.mem_of_getElem? (i := 500) (by decide +kernel)⟩
theorem lw_p8 : lw_okq (⟨"AssertionGate$Reader", "afterAttributes", "(II)I"⟩, 4) := ⟨⟨by decide +kernel, by decide +kernel⟩, List.mem_of_getElem? (i := 105) (by decide +kernel), List.mem_of_getElem? (i := 511) (by decide +kernel), List.mem_of_getElem? (i := 512) (by decide +kernel)⟩
theorem lw_p9 : lw_okq (⟨"AssertionGate$Reader", "closingQuote", "(I)I"⟩, 4) := ⟨⟨by decide +kernel, by decide +kernel⟩, List.mem_of_getElem? (i := 105) (by decide +kernel), List.mem_of_getElem? (i := 519) (by decide +kernel), List.mem_of_getElem? (i := 520) (by decide +kernel)⟩
theorem lw_p10 : lw_okq (⟨"AssertionGate$Reader", "afterEndTag", "(I)I"⟩, 4) := ⟨⟨by decide +kernel, by decide +kernel⟩, List.mem_of_getElem? (i := 105) (by decide +kernel), List.mem_of_getElem? (i := 543) (by decide +kernel), List.mem_of_getElem? (i := 544) (by decide +kernel)⟩
theorem lw_p11 : lw_okq (⟨"AssertionGate$Digester", "fold", "(I)V"⟩, 4) := ⟨⟨by decide +kernel, by decide +kernel⟩, List.mem_of_getElem? (i := 124) (by decide +kernel), List.mem_of_getElem? (i := 555) (by decide +kernel), List.mem_of_getElem? (i := 556) (by decide +kernel)⟩
theorem lw_p12 : lw_okq (⟨"AssertionGate$Digester", "foldEndTag", "(I)I"⟩, 4) := ⟨⟨by decide +kernel, by decide +kernel⟩, List.mem_of_getElem? (i := 124) (by decide +kernel), List.mem_of_getElem? (i := 561) (by decide +kernel), List.mem_of_getElem? (i := 562) (by decide +kernel)⟩
theorem lw_p13 : lw_okq (⟨"AssertionGate$Digester", "foldEnd", "(II)V"⟩, 4) := ⟨⟨by decide +kernel, by decide +kernel⟩, List.mem_of_getElem? (i := 124) (by decide +kernel), List.mem_of_getElem? (i := 566) (by decide +kernel), List.mem_of_getElem? (i := 567) (by decide +kernel)⟩
theorem lw_p14 : lw_okq (⟨"AssertionGate$Digester", "foldSpan", "(II)V"⟩, 4) := ⟨⟨by decide +kernel, by decide +kernel⟩, List.mem_of_getElem? (i := 124) (by decide +kernel), List.mem_of_getElem? (i := 570) (by decide +kernel), List.mem_of_getElem? (i := 571) (by decide +kernel)⟩
theorem lw_p15 : lw_okq (⟨"AssertionGate$Digester", "foldStartTag", "(I)I"⟩, 4) := ⟨⟨by decide +kernel, by decide +kernel⟩, List.mem_of_getElem? (i := 124) (by decide +kernel), List.mem_of_getElem? (i := 575) (by decide +kernel), List.mem_of_getElem? (i := 576) (by decide +kernel)⟩
def lw_privs_1 : List (MethodName × Nat) := [(⟨"AssertionGate", "putHead", "(II)V"⟩, 14), (⟨"AssertionGate", "putIssuer", "(I)V"⟩, 14), (⟨"AssertionGate", "putAssertion", "(IIII)V"⟩, 14), (⟨"AssertionGate", "putUser", "(I)V"⟩, 14), (⟨"AssertionGate", "sealOfRead", "(II)I"⟩, 14), (⟨"AssertionGate$Reader", "isBanned", "()Z"⟩, 4), (⟨"AssertionGate$Reader", "afterStartTag", "(I)I"⟩, 4), (⟨"AssertionGate$Reader", "afterName", "(I)I"⟩, 4), (⟨"AssertionGate$Reader", "afterAttributes", "(II)I"⟩, 4), (⟨"AssertionGate$Reader", "closingQuote", "(I)I"⟩, 4), (⟨"AssertionGate$Reader", "afterEndTag", "(I)I"⟩, 4), (⟨"AssertionGate$Digester", "fold", "(I)V"⟩, 4), (⟨"AssertionGate$Digester", "foldEndTag", "(I)I"⟩, 4), (⟨"AssertionGate$Digester", "foldEnd", "(II)V"⟩, 4), (⟨"AssertionGate$Digester", "foldSpan", "(II)V"⟩, 4), (⟨"AssertionGate$Digester", "foldStartTag", "(I)I"⟩, 4)]
theorem lw_r1 : ∀ q ∈ lw_privs_1, lw_okq q := List.forall_mem_cons.mpr ⟨lw_p0, List.forall_mem_cons.mpr ⟨lw_p1, List.forall_mem_cons.mpr ⟨lw_p2, List.forall_mem_cons.mpr ⟨lw_p3, List.forall_mem_cons.mpr ⟨lw_p4, List.forall_mem_cons.mpr ⟨lw_p5, List.forall_mem_cons.mpr ⟨lw_p6, List.forall_mem_cons.mpr ⟨lw_p7, List.forall_mem_cons.mpr ⟨lw_p8, List.forall_mem_cons.mpr ⟨lw_p9, List.forall_mem_cons.mpr ⟨lw_p10, List.forall_mem_cons.mpr ⟨lw_p11, List.forall_mem_cons.mpr ⟨lw_p12, List.forall_mem_cons.mpr ⟨lw_p13, List.forall_mem_cons.mpr ⟨lw_p14, List.forall_mem_cons.mpr ⟨lw_p15, fun _ h => absurd h List.not_mem_nil⟩⟩⟩⟩⟩⟩⟩⟩⟩⟩⟩⟩⟩⟩⟩⟩
theorem lw_p16 : lw_okq (⟨"AssertionGate$Digester", "passOver", "(I)V"⟩, 4) := ⟨⟨by decide +kernel, by decide +kernel⟩, List.mem_of_getElem? (i := 124) (by decide +kernel), List.mem_of_getElem? (i := 588) (by decide +kernel), List.mem_of_getElem? (i := 589) (by decide +kernel)⟩
theorem lw_p17 : lw_okq (⟨"AssertionGate", "putSig", "(CI)V"⟩, 14) := ⟨⟨by decide +kernel, by decide +kernel⟩, List.mem_of_getElem? (i := 20) (by decide +kernel), List.mem_of_getElem? (i := 600) (by decide +kernel), List.mem_of_getElem? (i := 601) (by decide +kernel)⟩
theorem lw_p18 : lw_okq (⟨"AssertionGate$Response", "findParts", "()V"⟩, 11) := ⟨⟨by decide +kernel, by decide +kernel⟩, List.mem_of_getElem? (i := 228) (by decide +kernel), List.mem_of_getElem? (i := 700) (by decide +kernel), List.mem_of_getElem? (i := 701) (by decide +kernel)⟩
theorem lw_p19 : lw_okq (⟨"AssertionGate$Response", "isHeadSound", "()Z"⟩, 11) := ⟨⟨by decide +kernel, by decide +kernel⟩, List.mem_of_getElem? (i := 228) (by decide +kernel), List.mem_of_getElem? (i := 728) (by decide +kernel), List.mem_of_getElem? (i := 729) (by decide +kernel)⟩
theorem lw_p20 : lw_okq (⟨"AssertionGate$Response", "isAssnSound", "()Z"⟩, 11) := ⟨⟨by decide +kernel, by decide +kernel⟩, List.mem_of_getElem? (i := 228) (by decide +kernel), List.mem_of_getElem? (i := 768) (by decide +kernel), List.mem_of_getElem? (i := 769) (by decide +kernel)⟩
theorem lw_p21 : lw_okq (⟨"AssertionGate$Response", "isSubjSound", "()Z"⟩, 11) := ⟨⟨by decide +kernel, by decide +kernel⟩, List.mem_of_getElem? (i := 228) (by decide +kernel), List.mem_of_getElem? (i := 779) (by decide +kernel), List.mem_of_getElem? (i := 780) (by decide +kernel)⟩
theorem lw_p22 : lw_okq (⟨"AssertionGate", "takeResponse", "()I"⟩, 14) := ⟨⟨by decide +kernel, by decide +kernel⟩, List.mem_of_getElem? (i := 20) (by decide +kernel), List.mem_of_getElem? (i := 784) (by decide +kernel), List.mem_of_getElem? (i := 785) (by decide +kernel)⟩
theorem lw_p23 : lw_okq (⟨"AssertionGate", "isValid", "(III)Z"⟩, 14) := ⟨⟨by decide +kernel, by decide +kernel⟩, List.mem_of_getElem? (i := 20) (by decide +kernel), List.mem_of_getElem? (i := 788) (by decide +kernel), List.mem_of_getElem? (i := 789) (by decide +kernel)⟩
theorem lw_p24 : lw_okq (⟨"AssertionGate", "trustedNamed", "(I)I"⟩, 14) := ⟨⟨by decide +kernel, by decide +kernel⟩, List.mem_of_getElem? (i := 20) (by decide +kernel), List.mem_of_getElem? (i := 792) (by decide +kernel), List.mem_of_getElem? (i := 793) (by decide +kernel)⟩
theorem lw_p25 : lw_okq (⟨"AssertionGate", "faultOfTerms", "(I)I"⟩, 14) := ⟨⟨by decide +kernel, by decide +kernel⟩, List.mem_of_getElem? (i := 20) (by decide +kernel), List.mem_of_getElem? (i := 817) (by decide +kernel), List.mem_of_getElem? (i := 818) (by decide +kernel)⟩
theorem lw_p26 : lw_okq (⟨"AssertionGate", "hasRunOut", "(I)Z"⟩, 14) := ⟨⟨by decide +kernel, by decide +kernel⟩, List.mem_of_getElem? (i := 20) (by decide +kernel), List.mem_of_getElem? (i := 844) (by decide +kernel), List.mem_of_getElem? (i := 845) (by decide +kernel)⟩
theorem lw_p27 : lw_okq (⟨"AssertionGate", "isSeen", "(I)Z"⟩, 14) := ⟨⟨by decide +kernel, by decide +kernel⟩, List.mem_of_getElem? (i := 20) (by decide +kernel), List.mem_of_getElem? (i := 854) (by decide +kernel), List.mem_of_getElem? (i := 855) (by decide +kernel)⟩
theorem lw_p28 : lw_okq (⟨"AssertionGate", "markSeen", "(I)V"⟩, 14) := ⟨⟨by decide +kernel, by decide +kernel⟩, List.mem_of_getElem? (i := 20) (by decide +kernel), List.mem_of_getElem? (i := 882) (by decide +kernel), List.mem_of_getElem? (i := 883) (by decide +kernel)⟩
theorem lw_p29 : lw_okq (⟨"AssertionGate", "takeLogout", "()I"⟩, 14) := ⟨⟨by decide +kernel, by decide +kernel⟩, List.mem_of_getElem? (i := 20) (by decide +kernel), List.mem_of_getElem? (i := 918) (by decide +kernel), List.mem_of_getElem? (i := 919) (by decide +kernel)⟩
theorem lw_p30 : lw_okq (⟨"AssertionGateModel", "waits", "(I)Z"⟩, 36) := ⟨⟨by decide +kernel, by decide +kernel⟩, List.mem_of_getElem? (i := 951) (by decide +kernel), List.mem_of_getElem? (i := 1095) (by decide +kernel), List.mem_of_getElem? (i := 1096) (by decide +kernel)⟩
theorem lw_p31 : lw_okq (⟨"AssertionGateModel", "read", "()I"⟩, 36) := ⟨⟨by decide +kernel, by decide +kernel⟩, List.mem_of_getElem? (i := 951) (by decide +kernel), List.mem_of_getElem? (i := 1134) (by decide +kernel), List.mem_of_getElem? (i := 1135) (by decide +kernel)⟩
def lw_privs_2 : List (MethodName × Nat) := [(⟨"AssertionGate$Digester", "passOver", "(I)V"⟩, 4), (⟨"AssertionGate", "putSig", "(CI)V"⟩, 14), (⟨"AssertionGate$Response", "findParts", "()V"⟩, 11), (⟨"AssertionGate$Response", "isHeadSound", "()Z"⟩, 11), (⟨"AssertionGate$Response", "isAssnSound", "()Z"⟩, 11), (⟨"AssertionGate$Response", "isSubjSound", "()Z"⟩, 11), (⟨"AssertionGate", "takeResponse", "()I"⟩, 14), (⟨"AssertionGate", "isValid", "(III)Z"⟩, 14), (⟨"AssertionGate", "trustedNamed", "(I)I"⟩, 14), (⟨"AssertionGate", "faultOfTerms", "(I)I"⟩, 14), (⟨"AssertionGate", "hasRunOut", "(I)Z"⟩, 14), (⟨"AssertionGate", "isSeen", "(I)Z"⟩, 14), (⟨"AssertionGate", "markSeen", "(I)V"⟩, 14), (⟨"AssertionGate", "takeLogout", "()I"⟩, 14), (⟨"AssertionGateModel", "waits", "(I)Z"⟩, 36), (⟨"AssertionGateModel", "read", "()I"⟩, 36)]
theorem lw_r2 : ∀ q ∈ lw_privs_2, lw_okq q := List.forall_mem_cons.mpr ⟨lw_p16, List.forall_mem_cons.mpr ⟨lw_p17, List.forall_mem_cons.mpr ⟨lw_p18, List.forall_mem_cons.mpr ⟨lw_p19, List.forall_mem_cons.mpr ⟨lw_p20, List.forall_mem_cons.mpr ⟨lw_p21, List.forall_mem_cons.mpr ⟨lw_p22, List.forall_mem_cons.mpr ⟨lw_p23, List.forall_mem_cons.mpr ⟨lw_p24, List.forall_mem_cons.mpr ⟨lw_p25, List.forall_mem_cons.mpr ⟨lw_p26, List.forall_mem_cons.mpr ⟨lw_p27, List.forall_mem_cons.mpr ⟨lw_p28, List.forall_mem_cons.mpr ⟨lw_p29, List.forall_mem_cons.mpr ⟨lw_p30, List.forall_mem_cons.mpr ⟨lw_p31, fun _ h => absurd h List.not_mem_nil⟩⟩⟩⟩⟩⟩⟩⟩⟩⟩⟩⟩⟩⟩⟩⟩
theorem lw_p32 : lw_okq (⟨"AssertionGateModel", "banned", "()Z"⟩, 36) := ⟨⟨by decide +kernel, by decide +kernel⟩, List.mem_of_getElem? (i := 951) (by decide +kernel), List.mem_of_getElem? (i := 1138) (by decide +kernel), List.mem_of_getElem? (i := 1139) (by decide +kernel)⟩
theorem lw_p33 : lw_okq (⟨"AssertionGateModel", "dashes", "(I)Z"⟩, 36) := ⟨⟨by decide +kernel, by decide +kernel⟩, List.mem_of_getElem? (i := 951) (by decide +kernel), List.mem_of_getElem? (i := 1143) (by decide +kernel), List.mem_of_getElem? (i := 1144) (by decide +kernel)⟩
theorem lw_p34 : lw_okq (⟨"AssertionGateModel", "tag", "(II)I"⟩, 36) := ⟨⟨by decide +kernel, by decide +kernel⟩, List.mem_of_getElem? (i := 951) (by decide +kernel), List.mem_of_getElem? (i := 1150) (by decide +kernel), List.mem_of_getElem? (i := 1151) (by decide +kernel)⟩
theorem lw_p35 : lw_okq (⟨"AssertionGateModel", "nameAt", "(I)I"⟩, 36) := ⟨⟨by decide +kernel, by decide +kernel⟩, List.mem_of_getElem? (i := 951) (by decide +kernel), List.mem_of_getElem? (i := 1154) (by decide +kernel), List.mem_of_getElem? (i := 1155) (by decide +kernel)⟩
theorem lw_p36 : lw_okq (⟨"AssertionGateModel", "spaces", "(I)I"⟩, 36) := ⟨⟨by decide +kernel, by decide +kernel⟩, List.mem_of_getElem? (i := 951) (by decide +kernel), List.mem_of_getElem? (i := 1158) (by decide +kernel), List.mem_of_getElem? (i := 1159) (by decide +kernel)⟩
theorem lw_p37 : lw_okq (⟨"AssertionGateModel", "attribute", "(II)I"⟩, 36) := ⟨⟨by decide +kernel, by decide +kernel⟩, List.mem_of_getElem? (i := 951) (by decide +kernel), List.mem_of_getElem? (i := 1162) (by decide +kernel), List.mem_of_getElem? (i := 1163) (by decide +kernel)⟩
theorem lw_p38 : lw_okq (⟨"AssertionGateModel", "find", "(IJ)I"⟩, 36) := ⟨⟨by decide +kernel, by decide +kernel⟩, List.mem_of_getElem? (i := 951) (by decide +kernel), List.mem_of_getElem? (i := 1166) (by decide +kernel), List.mem_of_getElem? (i := 1167) (by decide +kernel)⟩
theorem lw_p39 : lw_okq (⟨"AssertionGateModel", "comment", "(I)I"⟩, 36) := ⟨⟨by decide +kernel, by decide +kernel⟩, List.mem_of_getElem? (i := 951) (by decide +kernel), List.mem_of_getElem? (i := 1170) (by decide +kernel), List.mem_of_getElem? (i := 1171) (by decide +kernel)⟩
theorem lw_p40 : lw_okq (⟨"AssertionGateModel", "close", "(II)I"⟩, 36) := ⟨⟨by decide +kernel, by decide +kernel⟩, List.mem_of_getElem? (i := 951) (by decide +kernel), List.mem_of_getElem? (i := 1174) (by decide +kernel), List.mem_of_getElem? (i := 1175) (by decide +kernel)⟩
theorem lw_p41 : lw_okq (⟨"AssertionGateModel", "depth", "(I)I"⟩, 36) := ⟨⟨by decide +kernel, by decide +kernel⟩, List.mem_of_getElem? (i := 951) (by decide +kernel), List.mem_of_getElem? (i := 1178) (by decide +kernel), List.mem_of_getElem? (i := 1179) (by decide +kernel)⟩
theorem lw_p42 : lw_okq (⟨"AssertionGateModel", "digestOf", "(I)I"⟩, 36) := ⟨⟨by decide +kernel, by decide +kernel⟩, List.mem_of_getElem? (i := 951) (by decide +kernel), List.mem_of_getElem? (i := 1186) (by decide +kernel), List.mem_of_getElem? (i := 1187) (by decide +kernel)⟩
theorem lw_p43 : lw_okq (⟨"AssertionGateModel", "foldHead", "(II)I"⟩, 36) := ⟨⟨by decide +kernel, by decide +kernel⟩, List.mem_of_getElem? (i := 951) (by decide +kernel), List.mem_of_getElem? (i := 1190) (by decide +kernel), List.mem_of_getElem? (i := 1191) (by decide +kernel)⟩
theorem lw_p44 : lw_okq (⟨"AssertionGateModel", "foldAttribute", "(II)I"⟩, 36) := ⟨⟨by decide +kernel, by decide +kernel⟩, List.mem_of_getElem? (i := 951) (by decide +kernel), List.mem_of_getElem? (i := 1201) (by decide +kernel), List.mem_of_getElem? (i := 1202) (by decide +kernel)⟩
theorem lw_p45 : lw_okq (⟨"AssertionGateModel", "elementAt", "(IZ)I"⟩, 36) := ⟨⟨by decide +kernel, by decide +kernel⟩, List.mem_of_getElem? (i := 951) (by decide +kernel), List.mem_of_getElem? (i := 1205) (by decide +kernel), List.mem_of_getElem? (i := 1206) (by decide +kernel)⟩
theorem lw_p46 : lw_okq (⟨"AssertionGateModel", "foldTail", "(II)I"⟩, 36) := ⟨⟨by decide +kernel, by decide +kernel⟩, List.mem_of_getElem? (i := 951) (by decide +kernel), List.mem_of_getElem? (i := 1209) (by decide +kernel), List.mem_of_getElem? (i := 1210) (by decide +kernel)⟩
theorem lw_p47 : lw_okq (⟨"AssertionGateModel", "twice", "()Z"⟩, 36) := ⟨⟨by decide +kernel, by decide +kernel⟩, List.mem_of_getElem? (i := 951) (by decide +kernel), List.mem_of_getElem? (i := 1226) (by decide +kernel), List.mem_of_getElem? (i := 1227) (by decide +kernel)⟩
def lw_privs_3 : List (MethodName × Nat) := [(⟨"AssertionGateModel", "banned", "()Z"⟩, 36), (⟨"AssertionGateModel", "dashes", "(I)Z"⟩, 36), (⟨"AssertionGateModel", "tag", "(II)I"⟩, 36), (⟨"AssertionGateModel", "nameAt", "(I)I"⟩, 36), (⟨"AssertionGateModel", "spaces", "(I)I"⟩, 36), (⟨"AssertionGateModel", "attribute", "(II)I"⟩, 36), (⟨"AssertionGateModel", "find", "(IJ)I"⟩, 36), (⟨"AssertionGateModel", "comment", "(I)I"⟩, 36), (⟨"AssertionGateModel", "close", "(II)I"⟩, 36), (⟨"AssertionGateModel", "depth", "(I)I"⟩, 36), (⟨"AssertionGateModel", "digestOf", "(I)I"⟩, 36), (⟨"AssertionGateModel", "foldHead", "(II)I"⟩, 36), (⟨"AssertionGateModel", "foldAttribute", "(II)I"⟩, 36), (⟨"AssertionGateModel", "elementAt", "(IZ)I"⟩, 36), (⟨"AssertionGateModel", "foldTail", "(II)I"⟩, 36), (⟨"AssertionGateModel", "twice", "()Z"⟩, 36)]
theorem lw_r3 : ∀ q ∈ lw_privs_3, lw_okq q := List.forall_mem_cons.mpr ⟨lw_p32, List.forall_mem_cons.mpr ⟨lw_p33, List.forall_mem_cons.mpr ⟨lw_p34, List.forall_mem_cons.mpr ⟨lw_p35, List.forall_mem_cons.mpr ⟨lw_p36, List.forall_mem_cons.mpr ⟨lw_p37, List.forall_mem_cons.mpr ⟨lw_p38, List.forall_mem_cons.mpr ⟨lw_p39, List.forall_mem_cons.mpr ⟨lw_p40, List.forall_mem_cons.mpr ⟨lw_p41, List.forall_mem_cons.mpr ⟨lw_p42, List.forall_mem_cons.mpr ⟨lw_p43, List.forall_mem_cons.mpr ⟨lw_p44, List.forall_mem_cons.mpr ⟨lw_p45, List.forall_mem_cons.mpr ⟨lw_p46, List.forall_mem_cons.mpr ⟨lw_p47, fun _ h => absurd h List.not_mem_nil⟩⟩⟩⟩⟩⟩⟩⟩⟩⟩⟩⟩⟩⟩⟩⟩
theorem lw_p48 : lw_okq (⟨"AssertionGateModel", "same", "(II)Z"⟩, 36) := ⟨⟨by decide +kernel, by decide +kernel⟩, List.mem_of_getElem? (i := 951) (by decide +kernel), List.mem_of_getElem? (i := 1231) (by decide +kernel), List.mem_of_getElem? (i := 1232) (by decide +kernel)⟩
theorem lw_p49 : lw_okq (⟨"AssertionGateModel", "isResponse", "()Z"⟩, 36) := ⟨⟨by decide +kernel, by decide +kernel⟩, List.mem_of_getElem? (i := 951) (by decide +kernel), List.mem_of_getElem? (i := 1235) (by decide +kernel), List.mem_of_getElem? (i := 1236) (by decide +kernel)⟩
theorem lw_p50 : lw_okq (⟨"AssertionGateModel", "keyOf", "(IJ)J"⟩, 36) := ⟨⟨by decide +kernel, by decide +kernel⟩, List.mem_of_getElem? (i := 951) (by decide +kernel), List.mem_of_getElem? (i := 1240) (by decide +kernel), List.mem_of_getElem? (i := 1241) (by decide +kernel)⟩
theorem lw_p51 : lw_okq (⟨"AssertionGateModel", "pack", "(II)J"⟩, 36) := ⟨⟨by decide +kernel, by decide +kernel⟩, List.mem_of_getElem? (i := 951) (by decide +kernel), List.mem_of_getElem? (i := 1244) (by decide +kernel), List.mem_of_getElem? (i := 1245) (by decide +kernel)⟩
theorem lw_p52 : lw_okq (⟨"AssertionGateModel", "sigs", "(I)Z"⟩, 36) := ⟨⟨by decide +kernel, by decide +kernel⟩, List.mem_of_getElem? (i := 951) (by decide +kernel), List.mem_of_getElem? (i := 1250) (by decide +kernel), List.mem_of_getElem? (i := 1251) (by decide +kernel)⟩
theorem lw_p53 : lw_okq (⟨"AssertionGateModel", "child", "(IJ)I"⟩, 36) := ⟨⟨by decide +kernel, by decide +kernel⟩, List.mem_of_getElem? (i := 951) (by decide +kernel), List.mem_of_getElem? (i := 1254) (by decide +kernel), List.mem_of_getElem? (i := 1255) (by decide +kernel)⟩
theorem lw_p54 : lw_okq (⟨"AssertionGateModel", "children", "(IJ)I"⟩, 36) := ⟨⟨by decide +kernel, by decide +kernel⟩, List.mem_of_getElem? (i := 951) (by decide +kernel), List.mem_of_getElem? (i := 1258) (by decide +kernel), List.mem_of_getElem? (i := 1259) (by decide +kernel)⟩
theorem lw_p55 : lw_okq (⟨"AssertionGateModel", "numberOf", "(IJ)I"⟩, 36) := ⟨⟨by decide +kernel, by decide +kernel⟩, List.mem_of_getElem? (i := 951) (by decide +kernel), List.mem_of_getElem? (i := 1264) (by decide +kernel), List.mem_of_getElem? (i := 1265) (by decide +kernel)⟩
theorem lw_p56 : lw_okq (⟨"AssertionGateModel", "oneWord", "(IJ)Z"⟩, 36) := ⟨⟨by decide +kernel, by decide +kernel⟩, List.mem_of_getElem? (i := 951) (by decide +kernel), List.mem_of_getElem? (i := 1269) (by decide +kernel), List.mem_of_getElem? (i := 1270) (by decide +kernel)⟩
theorem lw_p57 : lw_okq (⟨"AssertionGateModel", "wordOf", "(I)J"⟩, 36) := ⟨⟨by decide +kernel, by decide +kernel⟩, List.mem_of_getElem? (i := 951) (by decide +kernel), List.mem_of_getElem? (i := 1273) (by decide +kernel), List.mem_of_getElem? (i := 1274) (by decide +kernel)⟩
theorem lw_p58 : lw_okq (⟨"AssertionGateModel", "isLogout", "()Z"⟩, 36) := ⟨⟨by decide +kernel, by decide +kernel⟩, List.mem_of_getElem? (i := 951) (by decide +kernel), List.mem_of_getElem? (i := 1287) (by decide +kernel), List.mem_of_getElem? (i := 1288) (by decide +kernel)⟩
theorem lw_p59 : lw_okq (⟨"AssertionGateModel", "sound", "(I)Z"⟩, 36) := ⟨⟨by decide +kernel, by decide +kernel⟩, List.mem_of_getElem? (i := 951) (by decide +kernel), List.mem_of_getElem? (i := 1292) (by decide +kernel), List.mem_of_getElem? (i := 1293) (by decide +kernel)⟩
theorem lw_p60 : lw_okq (⟨"AssertionGateModel", "named", "(I)I"⟩, 36) := ⟨⟨by decide +kernel, by decide +kernel⟩, List.mem_of_getElem? (i := 951) (by decide +kernel), List.mem_of_getElem? (i := 1296) (by decide +kernel), List.mem_of_getElem? (i := 1297) (by decide +kernel)⟩
theorem lw_p61 : lw_okq (⟨"AssertionGateModel", "accept", "(I)I"⟩, 36) := ⟨⟨by decide +kernel, by decide +kernel⟩, List.mem_of_getElem? (i := 951) (by decide +kernel), List.mem_of_getElem? (i := 1303) (by decide +kernel), List.mem_of_getElem? (i := 1304) (by decide +kernel)⟩
theorem lw_p62 : lw_okq (⟨"AssertionGateModel", "faults", "(I)I"⟩, 36) := ⟨⟨by decide +kernel, by decide +kernel⟩, List.mem_of_getElem? (i := 951) (by decide +kernel), List.mem_of_getElem? (i := 1307) (by decide +kernel), List.mem_of_getElem? (i := 1308) (by decide +kernel)⟩
theorem lw_p63 : lw_okq (⟨"AssertionGateModel", "isSeen", "(J)Z"⟩, 36) := ⟨⟨by decide +kernel, by decide +kernel⟩, List.mem_of_getElem? (i := 951) (by decide +kernel), List.mem_of_getElem? (i := 1313) (by decide +kernel), List.mem_of_getElem? (i := 1314) (by decide +kernel)⟩
def lw_privs_4 : List (MethodName × Nat) := [(⟨"AssertionGateModel", "same", "(II)Z"⟩, 36), (⟨"AssertionGateModel", "isResponse", "()Z"⟩, 36), (⟨"AssertionGateModel", "keyOf", "(IJ)J"⟩, 36), (⟨"AssertionGateModel", "pack", "(II)J"⟩, 36), (⟨"AssertionGateModel", "sigs", "(I)Z"⟩, 36), (⟨"AssertionGateModel", "child", "(IJ)I"⟩, 36), (⟨"AssertionGateModel", "children", "(IJ)I"⟩, 36), (⟨"AssertionGateModel", "numberOf", "(IJ)I"⟩, 36), (⟨"AssertionGateModel", "oneWord", "(IJ)Z"⟩, 36), (⟨"AssertionGateModel", "wordOf", "(I)J"⟩, 36), (⟨"AssertionGateModel", "isLogout", "()Z"⟩, 36), (⟨"AssertionGateModel", "sound", "(I)Z"⟩, 36), (⟨"AssertionGateModel", "named", "(I)I"⟩, 36), (⟨"AssertionGateModel", "accept", "(I)I"⟩, 36), (⟨"AssertionGateModel", "faults", "(I)I"⟩, 36), (⟨"AssertionGateModel", "isSeen", "(J)Z"⟩, 36)]
theorem lw_r4 : ∀ q ∈ lw_privs_4, lw_okq q := List.forall_mem_cons.mpr ⟨lw_p48, List.forall_mem_cons.mpr ⟨lw_p49, List.forall_mem_cons.mpr ⟨lw_p50, List.forall_mem_cons.mpr ⟨lw_p51, List.forall_mem_cons.mpr ⟨lw_p52, List.forall_mem_cons.mpr ⟨lw_p53, List.forall_mem_cons.mpr ⟨lw_p54, List.forall_mem_cons.mpr ⟨lw_p55, List.forall_mem_cons.mpr ⟨lw_p56, List.forall_mem_cons.mpr ⟨lw_p57, List.forall_mem_cons.mpr ⟨lw_p58, List.forall_mem_cons.mpr ⟨lw_p59, List.forall_mem_cons.mpr ⟨lw_p60, List.forall_mem_cons.mpr ⟨lw_p61, List.forall_mem_cons.mpr ⟨lw_p62, List.forall_mem_cons.mpr ⟨lw_p63, fun _ h => absurd h List.not_mem_nil⟩⟩⟩⟩⟩⟩⟩⟩⟩⟩⟩⟩⟩⟩⟩⟩
theorem lw_p64 : lw_okq (⟨"AssertionGateModel", "see", "(J)V"⟩, 36) := ⟨⟨by decide +kernel, by decide +kernel⟩, List.mem_of_getElem? (i := 951) (by decide +kernel), List.mem_of_getElem? (i := 1317) (by decide +kernel), List.mem_of_getElem? (i := 1318) (by decide +kernel)⟩
theorem lw_p65 : lw_okq (⟨"AssertionGateModel", "logout", "()I"⟩, 36) := ⟨⟨by decide +kernel, by decide +kernel⟩, List.mem_of_getElem? (i := 951) (by decide +kernel), List.mem_of_getElem? (i := 1321) (by decide +kernel), List.mem_of_getElem? (i := 1322) (by decide +kernel)⟩
theorem lw_p66 : lw_okq (⟨"AssertionGateModel", "fill", "(IIIIII)V"⟩, 36) := ⟨⟨by decide +kernel, by decide +kernel⟩, List.mem_of_getElem? (i := 951) (by decide +kernel), List.mem_of_getElem? (i := 1337) (by decide +kernel), List.mem_of_getElem? (i := 1338) (by decide +kernel)⟩
theorem lw_p67 : lw_okq (⟨"AssertionGateModel", "put", "(J)V"⟩, 36) := ⟨⟨by decide +kernel, by decide +kernel⟩, List.mem_of_getElem? (i := 951) (by decide +kernel), List.mem_of_getElem? (i := 1342) (by decide +kernel), List.mem_of_getElem? (i := 1343) (by decide +kernel)⟩
theorem lw_p68 : lw_okq (⟨"AssertionGateModel", "putNumber", "(I)V"⟩, 36) := ⟨⟨by decide +kernel, by decide +kernel⟩, List.mem_of_getElem? (i := 951) (by decide +kernel), List.mem_of_getElem? (i := 1347) (by decide +kernel), List.mem_of_getElem? (i := 1348) (by decide +kernel)⟩
theorem lw_p69 : lw_okq (⟨"AssertionGateModel", "putIssuer", "(I)V"⟩, 36) := ⟨⟨by decide +kernel, by decide +kernel⟩, List.mem_of_getElem? (i := 951) (by decide +kernel), List.mem_of_getElem? (i := 1354) (by decide +kernel), List.mem_of_getElem? (i := 1355) (by decide +kernel)⟩
theorem lw_p70 : lw_okq (⟨"AssertionGateModel", "putSubject", "(III)V"⟩, 36) := ⟨⟨by decide +kernel, by decide +kernel⟩, List.mem_of_getElem? (i := 951) (by decide +kernel), List.mem_of_getElem? (i := 1365) (by decide +kernel), List.mem_of_getElem? (i := 1366) (by decide +kernel)⟩
theorem lw_p71 : lw_okq (⟨"AssertionGateModel", "putUser", "(I)V"⟩, 36) := ⟨⟨by decide +kernel, by decide +kernel⟩, List.mem_of_getElem? (i := 951) (by decide +kernel), List.mem_of_getElem? (i := 1370) (by decide +kernel), List.mem_of_getElem? (i := 1371) (by decide +kernel)⟩
theorem lw_p72 : lw_okq (⟨"AssertionGateModel", "putSig", "(II)V"⟩, 36) := ⟨⟨by decide +kernel, by decide +kernel⟩, List.mem_of_getElem? (i := 951) (by decide +kernel), List.mem_of_getElem? (i := 1386) (by decide +kernel), List.mem_of_getElem? (i := 1387) (by decide +kernel)⟩
theorem lw_p73 : lw_okq (⟨"AssertionGateModel", "signature", "(II)I"⟩, 36) := ⟨⟨by decide +kernel, by decide +kernel⟩, List.mem_of_getElem? (i := 951) (by decide +kernel), List.mem_of_getElem? (i := 1395) (by decide +kernel), List.mem_of_getElem? (i := 1396) (by decide +kernel)⟩
theorem lw_p74 : lw_okq (⟨"AssertionGateModel", "fillOut", "(III)V"⟩, 36) := ⟨⟨by decide +kernel, by decide +kernel⟩, List.mem_of_getElem? (i := 951) (by decide +kernel), List.mem_of_getElem? (i := 1403) (by decide +kernel), List.mem_of_getElem? (i := 1404) (by decide +kernel)⟩
def lw_privs_5 : List (MethodName × Nat) := [(⟨"AssertionGateModel", "see", "(J)V"⟩, 36), (⟨"AssertionGateModel", "logout", "()I"⟩, 36), (⟨"AssertionGateModel", "fill", "(IIIIII)V"⟩, 36), (⟨"AssertionGateModel", "put", "(J)V"⟩, 36), (⟨"AssertionGateModel", "putNumber", "(I)V"⟩, 36), (⟨"AssertionGateModel", "putIssuer", "(I)V"⟩, 36), (⟨"AssertionGateModel", "putSubject", "(III)V"⟩, 36), (⟨"AssertionGateModel", "putUser", "(I)V"⟩, 36), (⟨"AssertionGateModel", "putSig", "(II)V"⟩, 36), (⟨"AssertionGateModel", "signature", "(II)I"⟩, 36), (⟨"AssertionGateModel", "fillOut", "(III)V"⟩, 36)]
theorem lw_r5 : ∀ q ∈ lw_privs_5, lw_okq q := List.forall_mem_cons.mpr ⟨lw_p64, List.forall_mem_cons.mpr ⟨lw_p65, List.forall_mem_cons.mpr ⟨lw_p66, List.forall_mem_cons.mpr ⟨lw_p67, List.forall_mem_cons.mpr ⟨lw_p68, List.forall_mem_cons.mpr ⟨lw_p69, List.forall_mem_cons.mpr ⟨lw_p70, List.forall_mem_cons.mpr ⟨lw_p71, List.forall_mem_cons.mpr ⟨lw_p72, List.forall_mem_cons.mpr ⟨lw_p73, List.forall_mem_cons.mpr ⟨lw_p74, fun _ h => absurd h List.not_mem_nil⟩⟩⟩⟩⟩⟩⟩⟩⟩⟩⟩
def lw_privs : List (MethodName × Nat) := lw_privs_1 ++ (lw_privs_2 ++ (lw_privs_3 ++ (lw_privs_4 ++ (lw_privs_5))))
def lw_tbl : List Cond := k2_sels lw_privs ++ tables_1
theorem lw_privs_ok : ∀ q ∈ lw_privs, lw_okq q := by
  show ∀ q ∈ lw_privs_1 ++ (lw_privs_2 ++ (lw_privs_3 ++ (lw_privs_4 ++ (lw_privs_5)))), lw_okq q
  exact List.forall_mem_append.mpr ⟨lw_r1, List.forall_mem_append.mpr ⟨lw_r2, List.forall_mem_append.mpr ⟨lw_r3, List.forall_mem_append.mpr ⟨lw_r4, lw_r5⟩⟩⟩⟩
-- ===== end of PART A; then your names; then what follows =====
end
section
/-! The mini: a small interpreter over a heap of any kind (a list of cells; later: two functions). A reference is the place of its cell. -/
abbrev mE : Type := (Nat × vp_A) ⊕ (Nat × List Value)
abbrev mH : Type := List mE
abbrev mL : Type := List (Option Value)
/-- what stands at a pc: the instruction, the next pc, three numbers (target; class, slot; method, how many values, receiver's class), a constant -/
abbrev mI : Type := Instr × Nat × Nat × Nat × Nat × Value
abbrev mB : Type := List (Nat × mI)
abbrev mS (α : Type) : Type := Nat × mL × List Value × α
abbrev mA (α : Type) : Type := Option Value × α
/-- getfield, putfield, load, store, length, new, newarray, 'is of this class' -/
abbrev mOp (α : Type) : Type := (Nat → Nat → Nat → α → Option Value) × (Nat → Nat → Nat → Value → α → Option α) × (Nat → Nat → Int32 → α → Option Value) × (Nat → Nat → Int32 → Value → α → Option α) × (Nat → α → Option Int32) × (Nat → α → Option (Nat × α)) × (Nat → Int32 → α → Option (Nat × α)) × (Nat → Nat → α → Bool)
def mi_lk : mB → Nat → Option mI
  | [], _ => none
  | q :: r, pc => bif Nat.beq q.1 pc then some q.2 else mi_lk r pc
/-- no two-place value right below place i -/
def mi_nl (ls : mL) (i : Nat) : Bool := match i with
  | 0 => true
  | k + 1 => match ls[k]? with
    | some (some v) => Nat.beq v.category 1
    | _ => true
def mi_s1 (ls : mL) (i : Nat) (v : Value) : Option mL := bif Nat.blt i ls.length && mi_nl ls i then some (ls.set i (some v)) else none
def mi_s2 (ls : mL) (i : Nat) (v : Value) : Option mL := bif Nat.blt (i + 1) ls.length && mi_nl ls i then some ((ls.set i (some v)).set (i + 1) none) else none
def mi_tgt (pc : Nat) (off : Int) : Option Nat := match (pc : Int) + off with
  | .ofNat t => some t
  | .negSucc _ => none
def mi_isI : Value → Bool
  | .int _ => true
  | _ => false
def mi_isL : Value → Bool
  | .long _ => true
  | _ => false
def mi_isA : Value → Bool
  | .ref _ => true
  | _ => false
abbrev mP : Type := Nat × mL × List Value
def mi_ld (nx k : Nat) (ok : Value → Bool) (ls : mL) (st : List Value) : Option mP := match ls[k]? with
  | some (some v) => bif ok v then some (nx, ls, v :: st) else none
  | _ => none
def mi_sv (nx k : Nat) (ok : Value → Bool) (ls : mL) (st : List Value) : Option mP := match st with
  | v :: r => bif ok v then (match mi_s1 ls k v with
    | some l1 => some (nx, l1, r)
    | none => none) else none
  | [] => none
def mi_sv2 (nx k : Nat) (ls : mL) (st : List Value) : Option mP := match st with
  | v :: r => bif mi_isL v then (match mi_s2 ls k v with
    | some l1 => some (nx, l1, r)
    | none => none) else none
  | [] => none
def mi_b1 (f : Int32 → Int32 → Int32) (nx : Nat) (ls : mL) (st : List Value) : Option mP := match st with
  | .int y :: .int x :: r => some (nx, ls, .int (f x y) :: r)
  | _ => none
def mi_b2 (f : Int64 → Int64 → Int64) (nx : Nat) (ls : mL) (st : List Value) : Option mP := match st with
  | .long y :: .long x :: r => some (nx, ls, .long (f x y) :: r)
  | _ => none
def mi_b3 (f : Int64 → Int32 → Int64) (nx : Nat) (ls : mL) (st : List Value) : Option mP := match st with
  | .int y :: .long x :: r => some (nx, ls, .long (f x y) :: r)
  | _ => none
def mi_d1 (f : Int32 → Int32 → Int32) (nx : Nat) (ls : mL) (st : List Value) : Option mP := match st with
  | .int y :: .int x :: r => bif decide (y = 0) then none else some (nx, ls, .int (f x y) :: r)
  | _ => none
def mi_d2 (f : Int64 → Int64 → Int64) (nx : Nat) (ls : mL) (st : List Value) : Option mP := match st with
  | .long y :: .long x :: r => bif decide (y = 0) then none else some (nx, ls, .long (f x y) :: r)
  | _ => none
def mi_u1 (f : Int32 → Value) (nx : Nat) (ls : mL) (st : List Value) : Option mP := match st with
  | .int x :: r => some (nx, ls, f x :: r)
  | _ => none
def mi_u2 (f : Int64 → Value) (nx : Nat) (ls : mL) (st : List Value) : Option mP := match st with
  | .long x :: r => some (nx, ls, f x :: r)
  | _ => none
def mi_c0 (cd : Jvm.ClassFile.Cond) (x : Int32) : Bool := match cd with
  | .eq => decide (x = 0)
  | .ne => decide (¬ x = 0)
  | .lt => decide (x < 0)
  | .ge => decide (0 ≤ x)
  | .gt => decide (0 < x)
  | .le => decide (x ≤ 0)
def mi_c2 (cd : Jvm.ClassFile.Cond) (x y : Int32) : Bool := match cd with
  | .eq => decide (x = y)
  | .ne => decide (¬ x = y)
  | .lt => decide (x < y)
  | .ge => decide (y ≤ x)
  | .gt => decide (y < x)
  | .le => decide (x ≤ y)
def mi_is1 (v : Value) : Bool := Nat.beq v.category 1
def mi_sw (d lo hi : Int) (offs : Array Int) (x : Int32) : Option Int := bif decide (x.toInt < lo) || decide (hi < x.toInt) then some d else offs[(x.toInt - lo).toNat]?
/-- an instruction that looks at no cell -/
def mi_pl (i : Instr) (pc nx a : Nat) (w : Value) (ls : mL) (st : List Value) : Option mP := match i with
  | .iconst _ => some (nx, ls, w :: st)
  | .bipush _ => some (nx, ls, w :: st)
  | .sipush _ => some (nx, ls, w :: st)
  | .lconst _ => some (nx, ls, w :: st)
  | .ldc _ => some (nx, ls, w :: st)
  | .ldc_w _ => some (nx, ls, w :: st)
  | .ldc2_w _ => some (nx, ls, w :: st)
  | .iload k => mi_ld nx k mi_isI ls st
  | .iload_n k => mi_ld nx k.val mi_isI ls st
  | .lload k => mi_ld nx k mi_isL ls st
  | .lload_n k => mi_ld nx k.val mi_isL ls st
  | .aload k => mi_ld nx k mi_isA ls st
  | .aload_n k => mi_ld nx k.val mi_isA ls st
  | .istore k => mi_sv nx k mi_isI ls st
  | .istore_n k => mi_sv nx k.val mi_isI ls st
  | .astore k => mi_sv nx k mi_isA ls st
  | .astore_n k => mi_sv nx k.val mi_isA ls st
  | .lstore k => mi_sv2 nx k ls st
  | .lstore_n k => mi_sv2 nx k.val ls st
  | .iinc k _ => match ls[k]?, w with
    | some (some (.int x)), .int z => (match mi_s1 ls k (.int (x + z)) with
      | some l1 => some (nx, l1, st)
      | none => none)
    | _, _ => none
  | .iadd => mi_b1 (fun x y => x + y) nx ls st
  | .isub => mi_b1 (fun x y => x - y) nx ls st
  | .imul => mi_b1 (fun x y => x * y) nx ls st
  | .iand => mi_b1 (fun x y => x &&& y) nx ls st
  | .ior => mi_b1 (fun x y => x ||| y) nx ls st
  | .ixor => mi_b1 (fun x y => x ^^^ y) nx ls st
  | .ishl => mi_b1 (fun x y => x <<< (y &&& 31)) nx ls st
  | .ishr => mi_b1 (fun x y => x >>> (y &&& 31)) nx ls st
  | .idiv => mi_d1 (fun x y => x / y) nx ls st
  | .irem => mi_d1 (fun x y => x - x / y * y) nx ls st
  | .ineg => mi_u1 (fun x => .int (-x)) nx ls st
  | .i2l => mi_u1 (fun x => .long x.toInt64) nx ls st
  | .i2c => mi_u1 (fun x => .int (x.toUInt32 % 65536).toInt32) nx ls st
  | .l2i => mi_u2 (fun x => .int x.toInt32) nx ls st
  | .ladd => mi_b2 (fun x y => x + y) nx ls st
  | .lsub => mi_b2 (fun x y => x - y) nx ls st
  | .lmul => mi_b2 (fun x y => x * y) nx ls st
  | .land => mi_b2 (fun x y => x &&& y) nx ls st
  | .lor => mi_b2 (fun x y => x ||| y) nx ls st
  | .ldiv => mi_d2 (fun x y => x / y) nx ls st
  | .lrem => mi_d2 (fun x y => x - x / y * y) nx ls st
  | .lshl => mi_b3 (fun x y => x <<< (y.toInt64 &&& 63)) nx ls st
  | .lshr => mi_b3 (fun x y => x >>> (y.toInt64 &&& 63)) nx ls st
  | .lcmp => match st with
    | .long y :: .long x :: r => some (nx, ls, .int (lg_cmp x y) :: r)
    | _ => none
  | .dup => match st with
    | v :: r => bif mi_is1 v then some (nx, ls, v :: v :: r) else none
    | _ => none
  | .pop => match st with
    | v :: r => bif mi_is1 v then some (nx, ls, r) else none
    | _ => none
  | .dup_x1 => match st with
    | v :: u :: r => bif mi_is1 v && mi_is1 u then some (nx, ls, v :: u :: v :: r) else none
    | _ => none
  | .dup_x2 => match st with
    | v :: u :: t :: r => bif mi_is1 v && (mi_is1 u && mi_is1 t) then some (nx, ls, v :: u :: t :: v :: r) else none
    | _ => none
  | .dup2 => match st with
    | v :: u :: r => bif mi_is1 v && mi_is1 u then some (nx, ls, v :: u :: v :: u :: r) else none
    | _ => none
  | .goto _ => some (a, ls, st)
  | .ifCond cd _ => match st with
    | .int x :: r => some (bif mi_c0 cd x then a else nx, ls, r)
    | _ => none
  | .if_icmp cd _ => match st with
    | .int y :: .int x :: r => some (bif mi_c2 cd x y then a else nx, ls, r)
    | _ => none
  | .tableswitch d lo hi offs => match st with
    | .int x :: r => (match mi_sw d lo hi offs x with
      | some off => (match mi_tgt pc off with
        | some t => some (t, ls, r)
        | none => none)
      | none => none)
    | _ => none
  | _ => none
section MH
variable {α : Type}
def mi_al (O : mOp α) (t : Nat) (st : List Value) (h : α) : Option (List Value × α) := match st with
  | .int i :: .ref q :: r => (match O.2.2.1 t q i h with
    | some v => some (v :: r, h)
    | none => none)
  | _ => none
def mi_as (O : mOp α) (t : Nat) (st : List Value) (h : α) : Option (List Value × α) := match st with
  | v :: .int i :: .ref q :: r => (match O.2.2.2.1 t q i v h with
    | some h1 => some (r, h1)
    | none => none)
  | _ => none
/-- an instruction that looks at a cell -/
def mi_hp (O : mOp α) (i : Instr) (a b : Nat) (st : List Value) (h : α) : Option (List Value × α) := match i with
  | .getfield _ => match st with
    | .ref q :: r => (match O.1 a b q h with
      | some v => some (v :: r, h)
      | none => none)
    | _ => none
  | .putfield _ => match st with
    | v :: .ref q :: r => (match O.2.1 a b q v h with
      | some h1 => some (r, h1)
      | none => none)
    | _ => none
  | .iaload => mi_al O 0 st h
  | .caload => mi_al O 1 st h
  | .baload => mi_al O 2 st h
  | .laload => mi_al O 3 st h
  | .iastore => mi_as O 0 st h
  | .castore => mi_as O 1 st h
  | .bastore => mi_as O 2 st h
  | .lastore => mi_as O 3 st h
  | .arraylength => match st with
    | .ref q :: r => (match O.2.2.2.2.1 q h with
      | some n => some (.int n :: r, h)
      | none => none)
    | _ => none
  | .new _ => match O.2.2.2.2.2.1 a h with
    | some (q, h1) => some (.ref q :: st, h1)
    | none => none
  | .newarray _ => match st with
    | .int n :: r => (match O.2.2.2.2.2.2.1 a n h with
      | some (q, h1) => some (.ref q :: r, h1)
      | none => none)
    | _ => none
  | _ => none
/-- which kind: looks at no cell, looks at a cell, a call, a return -/
def mi_kd : Instr → Bool × Bool
  | .getfield _ => (false, true)
  | .putfield _ => (false, true)
  | .iaload => (false, true)
  | .caload => (false, true)
  | .baload => (false, true)
  | .laload => (false, true)
  | .iastore => (false, true)
  | .castore => (false, true)
  | .bastore => (false, true)
  | .lastore => (false, true)
  | .arraylength => (false, true)
  | .new _ => (false, true)
  | .newarray _ => (false, true)
  | .invokevirtual _ => (true, false)
  | .invokespecial _ => (true, false)
  | .invokestatic _ => (true, false)
  | .ireturn => (true, true)
  | .lreturn => (true, true)
  | .return_ => (true, true)
  | _ => (false, false)
def mi_take : Nat → List Value → List Value → Option (List Value × List Value)
  | 0, acc, r => some (acc, r)
  | n + 1, acc, v :: r => mi_take n (v :: acc) r
  | _ + 1, _, [] => none
def mi_cats : List Value → Nat
  | [] => 0
  | v :: r => v.category + mi_cats r
/-- is the first value a reference to a cell of that class (99: not asked; 98: a reference)? -/
def mi_rc (O : mOp α) (c : Nat) (as : List Value) (h : α) : Bool := bif Nat.beq c 99 then true else match as with
  | .ref q :: _ => bif Nat.beq c 98 then true else O.2.2.2.2.2.2.2 c q h
  | _ => false
def mi_cl (O : mOp α) (PR cal : Nat → List Value → α → Option (mA α)) (nx a b c : Nat) (ls : mL) (st : List Value) (h : α) : Option (mS α) := match mi_take b [] st with
  | some (as, r) => bif Nat.ble (mi_cats r) 8 && mi_rc O c as h then (match (bif Nat.blt a 1000 then cal a as h else PR a as h) with
    | some (v, h1) => some (nx, ls, v.toList ++ r, h1)
    | none => none) else none
  | none => none
def mi_nr (ty : FieldType) (v : Int32) : Bool := match ty with
  | .int => true
  | .boolean => decide (v = 0) || decide (v = 1)
  | _ => false
def mi_re (i : Instr) (ret : Option FieldType) (st : List Value) (h : α) : Option (mA α) := match i with
  | .ireturn => match st, ret with
    | [.int v], some ty => bif mi_nr ty v then some (some (.int v), h) else none
    | _, _ => none
  | .lreturn => match st, ret with
    | [.long v], some .long => some (some (.long v), h)
    | _, _ => none
  | .return_ => match st, ret with
    | [], none => some (none, h)
    | _, _ => none
  | _ => none
/-- one instruction -/
def mi_one (O : mOp α) (PR cal : Nat → List Value → α → Option (mA α)) (tb : mB) (ret : Option FieldType) (s : mS α) : Option (mS α ⊕ mA α) := match mi_lk tb s.1 with
  | none => none
  | some q => match mi_kd q.1 with
    | (false, false) => (match mi_pl q.1 s.1 q.2.1 q.2.2.1 q.2.2.2.2.2 s.2.1 s.2.2.1 with
      | some x => some (.inl (x.1, x.2.1, x.2.2, s.2.2.2))
      | none => none)
    | (false, true) => (match mi_hp O q.1 q.2.2.1 q.2.2.2.1 s.2.2.1 s.2.2.2 with
      | some x => some (.inl (q.2.1, s.2.1, x.1, x.2))
      | none => none)
    | (true, false) => (match mi_cl O PR cal q.2.1 q.2.2.1 q.2.2.2.1 q.2.2.2.2.1 s.2.1 s.2.2.1 s.2.2.2 with
      | some x => some (.inl x)
      | none => none)
    | (true, true) => (match mi_re q.1 ret s.2.2.1 s.2.2.2 with
      | some x => some (.inr x)
      | none => none)
def mi_ex (O : mOp α) (PR cal : Nat → List Value → α → Option (mA α)) (tb : mB) (ret : Option FieldType) : Nat → mS α → Option (mA α)
  | 0, _ => none
  | n + 1, s => match mi_one O PR cal tb ret s with
    | some (.inl s1) => mi_ex O PR cal tb ret n s1
    | some (.inr r) => some r
    | none => none
/-- the locals at a method's start -/
def mi_fl (as : List Value) : mL := match as with
  | [] => []
  | v :: r => bif Nat.beq v.category 2 then some v :: none :: mi_fl r else some v :: mi_fl r
def mi_ent (nL : Nat) (as : List Value) : mL := mi_fl as ++ List.replicate (nL - (mi_fl as).length) none
/-- a method: its code, how many places its locals have, what it answers -/
abbrev mM : Type := mB × Nat × Option FieldType
def mi_run (O : mOp α) (PR : Nat → List Value → α → Option (mA α)) (M : List mM) : Nat → Nat → Nat → List Value → α → Option (mA α)
  | 0, _, _, _, _ => none
  | d + 1, n, j, as, h => match M[j]? with
    | some q => bif Nat.ble (mi_fl as).length q.2.1 then mi_ex O PR (mi_run O PR M d n) q.1 q.2.2 n (0, mi_ent q.2.1 as, [], h) else none
    | none => none
def mi_T (O : mOp α) (PR : Nat → List Value → α → Option (mA α)) (M : List mM) (d : Nat) (tb : mB) (ret : Option FieldType) (s : mS α) (r : mA α) : Prop := ∃ n, mi_ex O PR (mi_run O PR M d n) tb ret n s = some r
def mi_R (O : mOp α) (PR : Nat → List Value → α → Option (mA α)) (M : List mM) (d j : Nat) (as : List Value) (h : α) (r : mA α) : Prop := ∃ n, mi_run O PR M d n j as h = some r
variable {O : mOp α} {PR : Nat → List Value → α → Option (mA α)} {M : List mM} {tb : mB} {ret : Option FieldType}
theorem mi_cl_mono {cal cal' : Nat → List Value → α → Option (mA α)} (hc : ∀ j as h r, cal j as h = some r → cal' j as h = some r) {nx a b c : Nat} {ls : mL} {st : List Value} {h : α} {x : mS α} (e : mi_cl O PR cal nx a b c ls st h = some x) : mi_cl O PR cal' nx a b c ls st h = some x := by
  unfold mi_cl at e ⊢
  cases ht : mi_take b [] st with
  | none => rw [ht] at e; cases e
  | some q =>
    obtain ⟨as, r⟩ := q
    rw [ht] at e
    dsimp only at e ⊢
    cases hb : (Nat.ble (mi_cats r) 8 && mi_rc O c as h) with
    | false => rw [hb] at e; cases e
    | true =>
      rw [hb] at e
      dsimp only [cond_true] at e ⊢
      cases hk : Nat.blt a 1000 with
      | false => rw [hk] at e; exact e
      | true =>
        rw [hk] at e
        dsimp only [cond_true] at e ⊢
        cases hq : cal a as h with
        | none => rw [hq] at e; cases e
        | some y => rw [hq] at e; rw [hc _ _ _ _ hq]; exact e
theorem mi_one_mono {cal cal' : Nat → List Value → α → Option (mA α)} (hc : ∀ j as h r, cal j as h = some r → cal' j as h = some r) {s : mS α} {x : mS α ⊕ mA α} (e : mi_one O PR cal tb ret s = some x) : mi_one O PR cal' tb ret s = some x := by
  unfold mi_one at e ⊢
  cases hl : mi_lk tb s.1 with
  | none => rw [hl] at e; cases e
  | some q =>
    rw [hl] at e
    dsimp only at e ⊢
    match hk : mi_kd q.1 with
    | (false, false) => rw [hk] at e; exact e
    | (false, true) => rw [hk] at e; exact e
    | (true, false) =>
      rw [hk] at e
      try dsimp only at e ⊢
      cases hq : mi_cl O PR cal q.2.1 q.2.2.1 q.2.2.2.1 q.2.2.2.2.1 s.2.1 s.2.2.1 s.2.2.2 with
      | none => rw [hq] at e; cases e
      | some y => rw [hq] at e; rw [mi_cl_mono hc hq]; exact e
    | (true, true) => rw [hk] at e; exact e
theorem mi_ex_mono {cal cal' : Nat → List Value → α → Option (mA α)} (hc : ∀ j as h r, cal j as h = some r → cal' j as h = some r) : ∀ (n m : Nat) (s : mS α) (r : mA α), n ≤ m → mi_ex O PR cal tb ret n s = some r → mi_ex O PR cal' tb ret m s = some r := by
  intro n
  induction n with
  | zero => intro m s r _ e; cases e
  | succ n ih =>
    intro m s r hm e
    cases m with
    | zero => omega
    | succ m =>
      unfold mi_ex at e ⊢
      cases hq : mi_one O PR cal tb ret s with
      | none => rw [hq] at e; cases e
      | some y =>
        rw [hq] at e
        rw [mi_one_mono hc hq]
        cases y with
        | inl s1 => exact ih m s1 r (by omega) e
        | inr z => exact e
theorem mi_run_mono : ∀ (d n m : Nat), n ≤ m → ∀ (j : Nat) (as : List Value) (h : α) (r : mA α), mi_run O PR M d n j as h = some r → mi_run O PR M d m j as h = some r := by
  intro d
  induction d with
  | zero => intro n m _ j as h r e; cases e
  | succ d ih =>
    intro n m hm j as h r e
    unfold mi_run at e ⊢
    cases hq : M[j]? with
    | none => rw [hq] at e; cases e
    | some q =>
      rw [hq] at e
      dsimp only at e ⊢
      cases hb : Nat.ble (mi_fl as).length q.2.1 with
      | false => rw [hb] at e; cases e
      | true => rw [hb] at e; exact mi_ex_mono (ih n m hm) n m _ r hm e
theorem mi_run_deep : ∀ (d n : Nat) (j : Nat) (as : List Value) (h : α) (r : mA α), mi_run O PR M d n j as h = some r → mi_run O PR M (d + 1) n j as h = some r := by
  intro d
  induction d with
  | zero => intro n j as h r e; cases e
  | succ d ih =>
    intro n j as h r e
    unfold mi_run at e ⊢
    cases hq : M[j]? with
    | none => rw [hq] at e; cases e
    | some q =>
      rw [hq] at e
      dsimp only at e ⊢
      cases hb : Nat.ble (mi_fl as).length q.2.1 with
      | false => rw [hb] at e; cases e
      | true => rw [hb] at e; exact mi_ex_mono (ih n) n n _ r (Nat.le_refl _) e
theorem mi_R.deep {d j : Nat} {as : List Value} {h : α} {r : mA α} (e : mi_R O PR M d j as h r) : mi_R O PR M (d + 1) j as h r := by
  obtain ⟨n, e⟩ := e
  exact ⟨n, mi_run_deep d n j as h r e⟩
theorem mi_R.le {d d' j : Nat} {as : List Value} {h : α} {r : mA α} (hd : d ≤ d') (e : mi_R O PR M d j as h r) : mi_R O PR M d' j as h r := by
  induction hd with
  | refl => exact e
  | step _ ih => exact ih.deep
variable {d : Nat} {s s1 : mS α} {r : mA α}
theorem mi_T.step (h1 : ∀ cal, mi_one O PR cal tb ret s = some (.inl s1)) (k : mi_T O PR M d tb ret s1 r) : mi_T O PR M d tb ret s r := by
  obtain ⟨n, e⟩ := k
  refine ⟨n + 1, ?_⟩
  unfold mi_ex
  rw [h1]
  exact mi_ex_mono (mi_run_mono d n (n + 1) (by omega)) n n s1 r (Nat.le_refl _) e
theorem mi_T.done (h1 : ∀ cal, mi_one O PR cal tb ret s = some (.inr r)) : mi_T O PR M d tb ret s r := by
  refine ⟨1, ?_⟩
  unfold mi_ex
  rw [h1]
def mi_go (O : mOp α) (PR : Nat → List Value → α → Option (mA α)) (tb : mB) (ret : Option FieldType) : Nat → mS α → Option (mS α)
  | 0, s => some s
  | n + 1, s => match mi_one O PR (fun _ _ _ => none) tb ret s with
    | some (.inl s1) => mi_go O PR tb ret n s1
    | _ => none
theorem mi_T.go : ∀ (n : Nat) {s s1 : mS α}, mi_go O PR tb ret n s = some s1 → mi_T O PR M d tb ret s1 r → mi_T O PR M d tb ret s r := by
  intro n
  induction n with
  | zero => intro s s1 e k; cases e; exact k
  | succ n ih =>
    intro s s1 e k
    unfold mi_go at e
    cases hq : mi_one O PR (fun _ _ _ => none) tb ret s with
    | none => rw [hq] at e; cases e
    | some y =>
      rw [hq] at e
      cases y with
      | inl s2 => exact mi_T.step (fun cal => mi_one_mono (fun _ _ _ _ z => by cases z) hq) (ih e k)
      | inr z => cases e
theorem mi_T.br {P : Prop} [Decidable P] {t f : Nat} {ls : mL} {st : List Value} {h : α} (h1 : ∀ cal, mi_one O PR cal tb ret s = some (.inl (bif decide P then t else f, ls, st, h))) (kt : P → mi_T O PR M d tb ret (t, ls, st, h) r) (kf : ¬ P → mi_T O PR M d tb ret (f, ls, st, h) r) : mi_T O PR M d tb ret s r := by
  by_cases hp : P
  · exact mi_T.step (s1 := (t, ls, st, h)) (fun cal => by rw [h1, decide_eq_true hp]; rfl) (kt hp)
  · exact mi_T.step (s1 := (f, ls, st, h)) (fun cal => by rw [h1, decide_eq_false hp]; rfl) (kf hp)
/-- a call of a method of the table -/
theorem mi_T.call {pc nx j b c : Nat} {i : Instr} {w : Value} {ls : mL} {st rest as : List Value} {h h1 : α} {v : Option Value} (hl : mi_lk tb pc = some (i, nx, j, b, c, w)) (hk : mi_kd i = (true, false)) (ht : mi_take b [] st = some (as, rest)) (hj : (Nat.ble (mi_cats rest) 8 && mi_rc O c as h) = true) (hm : Nat.blt j 1000 = true)
    (hr : mi_R O PR M d j as h (v, h1)) (k : mi_T O PR M d tb ret (nx, ls, v.toList ++ rest, h1) r) : mi_T O PR M d tb ret (pc, ls, st, h) r := by
  obtain ⟨n1, e1⟩ := hr
  obtain ⟨n2, e2⟩ := k
  have e1' := mi_run_mono d n1 (n1 + n2 + 1) (by omega) _ _ _ _ e1
  have e2' := mi_ex_mono (mi_run_mono d n2 (n1 + n2 + 1) (by omega)) n2 (n1 + n2) _ _ (by omega) e2
  refine ⟨n1 + n2 + 1, ?_⟩
  unfold mi_ex
  have : mi_one O PR (mi_run O PR M d (n1 + n2 + 1)) tb ret (pc, ls, st, h) = some (.inl (nx, ls, v.toList ++ rest, h1)) := by
    unfold mi_one
    dsimp only
    rw [hl]
    dsimp only
    rw [hk]
    try dsimp only
    unfold mi_cl
    rw [ht]
    dsimp only
    rw [hj, hm]
    dsimp only [cond_true]
    rw [e1']
  rw [this]
  exact e2'
theorem mi_R.of {j : Nat} {as : List Value} {h : α} {q : mM} (hq : M[j]? = some q) (hb : Nat.ble (mi_fl as).length q.2.1 = true) (k : mi_T O PR M d q.1 q.2.2 (0, mi_ent q.2.1 as, [], h) r) : mi_R O PR M (d + 1) j as h r := by
  obtain ⟨n, e⟩ := k
  refine ⟨n, ?_⟩
  unfold mi_run
  rw [hq]
  dsimp only
  rw [hb]
  exact e
end MH
end
section
/-! Two kinds of heap for the mini: a list of cells, and (its shape being fixed) two functions; the second is a picture of the first. -/
def mi_in (i : Int32) (n : Nat) : Bool := !(decide (i < 0)) && Nat.blt i.toNatClampNeg n
def mi_fits (k : Nat) (v : Value) : Bool := match v with
  | .int _ => Nat.beq k 0
  | .long _ => Nat.beq k 1
  | .ref _ => Nat.beq k 2
  | _ => false
def mi_dv (k : Nat) : Value := bif Nat.beq k 0 then .int 0 else bif Nat.beq k 1 then .long 0 else .null
def mi_nar (t : Nat) (x : Int32) : Int32 := bif Nat.beq t 0 then x else bif Nat.beq t 1 then vp_nar .char x else vp_nar .boolean x
def mi_gf1 (ci f a : Nat) (h : mH) : Option Value := match h[a]? with
  | some (.inr (c, fs)) => bif Nat.beq c ci then fs[f]? else none
  | _ => none
def mi_pf1 (F : List (List Nat)) (ci f a : Nat) (v : Value) (h : mH) : Option mH := match h[a]? with
  | some (.inr (c, fs)) => bif Nat.beq c ci && (Nat.blt f fs.length && mi_fits ((F.getD ci []).getD f 9) v) then some (h.set a (.inr (c, fs.set f v))) else none
  | _ => none
def mi_ld1 (X : Nat × (Nat → Int32)) (t a : Nat) (i : Int32) (h : mH) : Option Value := bif Nat.beq a 999 then (bif Nat.beq t 0 && mi_in i X.1 then some (.int (X.2 i.toNatClampNeg)) else none) else match h[a]? with
  | some (.inl (u, n, .inl f)) => bif Nat.beq u t && (Nat.blt t 3 && mi_in i n) then some (.int (f i.toNatClampNeg)) else none
  | some (.inl (u, n, .inr (.inl f))) => bif Nat.beq u t && (Nat.beq t 3 && mi_in i n) then some (.long (f i.toNatClampNeg)) else none
  | _ => none
def mi_sa1 (t a : Nat) (i : Int32) (v : Value) (h : mH) : Option mH := match h[a]? with
  | some (.inl (u, n, .inl f)) => (match v with
    | .int x => bif Nat.beq u t && (Nat.blt t 3 && mi_in i n) then some (h.set a (.inl (u, n, .inl (upd f i.toNatClampNeg (mi_nar t x))))) else none
    | _ => none)
  | some (.inl (u, n, .inr (.inl f))) => (match v with
    | .long x => bif Nat.beq u t && (Nat.beq t 3 && mi_in i n) then some (h.set a (.inl (u, n, .inr (.inl (vp_updL f i.toNatClampNeg x))))) else none
    | _ => none)
  | _ => none
def mi_ln1 (X : Nat × (Nat → Int32)) (a : Nat) (h : mH) : Option Int32 := bif Nat.beq a 999 then some (Int32.ofNat X.1) else match h[a]? with
  | some (.inl (u, n, _)) => bif Nat.blt u 4 then some (Int32.ofNat n) else none
  | _ => none
def mi_nw1 (F : List (List Nat)) (ci : Nat) (h : mH) : Option (Nat × mH) := match F[ci]? with
  | some ks => bif Nat.blt h.length 900 then some (h.length, h ++ [.inr (ci, ks.map mi_dv)]) else none
  | none => none
def mi_na1 (t : Nat) (n : Int32) (h : mH) : Option (Nat × mH) := bif Nat.blt t 4 && (!(decide (n < 0)) && (Nat.ble n.toNatClampNeg 1000 && Nat.blt h.length 900)) then some (h.length, h ++ [.inl (t, n.toNatClampNeg, bif Nat.beq t 3 then .inr (.inl (fun _ => 0)) else .inl (fun _ => 0))]) else none
def mi_is1' (c q : Nat) (h : mH) : Bool := match h[q]? with
  | some (.inr (ci, _)) => Nat.beq ci c
  | _ => false
def mi_cq (x y n : Int32) (n0 n1 : Nat) : Bool := !(decide (x < 0)) && (!(decide (y < 0)) && (!(decide (n < 0)) && (Nat.ble (x.toNatClampNeg + n.toNatClampNeg) n0 && Nat.ble (y.toNatClampNeg + n.toNatClampNeg) n1)))
def mi_fc (f : Nat → Int32) (k n : Nat) : Bool := (List.range n).all (fun i => fits .char (.int (f (k + i))))
def mi_cp1 (a : Nat) (x : Int32) (b : Nat) (y n : Int32) (h : mH) : Option mH := match h[a]? with
  | some (.inl (u, n0, .inl f)) => (match h[b]? with
    | some (.inl (v, n1, .inl g)) => bif Nat.beq u 1 && (Nat.beq v 1 && (mi_cq x y n n0 n1 && mi_fc f x.toNatClampNeg n.toNatClampNeg)) then some (h.set b (.inl (v, n1, .inl (va_cpy f g x.toNatClampNeg y.toNatClampNeg n.toNatClampNeg)))) else none
    | _ => none)
  | _ => none
def mi_O1 (F : List (List Nat)) (X : Nat × (Nat → Int32)) : mOp mH := (mi_gf1, mi_pf1 F, mi_ld1 X, mi_sa1, mi_ln1 X, mi_nw1 F, mi_na1, mi_is1')
def mi_lit (L : List (List Int32)) (a : Nat) : Option (List Int32) := bif Nat.ble 1000 a then L[a - 1000]? else none
def mi_min (x y : Int32) : Int32 := if y < x then y else x
/-- Object.<init>, Math.min, System.arraycopy, String.length, String.charAt -/
def mi_pr {α : Type} (L : List (List Int32)) (cp : Nat → Int32 → Nat → Int32 → Int32 → α → Option α) (j : Nat) (as : List Value) (h : α) : Option (mA α) := bif Nat.beq j 1000 then (match as with
    | [.ref _] => some (none, h)
    | _ => none)
  else bif Nat.beq j 1001 then (match as with
    | [.int x, .int y] => some (some (.int (mi_min x y)), h)
    | _ => none)
  else bif Nat.beq j 1002 then (match as with
    | [.ref a, .int x, .ref b, .int y, .int n] => (match cp a x b y n h with
      | some h1 => some (none, h1)
      | none => none)
    | _ => none)
  else bif Nat.beq j 1003 then (match as with
    | [.ref a] => (match mi_lit L a with
      | some l => some (some (.int (Int32.ofNat l.length)), h)
      | none => none)
    | _ => none)
  else bif Nat.beq j 1004 then (match as with
    | [.ref a, .int i] => (match mi_lit L a with
      | some l => bif mi_in i l.length then some (some (.int (l.getD i.toNatClampNeg 0)), h) else none
      | none => none)
    | _ => none)
  else none
/-- the second kind: by cell and place, ints and longs -/
abbrev mG : Type := (Nat → Nat → Int32) × (Nat → Nat → Int64)
abbrev mF : Type := Nat ⊕ Bool
abbrev mK : Type := (Nat × Nat × Bool) ⊕ (Nat × List mF)
def mi_uc {β : Type} (I : Nat → Nat → β) (c : Nat) (g : Nat → β) : Nat → Nat → β := fun k => bif Nat.beq k c then g else I k
def mi_fv (σ : mG) (c j : Nat) (k : mF) : Value := match k with
  | .inl r => .ref r
  | .inr true => .int (σ.1 c j)
  | .inr false => .long (σ.2 c j)
def mi_fvs (σ : mG) (c : Nat) : Nat → List mF → List Value
  | _, [] => []
  | j, k :: ks => mi_fv σ c j k :: mi_fvs σ c (j + 1) ks
def mi_ce (σ : mG) (c : Nat) (k : mK) : mE := match k with
  | .inl (t, n, false) => .inl (t, n, .inl (σ.1 c))
  | .inl (t, n, true) => .inl (t, n, .inr (.inl (σ.2 c)))
  | .inr (ci, ks) => .inr (ci, mi_fvs σ c 0 ks)
def mi_rn (σ : mG) : Nat → List mK → mH
  | _, [] => []
  | c, k :: ks => mi_ce σ c k :: mi_rn σ (c + 1) ks
def mi_gf2 (sh : List mK) (ci f a : Nat) (σ : mG) : Option Value := match sh[a]? with
  | some (.inr (c, ks)) => bif Nat.beq c ci then (match ks[f]? with
    | some k => some (mi_fv σ a f k)
    | none => none) else none
  | _ => none
def mi_pf2 (F : List (List Nat)) (sh : List mK) (ci f a : Nat) (v : Value) (σ : mG) : Option mG := match sh[a]? with
  | some (.inr (c, ks)) => bif Nat.beq c ci && mi_fits ((F.getD ci []).getD f 9) v then (match ks[f]?, v with
    | some (.inr true), .int x => some (mi_uc σ.1 a (upd (σ.1 a) f x), σ.2)
    | some (.inr false), .long x => some (σ.1, mi_uc σ.2 a (vp_updL (σ.2 a) f x))
    | _, _ => none) else none
  | _ => none
def mi_ld2 (X : Nat × (Nat → Int32)) (sh : List mK) (t a : Nat) (i : Int32) (σ : mG) : Option Value := bif Nat.beq a 999 then (bif Nat.beq t 0 && mi_in i X.1 then some (.int (X.2 i.toNatClampNeg)) else none) else match sh[a]? with
  | some (.inl (u, n, false)) => bif Nat.beq u t && (Nat.blt t 3 && mi_in i n) then some (.int (σ.1 a i.toNatClampNeg)) else none
  | some (.inl (u, n, true)) => bif Nat.beq u t && (Nat.beq t 3 && mi_in i n) then some (.long (σ.2 a i.toNatClampNeg)) else none
  | _ => none
def mi_sa2 (sh : List mK) (t a : Nat) (i : Int32) (v : Value) (σ : mG) : Option mG := match sh[a]? with
  | some (.inl (u, n, false)) => (match v with
    | .int x => bif Nat.beq u t && (Nat.blt t 3 && mi_in i n) then some (mi_uc σ.1 a (upd (σ.1 a) i.toNatClampNeg (mi_nar t x)), σ.2) else none
    | _ => none)
  | some (.inl (u, n, true)) => (match v with
    | .long x => bif Nat.beq u t && (Nat.beq t 3 && mi_in i n) then some (σ.1, mi_uc σ.2 a (vp_updL (σ.2 a) i.toNatClampNeg x)) else none
    | _ => none)
  | _ => none
def mi_ln2 (X : Nat × (Nat → Int32)) (sh : List mK) (a : Nat) (_ : mG) : Option Int32 := bif Nat.beq a 999 then some (Int32.ofNat X.1) else match sh[a]? with
  | some (.inl (u, n, _)) => bif Nat.blt u 4 then some (Int32.ofNat n) else none
  | _ => none
def mi_is2 (sh : List mK) (c q : Nat) (_ : mG) : Bool := match sh[q]? with
  | some (.inr (ci, _)) => Nat.beq ci c
  | _ => false
def mi_cp2 (sh : List mK) (a : Nat) (x : Int32) (b : Nat) (y n : Int32) (σ : mG) : Option mG := match sh[a]? with
  | some (.inl (u, n0, false)) => (match sh[b]? with
    | some (.inl (v, n1, false)) => bif Nat.beq u 1 && (Nat.beq v 1 && (mi_cq x y n n0 n1 && mi_fc (σ.1 a) x.toNatClampNeg n.toNatClampNeg)) then some (mi_uc σ.1 b (va_cpy (σ.1 a) (σ.1 b) x.toNatClampNeg y.toNatClampNeg n.toNatClampNeg), σ.2) else none
    | _ => none)
  | _ => none
def mi_O2 (F : List (List Nat)) (X : Nat × (Nat → Int32)) (sh : List mK) : mOp mG := (mi_gf2 sh, mi_pf2 F sh, mi_ld2 X sh, mi_sa2 sh, mi_ln2 X sh, fun _ _ => none, fun _ _ _ => none, mi_is2 sh)
theorem mi_uc_same {β : Type} (I : Nat → Nat → β) (c : Nat) (g : Nat → β) : mi_uc I c g c = g := by simp [mi_uc]
theorem mi_uc_ne {β : Type} (I : Nat → Nat → β) {c k : Nat} (g : Nat → β) (h : k ≠ c) : mi_uc I c g k = I k := by
  have hb : Nat.beq k c = false := by
    cases h1 : Nat.beq k c with
    | false => rfl
    | true => exact absurd (Nat.eq_of_beq_eq_true h1) h
  unfold mi_uc
  rw [hb]
  rfl
/-! the picture -/
theorem mi_rn_at (σ : mG) : ∀ (sh : List mK) (c q : Nat), (mi_rn σ c sh)[q]? = (sh[q]?).map (mi_ce σ (c + q)) := by
  intro sh
  induction sh with
  | nil => intro c q; simp [mi_rn]
  | cons k ks ih =>
    intro c q
    cases q with
    | zero => simp [mi_rn]
    | succ q => simp [mi_rn, ih, Nat.add_assoc, Nat.add_comm 1 q]
theorem mi_rn_get {σ : mG} {sh : List mK} {q : Nat} {k : mK} (h : sh[q]? = some k) : (mi_rn σ 0 sh)[q]? = some (mi_ce σ q k) := by rw [mi_rn_at, h]; simp
theorem mi_fvs_at (σ : mG) (c : Nat) : ∀ (ks : List mF) (j f : Nat), (mi_fvs σ c j ks)[f]? = (ks[f]?).map (mi_fv σ c (j + f)) := by
  intro ks
  induction ks with
  | nil => intro j f; simp [mi_fvs]
  | cons k ks ih =>
    intro j f
    cases f with
    | zero => simp [mi_fvs]
    | succ f => simp [mi_fvs, ih, Nat.add_assoc, Nat.add_comm 1 f]
theorem mi_fvs_len (σ : mG) (c : Nat) : ∀ (ks : List mF) (j : Nat), (mi_fvs σ c j ks).length = ks.length := by
  intro ks
  induction ks with
  | nil => intro j; rfl
  | cons k ks ih => intro j; simp [mi_fvs, ih]
/-- a cell that is another one doesn't see the change -/
theorem mi_ce_ne {σ τ : mG} {c : Nat} (h1 : τ.1 c = σ.1 c) (h2 : τ.2 c = σ.2 c) (k : mK) : mi_ce τ c k = mi_ce σ c k := by
  have hf : ∀ (ks : List mF) (j : Nat), mi_fvs τ c j ks = mi_fvs σ c j ks := by
    intro ks
    induction ks with
    | nil => intro j; rfl
    | cons k ks ih =>
      intro j
      simp only [mi_fvs, ih]
      congr 1
      unfold mi_fv
      rw [h1, h2]
  rcases k with ⟨t, n, b⟩ | ⟨ci, ks⟩
  · cases b
    · simp only [mi_ce, h1]
    · simp only [mi_ce, h2]
  · simp only [mi_ce, hf]
theorem mi_rn_set {σ τ : mG} {sh : List mK} {q : Nat} {k : mK} {x : mE} (hk : sh[q]? = some k) (hx : mi_ce τ q k = x) (h1 : ∀ c, c ≠ q → τ.1 c = σ.1 c) (h2 : ∀ c, c ≠ q → τ.2 c = σ.2 c) : (mi_rn σ 0 sh).set q x = mi_rn τ 0 sh := by
  apply List.ext_getElem?
  intro j
  by_cases hj : q = j
  · subst hj
    rw [List.getElem?_set_self (List.getElem?_eq_some_iff.mp (mi_rn_get (σ := σ) hk)).1, mi_rn_get hk, hx]
  · rw [List.getElem?_set_ne hj, mi_rn_at, mi_rn_at]
    cases sh[j]? with
    | none => rfl
    | some k' =>
      simp only [Option.map_some, Nat.zero_add]
      rw [mi_ce_ne (h1 j (Ne.symm hj)) (h2 j (Ne.symm hj))]
def mi_rf {α β : Type} (f : α → β) (O : mOp α) (O' : mOp β) : Prop := (∀ a b q h v, O.1 a b q h = some v → O'.1 a b q (f h) = some v) ∧ (∀ a b q v h h1, O.2.1 a b q v h = some h1 → O'.2.1 a b q v (f h) = some (f h1)) ∧ (∀ t q i h v, O.2.2.1 t q i h = some v → O'.2.2.1 t q i (f h) = some v) ∧ (∀ t q i v h h1, O.2.2.2.1 t q i v h = some h1 → O'.2.2.2.1 t q i v (f h) = some (f h1)) ∧ (∀ q h n, O.2.2.2.2.1 q h = some n → O'.2.2.2.2.1 q (f h) = some n) ∧ (∀ a h q h1, O.2.2.2.2.2.1 a h = some (q, h1) → O'.2.2.2.2.2.1 a (f h) = some (q, f h1)) ∧ (∀ a n h q h1, O.2.2.2.2.2.2.1 a n h = some (q, h1) → O'.2.2.2.2.2.2.1 a n (f h) = some (q, f h1)) ∧ ∀ c q h, O.2.2.2.2.2.2.2 c q h = true → O'.2.2.2.2.2.2.2 c q (f h) = true
section RF
variable {α β : Type} {f : α → β} {O : mOp α} {O' : mOp β}
theorem mi_al_rf (R : mi_rf f O O') {t : Nat} {st st1 : List Value} {h h1 : α} (e : mi_al O t st h = some (st1, h1)) : mi_al O' t st (f h) = some (st1, f h1) := by
  unfold mi_al at e ⊢
  split at e
  · split at e
    · rename_i v hv
      cases e
      try dsimp only
      rw [R.2.2.1 _ _ _ _ _ hv]
    · cases e
  · cases e
theorem mi_as_rf (R : mi_rf f O O') {t : Nat} {st st1 : List Value} {h h1 : α} (e : mi_as O t st h = some (st1, h1)) : mi_as O' t st (f h) = some (st1, f h1) := by
  unfold mi_as at e ⊢
  split at e
  · split at e
    · rename_i v hv
      cases e
      try dsimp only
      rw [R.2.2.2.1 _ _ _ _ _ _ hv]
    · cases e
  · cases e
theorem mi_hp_rf (R : mi_rf f O O') {i : Instr} {a b : Nat} {st st1 : List Value} {h h1 : α} (e : mi_hp O i a b st h = some (st1, h1)) : mi_hp O' i a b st (f h) = some (st1, f h1) := by
  unfold mi_hp at e
  split at e
  · split at e
    · split at e
      · rename_i v hv
        cases e
        unfold mi_hp
        dsimp only
        rw [R.1 _ _ _ _ _ hv]
      · cases e
    · cases e
  · split at e
    · split at e
      · rename_i v hv
        cases e
        unfold mi_hp
        dsimp only
        rw [R.2.1 _ _ _ _ _ _ hv]
      · cases e
    · cases e
  · exact mi_al_rf R e
  · exact mi_al_rf R e
  · exact mi_al_rf R e
  · exact mi_al_rf R e
  · exact mi_as_rf R e
  · exact mi_as_rf R e
  · exact mi_as_rf R e
  · exact mi_as_rf R e
  · split at e
    · split at e
      · rename_i v hv
        cases e
        unfold mi_hp
        dsimp only
        rw [R.2.2.2.2.1 _ _ _ hv]
      · cases e
    · cases e
  · split at e
    · rename_i v hv
      cases e
      unfold mi_hp
      dsimp only
      rw [R.2.2.2.2.2.1 _ _ _ _ hv]
    · cases e
  · split at e
    · split at e
      · rename_i v hv
        cases e
        unfold mi_hp
        dsimp only
        rw [R.2.2.2.2.2.2.1 _ _ _ _ _ hv]
      · cases e
    · cases e
  · cases e
variable {PR cal : Nat → List Value → α → Option (mA α)} {PR' cal' : Nat → List Value → β → Option (mA β)}
abbrev mi_rc' (f : α → β) (cal : Nat → List Value → α → Option (mA α)) (cal' : Nat → List Value → β → Option (mA β)) : Prop := ∀ j as h v h1, cal j as h = some (v, h1) → cal' j as (f h) = some (v, f h1)
theorem mi_cl_rf (R : mi_rf f O O') (hp : mi_rc' f PR PR') (hc : mi_rc' f cal cal') {nx a b c : Nat} {ls : mL} {st : List Value} {h : α} {x : mS α} (e : mi_cl O PR cal nx a b c ls st h = some x) : mi_cl O' PR' cal' nx a b c ls st (f h) = some (x.1, x.2.1, x.2.2.1, f x.2.2.2) := by
  unfold mi_cl at e ⊢
  cases ht : mi_take b [] st with
  | none => rw [ht] at e; cases e
  | some q =>
    obtain ⟨as, r⟩ := q
    rw [ht] at e
    dsimp only at e ⊢
    cases hb : (Nat.ble (mi_cats r) 8 && mi_rc O c as h) with
    | false => rw [hb] at e; cases e
    | true =>
      rw [hb] at e
      dsimp only [cond_true] at e
      have hb' : (Nat.ble (mi_cats r) 8 && mi_rc O' c as (f h)) = true := by
        rw [Bool.and_eq_true] at hb ⊢
        refine ⟨hb.1, ?_⟩
        have h2 := hb.2
        unfold mi_rc at h2 ⊢
        cases hk : Nat.beq c 99 with
        | true => rfl
        | false =>
          rw [hk] at h2
          dsimp only [cond_false] at h2 ⊢
          split at h2
          · cases hk8 : Nat.beq c 98 with
            | true => rfl
            | false =>
              rw [hk8] at h2
              exact R.2.2.2.2.2.2.2 _ _ _ h2
          · cases h2
      rw [hb']
      dsimp only [cond_true]
      cases hk : Nat.blt a 1000 with
      | false =>
        rw [hk] at e
        dsimp only [cond_false] at e ⊢
        split at e
        · rename_i v h1 hv
          cases e
          rw [hp _ _ _ _ _ hv]
        · cases e
      | true =>
        rw [hk] at e
        dsimp only [cond_true] at e ⊢
        split at e
        · rename_i v h1 hv
          cases e
          rw [hc _ _ _ _ _ hv]
        · cases e
theorem mi_re_rf {i : Instr} {ret : Option FieldType} {st : List Value} {h : α} {x : mA α} (e : mi_re i ret st h = some x) : mi_re i ret st (f h) = some (x.1, f x.2) := by
  unfold mi_re at e
  split at e
  · split at e
    · cases hb : mi_nr _ _ with
      | false => rw [hb] at e; cases e
      | true =>
        rw [hb] at e
        cases e
        unfold mi_re
        dsimp only
        rw [hb]
        rfl
    · cases e
  · split at e
    · cases e
      rfl
    · cases e
  · split at e
    · cases e
      rfl
    · cases e
  · cases e
def mi_mp (f : α → β) (x : mS α ⊕ mA α) : mS β ⊕ mA β := match x with
  | .inl y => .inl (y.1, y.2.1, y.2.2.1, f y.2.2.2)
  | .inr y => .inr (y.1, f y.2)
theorem mi_one_rf (R : mi_rf f O O') (hp : mi_rc' f PR PR') (hc : mi_rc' f cal cal') {tb : mB} {ret : Option FieldType} {s : mS α} {x : mS α ⊕ mA α} (e : mi_one O PR cal tb ret s = some x) :
    mi_one O' PR' cal' tb ret (s.1, s.2.1, s.2.2.1, f s.2.2.2) = some (mi_mp f x) := by
  unfold mi_one at e ⊢
  dsimp only
  cases hl : mi_lk tb s.1 with
  | none => rw [hl] at e; cases e
  | some q =>
    rw [hl] at e
    dsimp only at e ⊢
    match hk : mi_kd q.1 with
    | (false, false) =>
      rw [hk] at e
      try dsimp only at e ⊢
      split at e
      · rename_i y hy
        cases e
        rfl
      · cases e
    | (false, true) =>
      rw [hk] at e
      try dsimp only at e ⊢
      split at e
      · rename_i y hy
        cases e
        obtain ⟨y1, y2⟩ := y
        rw [mi_hp_rf R hy]
        rfl
      · cases e
    | (true, false) =>
      rw [hk] at e
      try dsimp only at e ⊢
      split at e
      · rename_i y hy
        cases e
        rw [mi_cl_rf R hp hc hy]
        rfl
      · cases e
    | (true, true) =>
      rw [hk] at e
      try dsimp only at e ⊢
      split at e
      · rename_i y hy
        cases e
        rw [mi_re_rf hy]
        rfl
      · cases e
theorem mi_ex_rf (R : mi_rf f O O') (hp : mi_rc' f PR PR') (hc : mi_rc' f cal cal') {tb : mB} {ret : Option FieldType} : ∀ (n : Nat) (s : mS α) (x : mA α), mi_ex O PR cal tb ret n s = some x → mi_ex O' PR' cal' tb ret n (s.1, s.2.1, s.2.2.1, f s.2.2.2) = some (x.1, f x.2) := by
  intro n
  induction n with
  | zero => intro s x e; cases e
  | succ n ih =>
    intro s x e
    unfold mi_ex at e ⊢
    cases hq : mi_one O PR cal tb ret s with
    | none => rw [hq] at e; cases e
    | some y =>
      rw [hq] at e
      rw [mi_one_rf R hp hc hq]
      cases y with
      | inl s1 => exact ih s1 x e
      | inr z => cases e; rfl
theorem mi_run_rf (R : mi_rf f O O') (hp : mi_rc' f PR PR') {M : List mM} : ∀ (d n : Nat), mi_rc' f (mi_run O PR M d n) (mi_run O' PR' M d n) := by
  intro d
  induction d with
  | zero => intro n j as h v h1 e; cases e
  | succ d ih =>
    intro n j as h v h1 e
    unfold mi_run at e ⊢
    cases hq : M[j]? with
    | none => rw [hq] at e; cases e
    | some q =>
      rw [hq] at e
      dsimp only at e ⊢
      cases hb : Nat.ble (mi_fl as).length q.2.1 with
      | false => rw [hb] at e; cases e
      | true => rw [hb] at e; exact mi_ex_rf R hp (ih n) n _ _ e
theorem mi_T.rf (R : mi_rf f O O') (hp : mi_rc' f PR PR') {M : List mM} {d : Nat} {tb : mB} {ret : Option FieldType} {s : mS α} {r : mA α} (k : mi_T O PR M d tb ret s r) : mi_T O' PR' M d tb ret (s.1, s.2.1, s.2.2.1, f s.2.2.2) (r.1, f r.2) := by
  obtain ⟨n, e⟩ := k
  exact ⟨n, mi_ex_rf R hp (mi_run_rf R hp d n) n s r e⟩
theorem mi_R.rf (R : mi_rf f O O') (hp : mi_rc' f PR PR') {M : List mM} {d j : Nat} {as : List Value} {h : α} {r : mA α} (k : mi_R O PR M d j as h r) : mi_R O' PR' M d j as (f h) (r.1, f r.2) := by
  obtain ⟨n, e⟩ := k
  exact ⟨n, mi_run_rf R hp d n j as h r.1 r.2 e⟩
end RF
end
section
/-! The second kind of heap is a picture of the first; rows for its arrays. -/
theorem mi_fvs_set {σ τ : mG} {q f : Nat} {ks : List mF} {v : Value} {k : mF} (hk : ks[f]? = some k) (hv : mi_fv τ q f k = v) (h1 : ∀ j, j ≠ f → τ.1 q j = σ.1 q j) (h2 : ∀ j, j ≠ f → τ.2 q j = σ.2 q j) : mi_fvs τ q 0 ks = (mi_fvs σ q 0 ks).set f v := by
  apply List.ext_getElem?
  intro i
  have hl : f < (mi_fvs σ q 0 ks).length := by rw [mi_fvs_len]; exact (List.getElem?_eq_some_iff.mp hk).1
  by_cases hi : f = i
  · subst hi
    rw [List.getElem?_set_self hl, mi_fvs_at, hk, ← hv]
    simp
  · rw [List.getElem?_set_ne hi, mi_fvs_at, mi_fvs_at]
    cases ks[i]? with
    | none => rfl
    | some k' =>
      simp only [Option.map_some, Nat.zero_add, Option.some.injEq]
      rcases k' with r | b
      · rfl
      · cases b
        · simp only [mi_fv, h2 i (Ne.symm hi)]
        · simp only [mi_fv, h1 i (Ne.symm hi)]
theorem mi_upd_same (f : Nat → Int32) (k : Nat) (x : Int32) : upd f k x k = x := by simp [upd]
theorem mi_upd_ne (f : Nat → Int32) {k j : Nat} (x : Int32) (h : j ≠ k) : upd f k x j = f j := by simp [upd, h]
theorem mi_updL_same (f : Nat → Int64) (k : Nat) (x : Int64) : vp_updL f k x k = x := by simp [vp_updL]
theorem mi_updL_ne (f : Nat → Int64) {k j : Nat} (x : Int64) (h : j ≠ k) : vp_updL f k x j = f j := by simp [vp_updL, h]
theorem mi_rf_get {sh : List mK} (a b q : Nat) (σ : mG) (v : Value) (e : mi_gf2 sh a b q σ = some v) : mi_gf1 a b q (mi_rn σ 0 sh) = some v := by
  unfold mi_gf2 at e
  split at e
  · rename_i c ks hk
    cases hb : Nat.beq c a with
    | false => rw [hb] at e; cases e
    | true =>
      rw [hb] at e
      dsimp only [cond_true] at e
      split at e
      · rename_i k hf
        cases e
        unfold mi_gf1
        rw [mi_rn_get hk]
        simp only [mi_ce, hb, cond_true, mi_fvs_at, hf, Option.map_some, Nat.zero_add]
      · cases e
  · cases e
theorem mi_rf_put {F : List (List Nat)} {sh : List mK} (a b q : Nat) (v : Value) (σ τ : mG) (e : mi_pf2 F sh a b q v σ = some τ) : mi_pf1 F a b q v (mi_rn σ 0 sh) = some (mi_rn τ 0 sh) := by
  unfold mi_pf2 at e
  split at e
  · rename_i c ks hk
    cases hb : (Nat.beq c a && mi_fits ((F.getD a []).getD b 9) v) with
    | false => rw [hb] at e; cases e
    | true =>
      rw [hb] at e
      dsimp only [cond_true] at e
      rw [Bool.and_eq_true] at hb
      have main : ∀ (k : mF), ks[b]? = some k → mi_fv τ q b k = v → (∀ c, c ≠ q → τ.1 c = σ.1 c) → (∀ c, c ≠ q → τ.2 c = σ.2 c) → (∀ j, j ≠ b → τ.1 q j = σ.1 q j) → (∀ j, j ≠ b → τ.2 q j = σ.2 q j) → mi_pf1 F a b q v (mi_rn σ 0 sh) = some (mi_rn τ 0 sh) := by
        intro k hf hv g1 g2 g3 g4
        unfold mi_pf1
        rw [mi_rn_get hk]
        have hl : Nat.blt b (mi_fvs σ q 0 ks).length = true := by
          rw [mi_fvs_len, Nat.blt_eq]
          exact (List.getElem?_eq_some_iff.mp hf).1
        simp only [mi_ce, hb.1, hb.2, hl, Bool.and_self, cond_true, Option.some.injEq]
        exact mi_rn_set hk (by rw [mi_ce, mi_fvs_set hf hv g3 g4]) g1 g2
      split at e
      · rename_i x hf
        cases e
        exact main _ hf (by simp [mi_fv, mi_uc_same, mi_upd_same]) (fun c h => mi_uc_ne _ _ h) (fun _ _ => rfl) (fun j h => by simp [mi_uc_same, mi_upd_ne _ _ h]) (fun _ _ => rfl)
      · rename_i x hf
        cases e
        exact main _ hf (by simp [mi_fv, mi_uc_same, mi_updL_same]) (fun _ _ => rfl) (fun c h => mi_uc_ne _ _ h) (fun _ _ => rfl) (fun j h => by simp [mi_uc_same, mi_updL_ne _ _ h])
      · cases e
  · cases e
theorem mi_rf_ld {X : Nat × (Nat → Int32)} {sh : List mK} (t q : Nat) (i : Int32) (σ : mG) (v : Value) (e : mi_ld2 X sh t q i σ = some v) : mi_ld1 X t q i (mi_rn σ 0 sh) = some v := by
  unfold mi_ld2 at e
  unfold mi_ld1
  cases hb : Nat.beq q 999 with
  | true => rw [hb] at e; exact e
  | false =>
    rw [hb] at e
    dsimp only [cond_false] at e ⊢
    split at e
    · rename_i u n hk
      rw [mi_rn_get hk]
      exact e
    · rename_i u n hk
      rw [mi_rn_get hk]
      exact e
    · cases e
theorem mi_rf_sa {sh : List mK} (t q : Nat) (i : Int32) (v : Value) (σ τ : mG) (e : mi_sa2 sh t q i v σ = some τ) : mi_sa1 t q i v (mi_rn σ 0 sh) = some (mi_rn τ 0 sh) := by
  unfold mi_sa2 at e
  unfold mi_sa1
  split at e
  · rename_i u n hk
    rw [mi_rn_get hk]
    dsimp only [mi_ce]
    split at e
    · rename_i x
      cases hb : (Nat.beq u t && (Nat.blt t 3 && mi_in i n)) with
      | false => rw [hb] at e; cases e
      | true =>
        rw [hb] at e
        dsimp only [cond_true] at e ⊢
        cases e
        rw [mi_rn_set hk (τ := (mi_uc σ.1 q (upd (σ.1 q) i.toNatClampNeg (mi_nar t x)), σ.2)) (by simp [mi_ce, mi_uc_same]) (fun c h => mi_uc_ne _ _ h) (fun _ _ => rfl)]
    · cases e
  · rename_i u n hk
    rw [mi_rn_get hk]
    dsimp only [mi_ce]
    split at e
    · rename_i x
      cases hb : (Nat.beq u t && (Nat.beq t 3 && mi_in i n)) with
      | false => rw [hb] at e; cases e
      | true =>
        rw [hb] at e
        dsimp only [cond_true] at e ⊢
        cases e
        rw [mi_rn_set (σ := σ) hk (τ := (σ.1, mi_uc σ.2 q (vp_updL (σ.2 q) i.toNatClampNeg x))) (by simp [mi_ce, mi_uc_same]) (fun _ _ => rfl) (fun c h => mi_uc_ne _ _ h)]
    · cases e
  · cases e
theorem mi_rf_ln {X : Nat × (Nat → Int32)} {sh : List mK} (q : Nat) (σ : mG) (n : Int32) (e : mi_ln2 X sh q σ = some n) : mi_ln1 X q (mi_rn σ 0 sh) = some n := by
  unfold mi_ln2 at e
  unfold mi_ln1
  cases hb : Nat.beq q 999 with
  | true => rw [hb] at e; exact e
  | false =>
    rw [hb] at e
    dsimp only [cond_false] at e ⊢
    split at e
    · rename_i u n b hk
      rw [mi_rn_get hk]
      cases b <;> exact e
    · cases e
theorem mi_rf_is {sh : List mK} (c q : Nat) (σ : mG) (e : mi_is2 sh c q σ = true) : mi_is1' c q (mi_rn σ 0 sh) = true := by
  unfold mi_is2 at e
  unfold mi_is1'
  split at e
  · rename_i ci ks hk
    rw [mi_rn_get hk]
    exact e
  · cases e
theorem mi_rf_cp {sh : List mK} (a : Nat) (x : Int32) (b : Nat) (y n : Int32) (σ τ : mG) (e : mi_cp2 sh a x b y n σ = some τ) : mi_cp1 a x b y n (mi_rn σ 0 sh) = some (mi_rn τ 0 sh) := by
  unfold mi_cp2 at e
  unfold mi_cp1
  split at e
  · rename_i u n0 hk
    rw [mi_rn_get hk]
    dsimp only [mi_ce]
    split at e
    · rename_i v n1 hk1
      rw [mi_rn_get hk1]
      dsimp only [mi_ce]
      cases hb : (Nat.beq u 1 && (Nat.beq v 1 && (mi_cq x y n n0 n1 && mi_fc (σ.1 a) x.toNatClampNeg n.toNatClampNeg))) with
      | false => rw [hb] at e; cases e
      | true =>
        rw [hb] at e
        dsimp only [cond_true] at e ⊢
        cases e
        rw [mi_rn_set hk1 (τ := (mi_uc σ.1 b (va_cpy (σ.1 a) (σ.1 b) x.toNatClampNeg y.toNatClampNeg n.toNatClampNeg), σ.2)) (by simp [mi_ce, mi_uc_same]) (fun c h => mi_uc_ne _ _ h) (fun _ _ => rfl)]
    · cases e
  · cases e
theorem mi_rf21 (F : List (List Nat)) (X : Nat × (Nat → Int32)) (sh : List mK) : mi_rf (fun σ => mi_rn σ 0 sh) (mi_O2 F X sh) (mi_O1 F X) := ⟨mi_rf_get, mi_rf_put, mi_rf_ld, mi_rf_sa, mi_rf_ln, (fun a h q h1 e => by cases e), (fun a n h q h1 e => by cases e), mi_rf_is⟩
theorem mi_pr_rf {α β : Type} {f : α → β} {L : List (List Int32)} {cp : Nat → Int32 → Nat → Int32 → Int32 → α → Option α} {cp' : Nat → Int32 → Nat → Int32 → Int32 → β → Option β} (hcp : ∀ a x b y n h h1, cp a x b y n h = some h1 → cp' a x b y n (f h) = some (f h1)) : mi_rc' f (mi_pr L cp) (mi_pr L cp') := by
  intro j as h v h1 e
  unfold mi_pr at e ⊢
  cases hb0 : Nat.beq j 1000 with
  | true =>
    rw [hb0] at e
    dsimp only [cond_true] at e ⊢
    split at e
    · cases e; rfl
    · cases e
  | false =>
    rw [hb0] at e
    dsimp only [cond_false] at e ⊢
    cases hb1 : Nat.beq j 1001 with
    | true =>
      rw [hb1] at e
      dsimp only [cond_true] at e ⊢
      split at e
      · cases e; rfl
      · cases e
    | false =>
      rw [hb1] at e
      dsimp only [cond_false] at e ⊢
      cases hb2 : Nat.beq j 1002 with
      | true =>
        rw [hb2] at e
        dsimp only [cond_true] at e ⊢
        split at e
        · split at e
          · rename_i h2 hh
            cases e
            try dsimp only
            rw [hcp _ _ _ _ _ _ _ hh]
          · cases e
        · cases e
      | false =>
        rw [hb2] at e
        dsimp only [cond_false] at e ⊢
        cases hb3 : Nat.beq j 1003 with
        | true =>
          rw [hb3] at e
          dsimp only [cond_true] at e ⊢
          split at e
          · split at e
            · rename_i l hh
              cases e
              try dsimp only
              try rw [hh]
            · cases e
          · cases e
        | false =>
          rw [hb3] at e
          dsimp only [cond_false] at e ⊢
          cases hb4 : Nat.beq j 1004 with
          | true =>
            rw [hb4] at e
            dsimp only [cond_true] at e ⊢
            split at e
            · split at e
              · rename_i i _ l hh
                try dsimp only
                try rw [hh]
                try dsimp only
                cases hi : mi_in i l.length with
                | true => rw [hi] at e; cases e; rfl
                | false => rw [hi] at e; cases e
              · cases e
            · cases e
          | false => rw [hb4] at e; cases e
section T2
variable {α : Type} {O : mOp α} {PR : Nat → List Value → α → Option (mA α)} {M : List mM} {tb : mB} {ret : Option FieldType} {d : Nat} {r : mA α} {pc nx a b c : Nat} {i : Instr} {w : Value} {ls : mL} {st : List Value} {h : α}
theorem mi_T.hp {st1 : List Value} {h1 : α} (hl : mi_lk tb pc = some (i, nx, a, b, c, w)) (hk : mi_kd i = (false, true)) (hh : mi_hp O i a b st h = some (st1, h1)) (k : mi_T O PR M d tb ret (nx, ls, st1, h1) r) : mi_T O PR M d tb ret (pc, ls, st, h) r := by
  refine mi_T.step (fun cal => ?_) k
  unfold mi_one
  dsimp only
  rw [hl]
  dsimp only
  rw [hk]
  dsimp only
  rw [hh]
theorem mi_T.pl {pc1 : Nat} {ls1 : mL} {st1 : List Value} (hl : mi_lk tb pc = some (i, nx, a, b, c, w)) (hk : mi_kd i = (false, false)) (hh : mi_pl i pc nx a w ls st = some (pc1, ls1, st1)) (k : mi_T O PR M d tb ret (pc1, ls1, st1, h) r) : mi_T O PR M d tb ret (pc, ls, st, h) r := by
  refine mi_T.step (fun cal => ?_) k
  unfold mi_one
  dsimp only
  rw [hl]
  dsimp only
  rw [hk]
  dsimp only
  rw [hh]
/-- int division and remainder by what isn't 0 -/
theorem mi_T.idiv {x y : Int32} (hl : mi_lk tb pc = some (.idiv, nx, a, b, c, w)) (hy : ¬ y = 0) (k : mi_T O PR M d tb ret (nx, ls, .int (x / y) :: st, h) r) : mi_T O PR M d tb ret (pc, ls, .int y :: .int x :: st, h) r := mi_T.pl hl rfl (by simp only [mi_pl, mi_d1, decide_eq_false hy, cond_false]) k
theorem mi_T.irem {x y : Int32} (hl : mi_lk tb pc = some (.irem, nx, a, b, c, w)) (hy : ¬ y = 0) (k : mi_T O PR M d tb ret (nx, ls, .int (x - x / y * y) :: st, h) r) : mi_T O PR M d tb ret (pc, ls, .int y :: .int x :: st, h) r := mi_T.pl hl rfl (by simp only [mi_pl, mi_d1, decide_eq_false hy, cond_false]) k
theorem mi_T.ldiv {x y : Int64} (hl : mi_lk tb pc = some (.ldiv, nx, a, b, c, w)) (hy : ¬ y = 0) (k : mi_T O PR M d tb ret (nx, ls, .long (x / y) :: st, h) r) : mi_T O PR M d tb ret (pc, ls, .long y :: .long x :: st, h) r := mi_T.pl hl rfl (by simp only [mi_pl, mi_d2, decide_eq_false hy, cond_false]) k
theorem mi_T.lrem {x y : Int64} (hl : mi_lk tb pc = some (.lrem, nx, a, b, c, w)) (hy : ¬ y = 0) (k : mi_T O PR M d tb ret (nx, ls, .long (x - x / y * y) :: st, h) r) : mi_T O PR M d tb ret (pc, ls, .long y :: .long x :: st, h) r := mi_T.pl hl rfl (by simp only [mi_pl, mi_d2, decide_eq_false hy, cond_false]) k
/-- a call of a method of the JDK's -/
theorem mi_T.prim {j : Nat} {rest as : List Value} {h1 : α} {v : Option Value} (hl : mi_lk tb pc = some (i, nx, j, b, c, w)) (hk : mi_kd i = (true, false)) (ht : mi_take b [] st = some (as, rest)) (hj : (Nat.ble (mi_cats rest) 8 && mi_rc O c as h) = true) (hm : Nat.blt j 1000 = false)
    (hr : PR j as h = some (v, h1)) (k : mi_T O PR M d tb ret (nx, ls, v.toList ++ rest, h1) r) : mi_T O PR M d tb ret (pc, ls, st, h) r := by
  refine mi_T.step (fun cal => ?_) k
  unfold mi_one
  dsimp only
  rw [hl]
  dsimp only
  rw [hk]
  dsimp only
  unfold mi_cl
  rw [ht]
  dsimp only
  rw [hj, hm]
  dsimp only [cond_true, cond_false]
  rw [hr]
end T2
theorem mi_in_nI {j n : Nat} (hj : j < n) (hn : n < 2 ^ 31) : mi_in (nI j) n = true := by
  unfold mi_in
  rw [decide_eq_false (nI_pos (by omega)), nI_clamp (by omega)]
  simpa using hj
section T3
variable {F : List (List Nat)} {X : Nat × (Nat → Int32)} {sh : List mK} {PR : Nat → List Value → mG → Option (mA mG)} {M : List mM} {tb : mB} {ret : Option FieldType} {d : Nat} {r : mA mG} {pc nx a b c : Nat} {i : Instr} {w : Value} {ls : mL} {st : List Value} {σ : mG}
/-- a load from an int, char or boolean array -/
theorem mi_T.ldI {x : Int32} {q t n : Nat} (j : Nat) (hl : mi_lk tb pc = some (i, nx, a, b, c, w)) (hi : mi_kd i = (false, true)) (hh : ∀ z, mi_hp (mi_O2 F X sh) i a b z σ = mi_al (mi_O2 F X sh) t z σ) (hs : sh[q]? = some (.inl (t, n, false))) (hq : Nat.beq q 999 = false) (ht : Nat.blt t 3 = true) (hn : n < 2 ^ 31) (hx : x = nI j) (hj : j < n)
    (k : mi_T (mi_O2 F X sh) PR M d tb ret (nx, ls, .int (σ.1 q j) :: st, σ) r) : mi_T (mi_O2 F X sh) PR M d tb ret (pc, ls, .int x :: .ref q :: st, σ) r := by
  refine mi_T.hp hl hi ?_ k
  rw [hh]
  subst hx
  simp only [mi_al, mi_O2, mi_ld2, hq, hs, ht, mi_in_nI hj hn, nI_clamp (Nat.lt_trans hj hn), cond_false, Nat.beq_refl, Bool.and_self, cond_true]
theorem mi_T.ldJ {x : Int32} {q n : Nat} (j : Nat) (hl : mi_lk tb pc = some (.laload, nx, a, b, c, w)) (hs : sh[q]? = some (.inl (3, n, true))) (hq : Nat.beq q 999 = false) (hn : n < 2 ^ 31) (hx : x = nI j) (hj : j < n)
    (k : mi_T (mi_O2 F X sh) PR M d tb ret (nx, ls, .long (σ.2 q j) :: st, σ) r) : mi_T (mi_O2 F X sh) PR M d tb ret (pc, ls, .int x :: .ref q :: st, σ) r := by
  refine mi_T.hp hl rfl ?_ k
  subst hx
  simp only [mi_hp, mi_al, mi_O2, mi_ld2, hq, hs, mi_in_nI hj hn, nI_clamp (Nat.lt_trans hj hn), cond_false, Nat.beq_refl, Bool.and_self, cond_true]
theorem mi_T.stI {x v : Int32} {q t n : Nat} (j : Nat) (hl : mi_lk tb pc = some (i, nx, a, b, c, w)) (hi : mi_kd i = (false, true)) (hh : ∀ z, mi_hp (mi_O2 F X sh) i a b z σ = mi_as (mi_O2 F X sh) t z σ) (hs : sh[q]? = some (.inl (t, n, false))) (ht : Nat.blt t 3 = true) (hn : n < 2 ^ 31) (hx : x = nI j) (hj : j < n)
    (k : mi_T (mi_O2 F X sh) PR M d tb ret (nx, ls, st, (mi_uc σ.1 q (upd (σ.1 q) j (mi_nar t v)), σ.2)) r) : mi_T (mi_O2 F X sh) PR M d tb ret (pc, ls, .int v :: .int x :: .ref q :: st, σ) r := by
  refine mi_T.hp hl hi ?_ k
  rw [hh]
  subst hx
  simp only [mi_as, mi_O2, mi_sa2, hs, ht, mi_in_nI hj hn, nI_clamp (Nat.lt_trans hj hn), Nat.beq_refl, Bool.and_self, cond_true]
theorem mi_T.stJ {x : Int32} {v : Int64} {q n : Nat} (j : Nat) (hl : mi_lk tb pc = some (.lastore, nx, a, b, c, w)) (hs : sh[q]? = some (.inl (3, n, true))) (hn : n < 2 ^ 31) (hx : x = nI j) (hj : j < n)
    (k : mi_T (mi_O2 F X sh) PR M d tb ret (nx, ls, st, (σ.1, mi_uc σ.2 q (vp_updL (σ.2 q) j v))) r) : mi_T (mi_O2 F X sh) PR M d tb ret (pc, ls, .long v :: .int x :: .ref q :: st, σ) r := by
  refine mi_T.hp hl rfl ?_ k
  subst hx
  simp only [mi_hp, mi_as, mi_O2, mi_sa2, hs, mi_in_nI hj hn, nI_clamp (Nat.lt_trans hj hn), Nat.beq_refl, Bool.and_self, cond_true]
end T3
section T4
variable {α : Type} {O : mOp α} {PR : Nat → List Value → α → Option (mA α)} {M : List mM} {tb : mB} {ret : Option FieldType} {d : Nat} {r q : mA α} {pc nx a b c : Nat} {w : Value} {ls : mL} {s : mS α} {h : α}
theorem mi_T.fin (e : r = q) (h1 : ∀ cal, mi_one O PR cal tb ret s = some (.inr q)) : mi_T O PR M d tb ret s r := e ▸ mi_T.done h1
theorem mi_T.finz {v : Int32} (hl : mi_lk tb pc = some (.ireturn, nx, a, b, c, w)) (hb : v = 0 ∨ v = 1) (e : r = (some (.int v), h)) : mi_T O PR M d tb (some .boolean) (pc, ls, [.int v], h) r := by
  refine mi_T.fin e (fun cal => ?_)
  unfold mi_one
  dsimp only
  rw [hl]
  dsimp only [mi_kd]
  have hn : mi_nr .boolean v = true := by
    unfold mi_nr
    rcases hb with rfl | rfl <;> rfl
  unfold mi_re
  dsimp only
  rw [hn]
  rfl
end T4
section T5
variable {F : List (List Nat)} {X : Nat × (Nat → Int32)} {sh : List mK} {PR : Nat → List Value → mG → Option (mA mG)} {M : List mM} {tb : mB} {ret : Option FieldType} {d : Nat} {r : mA mG} {pc nx a b c : Nat} {w : Value} {ls : mL} {st : List Value} {σ : mG} {x v : Int32} {y : Int64} {q n : Nat}
theorem mi_T.li (hl : mi_lk tb pc = some (.iaload, nx, a, b, c, w)) (hs : sh[q]? = some (.inl (0, n, false))) (hb : mi_in x n = true) (k : mi_T (mi_O2 F X sh) PR M d tb ret (nx, ls, .int (σ.1 q x.toNatClampNeg) :: st, σ) r) (hq : Nat.beq q 999 = false := by rfl) : mi_T (mi_O2 F X sh) PR M d tb ret (pc, ls, .int x :: .ref q :: st, σ) r :=
  mi_T.hp hl rfl (by simp only [mi_hp, mi_al, mi_O2, mi_ld2, hq, hs, hb, cond_false, Nat.beq_refl, Bool.and_self, cond_true]; rfl) k
theorem mi_T.lc (hl : mi_lk tb pc = some (.caload, nx, a, b, c, w)) (hs : sh[q]? = some (.inl (1, n, false))) (hb : mi_in x n = true) (k : mi_T (mi_O2 F X sh) PR M d tb ret (nx, ls, .int (σ.1 q x.toNatClampNeg) :: st, σ) r) (hq : Nat.beq q 999 = false := by rfl) : mi_T (mi_O2 F X sh) PR M d tb ret (pc, ls, .int x :: .ref q :: st, σ) r :=
  mi_T.hp hl rfl (by simp only [mi_hp, mi_al, mi_O2, mi_ld2, hq, hs, hb, cond_false, Nat.beq_refl, Bool.and_self, cond_true]; rfl) k
theorem mi_T.lz (hl : mi_lk tb pc = some (.baload, nx, a, b, c, w)) (hs : sh[q]? = some (.inl (2, n, false))) (hb : mi_in x n = true) (k : mi_T (mi_O2 F X sh) PR M d tb ret (nx, ls, .int (σ.1 q x.toNatClampNeg) :: st, σ) r) (hq : Nat.beq q 999 = false := by rfl) : mi_T (mi_O2 F X sh) PR M d tb ret (pc, ls, .int x :: .ref q :: st, σ) r :=
  mi_T.hp hl rfl (by simp only [mi_hp, mi_al, mi_O2, mi_ld2, hq, hs, hb, cond_false, Nat.beq_refl, Bool.and_self, cond_true]; rfl) k
theorem mi_T.lj (hl : mi_lk tb pc = some (.laload, nx, a, b, c, w)) (hs : sh[q]? = some (.inl (3, n, true))) (hb : mi_in x n = true) (k : mi_T (mi_O2 F X sh) PR M d tb ret (nx, ls, .long (σ.2 q x.toNatClampNeg) :: st, σ) r) (hq : Nat.beq q 999 = false := by rfl) : mi_T (mi_O2 F X sh) PR M d tb ret (pc, ls, .int x :: .ref q :: st, σ) r :=
  mi_T.hp hl rfl (by simp only [mi_hp, mi_al, mi_O2, mi_ld2, hq, hs, hb, cond_false, Nat.beq_refl, Bool.and_self, cond_true]) k
theorem mi_T.si (hl : mi_lk tb pc = some (.iastore, nx, a, b, c, w)) (hs : sh[q]? = some (.inl (0, n, false))) (hb : mi_in x n = true) (k : mi_T (mi_O2 F X sh) PR M d tb ret (nx, ls, st, (mi_uc σ.1 q (upd (σ.1 q) x.toNatClampNeg v), σ.2)) r) : mi_T (mi_O2 F X sh) PR M d tb ret (pc, ls, .int v :: .int x :: .ref q :: st, σ) r :=
  mi_T.hp hl rfl (by simp only [mi_hp, mi_as, mi_O2, mi_sa2, hs, hb, Nat.beq_refl, Bool.and_self, cond_true]; rfl) k
theorem mi_T.sc (hl : mi_lk tb pc = some (.castore, nx, a, b, c, w)) (hs : sh[q]? = some (.inl (1, n, false))) (hb : mi_in x n = true) (k : mi_T (mi_O2 F X sh) PR M d tb ret (nx, ls, st, (mi_uc σ.1 q (upd (σ.1 q) x.toNatClampNeg (mi_nar 1 v)), σ.2)) r) : mi_T (mi_O2 F X sh) PR M d tb ret (pc, ls, .int v :: .int x :: .ref q :: st, σ) r :=
  mi_T.hp hl rfl (by simp only [mi_hp, mi_as, mi_O2, mi_sa2, hs, hb, Nat.beq_refl, Bool.and_self, cond_true]; rfl) k
theorem mi_T.sz (hl : mi_lk tb pc = some (.bastore, nx, a, b, c, w)) (hs : sh[q]? = some (.inl (2, n, false))) (hb : mi_in x n = true) (k : mi_T (mi_O2 F X sh) PR M d tb ret (nx, ls, st, (mi_uc σ.1 q (upd (σ.1 q) x.toNatClampNeg (mi_nar 2 v)), σ.2)) r) : mi_T (mi_O2 F X sh) PR M d tb ret (pc, ls, .int v :: .int x :: .ref q :: st, σ) r :=
  mi_T.hp hl rfl (by simp only [mi_hp, mi_as, mi_O2, mi_sa2, hs, hb, Nat.beq_refl, Bool.and_self, cond_true]; rfl) k
theorem mi_T.sj (hl : mi_lk tb pc = some (.lastore, nx, a, b, c, w)) (hs : sh[q]? = some (.inl (3, n, true))) (hb : mi_in x n = true) (k : mi_T (mi_O2 F X sh) PR M d tb ret (nx, ls, st, (σ.1, mi_uc σ.2 q (vp_updL (σ.2 q) x.toNatClampNeg y))) r) : mi_T (mi_O2 F X sh) PR M d tb ret (pc, ls, .long y :: .int x :: .ref q :: st, σ) r :=
  mi_T.hp hl rfl (by simp only [mi_hp, mi_as, mi_O2, mi_sa2, hs, hb, Nat.beq_refl, Bool.and_self, cond_true]) k
end T5
end
section
/-! The machine does what the mini does: places, locals, and the instructions that look at no cell. -/
def mi_ad (base scr : Nat) (lit : Nat → Nat) (k : Nat) : Nat := bif Nat.blt k 900 then base + k else bif Nat.beq k 999 then scr else lit (k - 1000)
def mi_v (ad : Nat → Nat) : Value → Value
  | .ref a => .ref (ad a)
  | v => v
def mi_e (ct : Nat → ClassId) (ad : Nat → Nat) (x : mE) : va_E := match x with
  | .inl q => .inl (ct q.1, q.2)
  | .inr q => .inr (q.1, q.2.map (mi_v ad))
def mi_ws (ct : Nat → ClassId) (ad : Nat → Nat) : Nat → mH → va_W
  | _, [] => []
  | k, x :: r => (ad k, mi_e ct ad x) :: mi_ws ct ad (k + 1) r
theorem mi_ws_at (ct : Nat → ClassId) (ad : Nat → Nat) : ∀ (h : mH) (k j : Nat), (mi_ws ct ad k h)[j]? = (h[j]?).map (fun x => (ad (k + j), mi_e ct ad x)) := by
  intro h
  induction h with
  | nil => intro k j; simp [mi_ws]
  | cons x r ih =>
    intro k j
    cases j with
    | zero => simp [mi_ws]
    | succ j => simp [mi_ws, ih, Nat.add_assoc, Nat.add_comm 1 j]
theorem mi_ws_get {ct : Nat → ClassId} {ad : Nat → Nat} {h : mH} {j : Nat} {x : mE} (hj : h[j]? = some x) : (mi_ws ct ad 0 h)[j]? = some (ad j, mi_e ct ad x) := by rw [mi_ws_at, hj]; simp
theorem mi_ws_set {ct : Nat → ClassId} {ad : Nat → Nat} {h : mH} {j : Nat} {x : mE} : mi_ws ct ad 0 (h.set j x) = (mi_ws ct ad 0 h).set j (ad j, mi_e ct ad x) := by
  apply List.ext_getElem?
  intro i
  by_cases hi : j = i
  · subst hi
    by_cases hl : j < h.length
    · have hl2 : j < (mi_ws ct ad 0 h).length := by
        have := mi_ws_get (ct := ct) (ad := ad) (List.getElem?_eq_getElem hl)
        exact (List.getElem?_eq_some_iff.mp this).1
      rw [mi_ws_at, List.getElem?_set_self hl, List.getElem?_set_self hl2]
      simp
    · have hl2 : ¬ j < (mi_ws ct ad 0 h).length := by
        intro z
        have h1 := List.getElem?_eq_getElem z
        rw [mi_ws_at, List.getElem?_eq_none (by omega)] at h1
        cases h1
      rw [mi_ws_at, List.getElem?_eq_none (by rw [List.length_set]; omega), List.getElem?_eq_none (by rw [List.length_set]; omega)]
      rfl
  · rw [mi_ws_at, List.getElem?_set_ne hi, List.getElem?_set_ne hi, mi_ws_at]
theorem mi_ws_app {ct : Nat → ClassId} {ad : Nat → Nat} {x : mE} : ∀ (h : mH) (k : Nat), mi_ws ct ad k (h ++ [x]) = mi_ws ct ad k h ++ [(ad (k + h.length), mi_e ct ad x)] := by
  intro h
  induction h with
  | nil => intro k; simp [mi_ws]
  | cons y r ih => intro k; simp [mi_ws, ih, Nat.add_assoc, Nat.add_comm 1]
theorem mi_cat (ad : Nat → Nat) (v : Value) : (mi_v ad v).category = v.category := by cases v <;> rfl
theorem mi_ad_lt {base scr : Nat} {lit : Nat → Nat} {k : Nat} (h : k < 900) : mi_ad base scr lit k = base + k := by
  have hb : Nat.blt k 900 = true := by rw [Nat.blt_eq]; exact h
  unfold mi_ad
  rw [hb]
  rfl
theorem mi_D {ct : Nat → ClassId} {base scr : Nat} {lit : Nat → Nat} {h : mH} (hl : h.length ≤ 900) : va_D (fun q => base ≤ q) (mi_ws ct (mi_ad base scr lit) 0 h) := by
  have key : ∀ (k : Nat) (q : Nat × va_E), (mi_ws ct (mi_ad base scr lit) 0 h)[k]? = some q → q.1 = base + k := by
    intro k q hk
    rw [mi_ws_at] at hk
    cases hx : h[k]? with
    | none => rw [hx] at hk; cases hk
    | some x =>
      rw [hx] at hk
      cases hk
      simp only [Nat.zero_add]
      exact mi_ad_lt (by have := (List.getElem?_eq_some_iff.mp hx).1; omega)
  refine ⟨fun i j p q hi hj e => ?_, fun k q hk => ?_⟩
  · rw [key i p hi, key j q hj] at e
    omega
  · show base ≤ q.1
    rw [key k q hk]
    omega
/-- the locals -/
def mi_lh (ad : Nat → Nat) (lr : Array Slot) (nL : Nat) (ls : mL) : Prop := lr.size = nL ∧ lv_wf lr ∧ ls.length = nL ∧ ∀ (i : Nat) (v : Value), ls[i]? = some (some v) → lr[i]? = some (Slot.val (mi_v ad v))
def mi_lp (ad : Nat → Nat) : Nat → mL → List (Nat × Value)
  | _, [] => []
  | k, some v :: r => (k, mi_v ad v) :: mi_lp ad (k + 1) r
  | k, none :: r => mi_lp ad (k + 1) r
theorem mi_lp_of {ad : Nat → Nat} : ∀ (ls : mL) (k : Nat) (q : Nat × Value), q ∈ mi_lp ad k ls → ∃ i v, ls[i]? = some (some v) ∧ q = (k + i, mi_v ad v) := by
  intro ls
  induction ls with
  | nil => intro k q hq; cases hq
  | cons x r ih =>
    intro k q hq
    cases x with
    | none =>
      obtain ⟨i, v, h1, h2⟩ := ih (k + 1) q hq
      exact ⟨i + 1, v, by simpa using h1, by rw [h2]; simp [Nat.add_assoc, Nat.add_comm 1]⟩
    | some y =>
      rcases List.mem_cons.mp hq with h | h
      · exact ⟨0, y, rfl, by rw [h]; rfl⟩
      · obtain ⟨i, v, h1, h2⟩ := ih (k + 1) q h
        exact ⟨i + 1, v, by simpa using h1, by rw [h2]; simp [Nat.add_assoc, Nat.add_comm 1]⟩
theorem mi_lp_in {ad : Nat → Nat} : ∀ (ls : mL) (k i : Nat) (v : Value), ls[i]? = some (some v) → (k + i, mi_v ad v) ∈ mi_lp ad k ls := by
  intro ls
  induction ls with
  | nil => intro k i v h; simp at h
  | cons x r ih =>
    intro k i v h
    cases i with
    | zero =>
      simp only [List.getElem?_cons_zero, Option.some.injEq] at h
      subst h
      exact List.mem_cons_self
    | succ i =>
      have h1 := ih (k + 1) i v (by simpa using h)
      rw [show k + 1 + i = k + (i + 1) by omega] at h1
      cases x with
      | none => exact h1
      | some y => exact List.mem_cons_of_mem _ h1
theorem mi_lh.has {ad : Nat → Nat} {lr : Array Slot} {nL : Nat} {ls : mL} (h : mi_lh ad lr nL ls) : lv_has lr nL (mi_lp ad 0 ls) := by
  refine ⟨h.1, h.2.1, fun q hq => ?_⟩
  obtain ⟨i, v, h1, h2⟩ := mi_lp_of ls 0 q hq
  rw [h2]
  simpa using h.2.2.2 i v h1
theorem mi_s1_ok {ad : Nat → Nat} {nL : Nat} {ls l1 : mL} {i : Nat} {v : Value} (hn : ls.length = nL) (e : mi_s1 ls i v = some l1) : i < nL ∧ ∀ lr : Array Slot, lv_has lr nL ((i, mi_v ad v) :: (mi_lp ad 0 ls).filter (fun q => !(q.1 == i) && !(q.1 + 1 == i && q.2.category == 2))) → mi_lh ad lr nL l1 := by
  unfold mi_s1 at e
  cases hb : (Nat.blt i ls.length && mi_nl ls i) with
  | false => rw [hb] at e; cases e
  | true =>
    rw [hb] at e
    cases e
    rw [Bool.and_eq_true, Nat.blt_eq] at hb
    refine ⟨by omega, fun lr h => ⟨h.1, h.2.1, by rw [List.length_set]; exact hn, fun j u hj => ?_⟩⟩
    by_cases hij : i = j
    · subst hij
      rw [List.getElem?_set_self hb.1] at hj
      cases hj
      exact h.2.2 _ List.mem_cons_self
    · rw [List.getElem?_set_ne hij] at hj
      have h1 := mi_lp_in (ad := ad) ls 0 j u hj
      rw [Nat.zero_add] at h1
      refine h.2.2 _ (List.mem_cons_of_mem _ (List.mem_filter.mpr ⟨h1, ?_⟩))
      have h2 : ¬ (j + 1 = i ∧ u.category = 2) := by
        rintro ⟨rfl, hc⟩
        have h3 := hb.2
        simp [mi_nl, hj, hc] at h3
      simp only [mi_cat]
      have h4 : (j == i) = false := by simpa using Ne.symm hij
      rw [h4]
      simp only [Bool.not_false, Bool.true_and, Bool.not_eq_true', Bool.and_eq_false_iff, beq_eq_false_iff_ne, ne_eq]
      by_cases z : j + 1 = i
      · exact Or.inr (fun y => h2 ⟨z, y⟩)
      · exact Or.inl z
theorem mi_s2_ok {ad : Nat → Nat} {nL : Nat} {ls l1 : mL} {i : Nat} {v : Value} (hn : ls.length = nL) (e : mi_s2 ls i v = some l1) : i + 1 < nL ∧ ∀ lr : Array Slot, lv_has lr nL ((i, mi_v ad v) :: (mi_lp ad 0 ls).filter (fun q => !(q.1 == i) && (!(q.1 == i + 1) && !(q.1 + 1 == i && q.2.category == 2)))) → mi_lh ad lr nL l1 := by
  unfold mi_s2 at e
  cases hb : (Nat.blt (i + 1) ls.length && mi_nl ls i) with
  | false => rw [hb] at e; cases e
  | true =>
    rw [hb] at e
    cases e
    rw [Bool.and_eq_true, Nat.blt_eq] at hb
    refine ⟨by omega, fun lr h => ⟨h.1, h.2.1, by rw [List.length_set, List.length_set]; exact hn, fun j u hj => ?_⟩⟩
    by_cases hij1 : i + 1 = j
    · subst hij1
      rw [List.getElem?_set_self (by rw [List.length_set]; exact hb.1)] at hj
      cases hj
    · rw [List.getElem?_set_ne hij1] at hj
      by_cases hij : i = j
      · subst hij
        rw [List.getElem?_set_self (by omega)] at hj
        cases hj
        exact h.2.2 _ List.mem_cons_self
      · rw [List.getElem?_set_ne hij] at hj
        have h1 := mi_lp_in (ad := ad) ls 0 j u hj
        rw [Nat.zero_add] at h1
        refine h.2.2 _ (List.mem_cons_of_mem _ (List.mem_filter.mpr ⟨h1, ?_⟩))
        have h2 : ¬ (j + 1 = i ∧ u.category = 2) := by
          rintro ⟨rfl, hc⟩
          have h3 := hb.2
          simp [mi_nl, hj, hc] at h3
        simp only [mi_cat]
        have h4 : (j == i) = false := by simpa using Ne.symm hij
        have h5 : (j == i + 1) = false := by simpa using Ne.symm hij1
        rw [h4, h5]
        simp only [Bool.not_false, Bool.true_and, Bool.not_eq_true', Bool.and_eq_false_iff, beq_eq_false_iff_ne, ne_eq]
        by_cases z : j + 1 = i
        · exact Or.inr (fun y => h2 ⟨z, y⟩)
        · exact Or.inl z
def mi_len : Instr → Nat
  | .aload _ => 2
  | .astore _ => 2
  | .bipush _ => 2
  | .iload _ => 2
  | .istore _ => 2
  | .lload _ => 2
  | .lstore _ => 2
  | .ldc _ => 2
  | .newarray _ => 2
  | .getfield _ => 3
  | .putfield _ => 3
  | .goto _ => 3
  | .if_icmp _ _ => 3
  | .ifCond _ _ => 3
  | .iinc _ _ => 3
  | .invokespecial _ => 3
  | .invokestatic _ => 3
  | .invokevirtual _ => 3
  | .ldc_w _ => 3
  | .ldc2_w _ => 3
  | .new _ => 3
  | .sipush _ => 3
  | _ => 1
/-- what the constant and the target of an entry must be -/
def mi_V1 (i : Instr) (pc a : Nat) (w : Value) : Prop := match i with
  | .iconst n => w = .int (Int32.ofInt n)
  | .bipush n => w = .int (Int8.ofInt n).toInt32
  | .sipush n => w = .int (Int16.ofInt n).toInt32
  | .lconst n => w = .long (Int64.ofNat n.val)
  | .iinc _ n => w = .int (Int32.ofInt n)
  | .goto off => (pc : Int) + off = (a : Int)
  | .ifCond _ off => (pc : Int) + off = (a : Int)
  | .if_icmp _ off => (pc : Int) + off = (a : Int)
  | _ => True
theorem mi_ld_inv {nx k : Nat} {ok : Value → Bool} {ls : mL} {st : List Value} {x : mP} (e : mi_ld nx k ok ls st = some x) : ∃ v, ls[k]? = some (some v) ∧ ok v = true ∧ x = (nx, ls, v :: st) := by
  unfold mi_ld at e
  split at e
  · rename_i v hv
    cases hb : ok v with
    | false => rw [hb] at e; cases e
    | true => rw [hb] at e; cases e; exact ⟨v, hv, hb, rfl⟩
  · cases e
theorem mi_sv_inv {nx k : Nat} {ok : Value → Bool} {ls : mL} {st : List Value} {x : mP} (e : mi_sv nx k ok ls st = some x) : ∃ v r l1, st = v :: r ∧ ok v = true ∧ mi_s1 ls k v = some l1 ∧ x = (nx, l1, r) := by
  unfold mi_sv at e
  split at e
  · rename_i v r
    cases hb : ok v with
    | false => rw [hb] at e; cases e
    | true =>
      rw [hb] at e
      dsimp only [cond_true] at e
      split at e
      · rename_i l1 hl
        cases e
        exact ⟨v, r, l1, rfl, hb, hl, rfl⟩
      · cases e
  · cases e
theorem mi_sv2_inv {nx k : Nat} {ls : mL} {st : List Value} {x : mP} (e : mi_sv2 nx k ls st = some x) : ∃ v r l1, st = v :: r ∧ mi_isL v = true ∧ mi_s2 ls k v = some l1 ∧ x = (nx, l1, r) := by
  unfold mi_sv2 at e
  split at e
  · rename_i v r
    cases hb : mi_isL v with
    | false => rw [hb] at e; cases e
    | true =>
      rw [hb] at e
      dsimp only [cond_true] at e
      split at e
      · rename_i l1 hl
        cases e
        exact ⟨v, r, l1, rfl, hb, hl, rfl⟩
      · cases e
  · cases e
theorem mi_b1_inv {f : Int32 → Int32 → Int32} {nx : Nat} {ls : mL} {st : List Value} {x : mP} (e : mi_b1 f nx ls st = some x) : ∃ a b r, st = .int b :: .int a :: r ∧ x = (nx, ls, .int (f a b) :: r) := by
  unfold mi_b1 at e
  split at e
  · cases e; exact ⟨_, _, _, rfl, rfl⟩
  · cases e
theorem mi_b2_inv {f : Int64 → Int64 → Int64} {nx : Nat} {ls : mL} {st : List Value} {x : mP} (e : mi_b2 f nx ls st = some x) : ∃ a b r, st = .long b :: .long a :: r ∧ x = (nx, ls, .long (f a b) :: r) := by
  unfold mi_b2 at e
  split at e
  · cases e; exact ⟨_, _, _, rfl, rfl⟩
  · cases e
theorem mi_b3_inv {f : Int64 → Int32 → Int64} {nx : Nat} {ls : mL} {st : List Value} {x : mP} (e : mi_b3 f nx ls st = some x) : ∃ a b r, st = .int b :: .long a :: r ∧ x = (nx, ls, .long (f a b) :: r) := by
  unfold mi_b3 at e
  split at e
  · cases e; exact ⟨_, _, _, rfl, rfl⟩
  · cases e
theorem mi_d1_inv {f : Int32 → Int32 → Int32} {nx : Nat} {ls : mL} {st : List Value} {x : mP} (e : mi_d1 f nx ls st = some x) : ∃ a b r, st = .int b :: .int a :: r ∧ ¬ b = 0 ∧ x = (nx, ls, .int (f a b) :: r) := by
  unfold mi_d1 at e
  split at e
  · rename_i y x r
    by_cases h : y = 0
    · rw [decide_eq_true h] at e; cases e
    · rw [decide_eq_false h] at e; cases e; exact ⟨_, _, _, rfl, h, rfl⟩
  · cases e
theorem mi_d2_inv {f : Int64 → Int64 → Int64} {nx : Nat} {ls : mL} {st : List Value} {x : mP} (e : mi_d2 f nx ls st = some x) : ∃ a b r, st = .long b :: .long a :: r ∧ ¬ b = 0 ∧ x = (nx, ls, .long (f a b) :: r) := by
  unfold mi_d2 at e
  split at e
  · rename_i y x r
    by_cases h : y = 0
    · rw [decide_eq_true h] at e; cases e
    · rw [decide_eq_false h] at e; cases e; exact ⟨_, _, _, rfl, h, rfl⟩
  · cases e
theorem mi_u1_inv {f : Int32 → Value} {nx : Nat} {ls : mL} {st : List Value} {x : mP} (e : mi_u1 f nx ls st = some x) : ∃ a r, st = .int a :: r ∧ x = (nx, ls, f a :: r) := by
  unfold mi_u1 at e
  split at e
  · cases e; exact ⟨_, _, rfl, rfl⟩
  · cases e
theorem mi_u2_inv {f : Int64 → Value} {nx : Nat} {ls : mL} {st : List Value} {x : mP} (e : mi_u2 f nx ls st = some x) : ∃ a r, st = .long a :: r ∧ x = (nx, ls, f a :: r) := by
  unfold mi_u2 at e
  split at e
  · cases e; exact ⟨_, _, rfl, rfl⟩
  · cases e
theorem mi_is1_eq {v : Value} (h : mi_is1 v = true) : v.category = 1 := Nat.eq_of_beq_eq_true h
section SIM
variable {p : Program} {l : Launch} {ev : Env} {R : Room} {s : State} {m : MethodId} {args : Array Value} {below : List Frame} {meth : Method} {c : Code} {H : Heap} {locs : List Loc} {cells slots : Nat} {Q : State → Prop}
variable {cc : ByteArray} {nL : Nat} {ad : Nat → Nat}
def mi_Wp (p : Program) (l : Launch) (ev : Env) (R : Room) (s : State) (m : MethodId) (args : Array Value) (below : List Frame) (meth : Method) (c : Code) (H : Heap) (locs : List Loc) (cells slots : Nat) (Q : State → Prop) (nL : Nat) (ad : Nat → Nat) (x : mP) : Prop :=
  ∀ lr : Array Slot, mi_lh ad lr nL x.2.1 → W p l ev R s m args below meth c H locs cells slots Q (F0 m x.1 lr (x.2.2.map (mi_v ad)))
variable {pc nx a : Nat} {i : Instr} {w : Value} {ls : mL} {st : List Value} {x : mP}
theorem mi_pl_ld (hx : ∃ v, ls[a]? = some (some v) ∧ mi_isI v = true ∧ x = (nx, ls, v :: st)) (row : ∀ {lr : Array Slot} {y : Int32}, lr[a]? = some (.val (.int y)) → W p l ev R s m args below meth c H locs cells slots Q (F0 m nx lr (.int y :: st.map (mi_v ad))) → W p l ev R s m args below meth c H locs cells slots Q (F0 m pc lr (st.map (mi_v ad)))) (k : mi_Wp p l ev R s m args below meth c H locs cells slots Q nL ad x) : mi_Wp p l ev R s m args below meth c H locs cells slots Q nL ad (pc, ls, st) := by
  obtain ⟨v, h1, h2, rfl⟩ := hx
  intro lr hl
  cases v with
  | int y => exact row (hl.2.2.2 _ _ h1) (k lr hl)
  | _ => simp [mi_isI] at h2
theorem mi_pl_ldL (hx : ∃ v, ls[a]? = some (some v) ∧ mi_isL v = true ∧ x = (nx, ls, v :: st)) (row : ∀ {lr : Array Slot} {y : Int64}, lr[a]? = some (.val (.long y)) → W p l ev R s m args below meth c H locs cells slots Q (F0 m nx lr (.long y :: st.map (mi_v ad))) → W p l ev R s m args below meth c H locs cells slots Q (F0 m pc lr (st.map (mi_v ad)))) (k : mi_Wp p l ev R s m args below meth c H locs cells slots Q nL ad x) : mi_Wp p l ev R s m args below meth c H locs cells slots Q nL ad (pc, ls, st) := by
  obtain ⟨v, h1, h2, rfl⟩ := hx
  intro lr hl
  cases v with
  | long y => exact row (hl.2.2.2 _ _ h1) (k lr hl)
  | _ => simp [mi_isL] at h2
theorem mi_pl_ldA (hx : ∃ v, ls[a]? = some (some v) ∧ mi_isA v = true ∧ x = (nx, ls, v :: st)) (row : ∀ {lr : Array Slot} {y : Nat}, lr[a]? = some (.val (.ref y)) → W p l ev R s m args below meth c H locs cells slots Q (F0 m nx lr (.ref y :: st.map (mi_v ad))) → W p l ev R s m args below meth c H locs cells slots Q (F0 m pc lr (st.map (mi_v ad)))) (k : mi_Wp p l ev R s m args below meth c H locs cells slots Q nL ad x) : mi_Wp p l ev R s m args below meth c H locs cells slots Q nL ad (pc, ls, st) := by
  obtain ⟨v, h1, h2, rfl⟩ := hx
  intro lr hl
  cases v with
  | ref y => exact row (hl.2.2.2 _ _ h1) (k lr hl)
  | _ => simp [mi_isA] at h2
theorem mi_pl_svI (hx : ∃ v r l1, st = v :: r ∧ mi_isI v = true ∧ mi_s1 ls a v = some l1 ∧ x = (nx, l1, r)) (row : ∀ {lr : Array Slot} {y : Int32} {rest : List Value} {lv lv' : List (Nat × Value)}, lv_has lr nL lv → a < nL → (a, Value.int y) :: lv.filter (fun q => !(q.1 == a) && !(q.1 + 1 == a && q.2.category == 2)) = lv' → (∀ lr' : Array Slot, lv_has lr' nL lv' → W p l ev R s m args below meth c H locs cells slots Q (F0 m nx lr' rest)) → W p l ev R s m args below meth c H locs cells slots Q (F0 m pc lr (.int y :: rest))) (k : mi_Wp p l ev R s m args below meth c H locs cells slots Q nL ad x) : mi_Wp p l ev R s m args below meth c H locs cells slots Q nL ad (pc, ls, st) := by
  obtain ⟨v, r, l1, rfl, h2, h3, rfl⟩ := hx
  intro lr hl
  cases v with
  | int y =>
    obtain ⟨g1, g2⟩ := mi_s1_ok (ad := ad) hl.2.2.1 h3
    exact row hl.has g1 rfl (fun lr' h' => k lr' (g2 lr' h'))
  | _ => simp [mi_isI] at h2
theorem mi_pl_svA (hx : ∃ v r l1, st = v :: r ∧ mi_isA v = true ∧ mi_s1 ls a v = some l1 ∧ x = (nx, l1, r)) (row : ∀ {lr : Array Slot} {y : Nat} {rest : List Value} {lv lv' : List (Nat × Value)}, lv_has lr nL lv → a < nL → (a, Value.ref y) :: lv.filter (fun q => !(q.1 == a) && !(q.1 + 1 == a && q.2.category == 2)) = lv' → (∀ lr' : Array Slot, lv_has lr' nL lv' → W p l ev R s m args below meth c H locs cells slots Q (F0 m nx lr' rest)) → W p l ev R s m args below meth c H locs cells slots Q (F0 m pc lr (.ref y :: rest))) (k : mi_Wp p l ev R s m args below meth c H locs cells slots Q nL ad x) : mi_Wp p l ev R s m args below meth c H locs cells slots Q nL ad (pc, ls, st) := by
  obtain ⟨v, r, l1, rfl, h2, h3, rfl⟩ := hx
  intro lr hl
  cases v with
  | ref y =>
    obtain ⟨g1, g2⟩ := mi_s1_ok (ad := ad) hl.2.2.1 h3
    exact row hl.has g1 rfl (fun lr' h' => k lr' (g2 lr' h'))
  | _ => simp [mi_isA] at h2
theorem mi_pl_svL (hx : ∃ v r l1, st = v :: r ∧ mi_isL v = true ∧ mi_s2 ls a v = some l1 ∧ x = (nx, l1, r)) (row : ∀ {lr : Array Slot} {y : Int64} {rest : List Value} {lv lv' : List (Nat × Value)}, lv_has lr nL lv → a + 1 < nL → (a, Value.long y) :: lv.filter (fun q => !(q.1 == a) && (!(q.1 == a + 1) && !(q.1 + 1 == a && q.2.category == 2))) = lv' → (∀ lr' : Array Slot, lv_has lr' nL lv' → W p l ev R s m args below meth c H locs cells slots Q (F0 m nx lr' rest)) → W p l ev R s m args below meth c H locs cells slots Q (F0 m pc lr (.long y :: rest))) (k : mi_Wp p l ev R s m args below meth c H locs cells slots Q nL ad x) : mi_Wp p l ev R s m args below meth c H locs cells slots Q nL ad (pc, ls, st) := by
  obtain ⟨v, r, l1, rfl, h2, h3, rfl⟩ := hx
  intro lr hl
  cases v with
  | long y =>
    obtain ⟨g1, g2⟩ := mi_s2_ok (ad := ad) hl.2.2.1 h3
    exact row hl.has g1 rfl (fun lr' h' => k lr' (g2 lr' h'))
  | _ => simp [mi_isL] at h2
set_option maxHeartbeats 4000000 in
/-- an instruction that looks at no cell -/
theorem mi_pl_ok (hexec : p.tables.exec = Jvm.exec) (hb : c.code = cc) (V : decode cc pc = .ok (i, mi_len i) ∨ ∃ d lo hi offs, i = .tableswitch d lo hi offs ∧ ∃ len, decode cc pc = .ok (i, len)) (hnx : nx = pc + mi_len i ∨ ∃ d lo hi offs, i = .tableswitch d lo hi offs) (hV1 : mi_V1 i pc a w)
    (hlc : (∃ k, i = .ldc k ∨ i = .ldc_w k ∨ i = .ldc2_w k) → ∀ (lr : Array Slot) (rest : List Value), W p l ev R s m args below meth c H locs cells slots Q (F0 m nx lr (mi_v ad w :: rest)) → W p l ev R s m args below meth c H locs cells slots Q (F0 m pc lr rest))
    (e : mi_pl i pc nx a w ls st = some x) (k : mi_Wp p l ev R s m args below meth c H locs cells slots Q nL ad x) : mi_Wp p l ev R s m args below meth c H locs cells slots Q nL ad (pc, ls, st) := by
  have hV : (∀ d lo hi offs, i ≠ .tableswitch d lo hi offs) → decode cc pc = .ok (i, mi_len i) ∧ nx = pc + mi_len i := by
    intro hne
    refine ⟨?_, ?_⟩
    · rcases V with h | ⟨d, lo, hi, offs, h, -⟩
      · exact h
      · exact absurd h (hne d lo hi offs)
    · rcases hnx with h | ⟨d, lo, hi, offs, h⟩
      · exact h
      · exact absurd h (hne d lo hi offs)
  unfold mi_pl at e
  split at e
  -- iconst
  · obtain ⟨V, rfl⟩ := hV (by intros; exact Instr.noConfusion)
    cases e
    have hV1 : w = _ := hV1
    subst hV1
    exact fun lr hl => lv_iconst hexec hb V rfl (k lr hl)
  -- bipush
  · obtain ⟨V, rfl⟩ := hV (by intros; exact Instr.noConfusion)
    cases e
    have hV1 : w = _ := hV1
    subst hV1
    exact fun lr hl => lv_bipush hexec hb V rfl (k lr hl)
  -- sipush
  · obtain ⟨V, rfl⟩ := hV (by intros; exact Instr.noConfusion)
    cases e
    have hV1 : w = _ := hV1
    subst hV1
    exact fun lr hl => lv_sipush hexec hb V rfl (k lr hl)
  -- lconst
  · obtain ⟨V, rfl⟩ := hV (by intros; exact Instr.noConfusion)
    cases e
    have hV1 : w = _ := hV1
    subst hV1
    exact fun lr hl => lv_lconst hexec hb V rfl (k lr hl)
  -- ldc, ldc_w, ldc2_w
  · cases e
    exact fun lr hl => hlc ⟨_, Or.inl rfl⟩ lr _ (k lr hl)
  · cases e
    exact fun lr hl => hlc ⟨_, Or.inr (Or.inl rfl)⟩ lr _ (k lr hl)
  · cases e
    exact fun lr hl => hlc ⟨_, Or.inr (Or.inr rfl)⟩ lr _ (k lr hl)
  -- loads
  · obtain ⟨V, rfl⟩ := hV (by intros; exact Instr.noConfusion)
    exact mi_pl_ld (mi_ld_inv e) (fun h1 h2 => lv_iload hexec hb V h1 h2) k
  · obtain ⟨V, rfl⟩ := hV (by intros; exact Instr.noConfusion)
    exact mi_pl_ld (mi_ld_inv e) (fun h1 h2 => lv_iload_n hexec hb V rfl h1 h2) k
  · obtain ⟨V, rfl⟩ := hV (by intros; exact Instr.noConfusion)
    exact mi_pl_ldL (mi_ld_inv e) (fun h1 h2 => lv_lload hexec hb V h1 h2) k
  · obtain ⟨V, rfl⟩ := hV (by intros; exact Instr.noConfusion)
    exact mi_pl_ldL (mi_ld_inv e) (fun h1 h2 => lv_lload_n hexec hb V rfl h1 h2) k
  · obtain ⟨V, rfl⟩ := hV (by intros; exact Instr.noConfusion)
    exact mi_pl_ldA (mi_ld_inv e) (fun h1 h2 => lv_aload hexec hb V h1 h2) k
  · obtain ⟨V, rfl⟩ := hV (by intros; exact Instr.noConfusion)
    exact mi_pl_ldA (mi_ld_inv e) (fun h1 h2 => lv_aload_n hexec hb V rfl h1 h2) k
  -- stores
  · obtain ⟨V, rfl⟩ := hV (by intros; exact Instr.noConfusion)
    exact mi_pl_svI (mi_sv_inv e) (fun h1 h2 h3 h4 => lv_istore hexec hb V h1 h2 h3 h4) k
  · obtain ⟨V, rfl⟩ := hV (by intros; exact Instr.noConfusion)
    exact mi_pl_svI (mi_sv_inv e) (fun h1 h2 h3 h4 => lv_istore_n hexec hb V rfl h1 h2 h3 h4) k
  · obtain ⟨V, rfl⟩ := hV (by intros; exact Instr.noConfusion)
    exact mi_pl_svA (mi_sv_inv e) (fun h1 h2 h3 h4 => lv_astore hexec hb V h1 h2 h3 h4) k
  · obtain ⟨V, rfl⟩ := hV (by intros; exact Instr.noConfusion)
    exact mi_pl_svA (mi_sv_inv e) (fun h1 h2 h3 h4 => lv_astore_n hexec hb V rfl h1 h2 h3 h4) k
  · obtain ⟨V, rfl⟩ := hV (by intros; exact Instr.noConfusion)
    exact mi_pl_svL (mi_sv2_inv e) (fun h1 h2 h3 h4 => lv_lstore hexec hb V h1 h2 h3 h4) k
  · obtain ⟨V, rfl⟩ := hV (by intros; exact Instr.noConfusion)
    exact mi_pl_svL (mi_sv2_inv e) (fun h1 h2 h3 h4 => lv_lstore_n hexec hb V rfl h1 h2 h3 h4) k
  -- iinc
  · obtain ⟨V, rfl⟩ := hV (by intros; exact Instr.noConfusion)
    split at e
    · rename_i y z hy
      split at e
      · rename_i l1 hl1
        cases e
        have hV1 : Value.int z = _ := hV1
        cases hV1
        intro lr hl
        obtain ⟨g1, g2⟩ := mi_s1_ok (ad := ad) hl.2.2.1 hl1
        have hm := mi_lp_in (ad := ad) ls 0 _ _ hy
        obtain ⟨j, hj⟩ := List.getElem?_of_mem hm
        rw [Nat.zero_add] at hj
        exact lv_iinc hexec hb V hl.has hj rfl g1 rfl (fun lr' h' => k lr' (g2 lr' h'))
      · cases e
    · cases e
  -- two ints
  · obtain ⟨V, rfl⟩ := hV (by intros; exact Instr.noConfusion)
    obtain ⟨a, b, r, rfl, rfl⟩ := mi_b1_inv e
    exact fun lr hl => lv_iadd hexec hb V (k lr hl)
  · obtain ⟨V, rfl⟩ := hV (by intros; exact Instr.noConfusion)
    obtain ⟨a, b, r, rfl, rfl⟩ := mi_b1_inv e
    exact fun lr hl => lv_isub hexec hb V (k lr hl)
  · obtain ⟨V, rfl⟩ := hV (by intros; exact Instr.noConfusion)
    obtain ⟨a, b, r, rfl, rfl⟩ := mi_b1_inv e
    exact fun lr hl => lv_imul hexec hb V (k lr hl)
  · obtain ⟨V, rfl⟩ := hV (by intros; exact Instr.noConfusion)
    obtain ⟨a, b, r, rfl, rfl⟩ := mi_b1_inv e
    exact fun lr hl => lv_iand hexec hb V (k lr hl)
  · obtain ⟨V, rfl⟩ := hV (by intros; exact Instr.noConfusion)
    obtain ⟨a, b, r, rfl, rfl⟩ := mi_b1_inv e
    exact fun lr hl => lv_ior hexec hb V (k lr hl)
  · obtain ⟨V, rfl⟩ := hV (by intros; exact Instr.noConfusion)
    obtain ⟨a, b, r, rfl, rfl⟩ := mi_b1_inv e
    exact fun lr hl => lv_ixor hexec hb V (k lr hl)
  · obtain ⟨V, rfl⟩ := hV (by intros; exact Instr.noConfusion)
    obtain ⟨a, b, r, rfl, rfl⟩ := mi_b1_inv e
    exact fun lr hl => lv_ishl hexec hb V (k lr hl)
  · obtain ⟨V, rfl⟩ := hV (by intros; exact Instr.noConfusion)
    obtain ⟨a, b, r, rfl, rfl⟩ := mi_b1_inv e
    exact fun lr hl => lv_ishr hexec hb V (k lr hl)
  · obtain ⟨V, rfl⟩ := hV (by intros; exact Instr.noConfusion)
    obtain ⟨a, b, r, rfl, h0, rfl⟩ := mi_d1_inv e
    exact fun lr hl => lv_idiv hexec hb V h0 (k lr hl)
  · obtain ⟨V, rfl⟩ := hV (by intros; exact Instr.noConfusion)
    obtain ⟨a, b, r, rfl, h0, rfl⟩ := mi_d1_inv e
    exact fun lr hl => lv_irem hexec hb V h0 (k lr hl)
  -- one
  · obtain ⟨V, rfl⟩ := hV (by intros; exact Instr.noConfusion)
    obtain ⟨a, r, rfl, rfl⟩ := mi_u1_inv e
    exact fun lr hl => lv_ineg hexec hb V (k lr hl)
  · obtain ⟨V, rfl⟩ := hV (by intros; exact Instr.noConfusion)
    obtain ⟨a, r, rfl, rfl⟩ := mi_u1_inv e
    exact fun lr hl => lv_i2l hexec hb V rfl (k lr hl)
  · obtain ⟨V, rfl⟩ := hV (by intros; exact Instr.noConfusion)
    obtain ⟨a, r, rfl, rfl⟩ := mi_u1_inv e
    exact fun lr hl => lv_i2c hexec hb V rfl (k lr hl)
  · obtain ⟨V, rfl⟩ := hV (by intros; exact Instr.noConfusion)
    obtain ⟨a, r, rfl, rfl⟩ := mi_u2_inv e
    exact fun lr hl => lv_l2i hexec hb V rfl (k lr hl)
  -- two longs
  · obtain ⟨V, rfl⟩ := hV (by intros; exact Instr.noConfusion)
    obtain ⟨a, b, r, rfl, rfl⟩ := mi_b2_inv e
    exact fun lr hl => lv_ladd hexec hb V (k lr hl)
  · obtain ⟨V, rfl⟩ := hV (by intros; exact Instr.noConfusion)
    obtain ⟨a, b, r, rfl, rfl⟩ := mi_b2_inv e
    exact fun lr hl => lv_lsub hexec hb V (k lr hl)
  · obtain ⟨V, rfl⟩ := hV (by intros; exact Instr.noConfusion)
    obtain ⟨a, b, r, rfl, rfl⟩ := mi_b2_inv e
    exact fun lr hl => lv_lmul hexec hb V (k lr hl)
  · obtain ⟨V, rfl⟩ := hV (by intros; exact Instr.noConfusion)
    obtain ⟨a, b, r, rfl, rfl⟩ := mi_b2_inv e
    exact fun lr hl => lv_land hexec hb V (k lr hl)
  · obtain ⟨V, rfl⟩ := hV (by intros; exact Instr.noConfusion)
    obtain ⟨a, b, r, rfl, rfl⟩ := mi_b2_inv e
    exact fun lr hl => lv_lor hexec hb V (k lr hl)
  · obtain ⟨V, rfl⟩ := hV (by intros; exact Instr.noConfusion)
    obtain ⟨a, b, r, rfl, h0, rfl⟩ := mi_d2_inv e
    exact fun lr hl => lv_ldiv hexec hb V h0 (k lr hl)
  · obtain ⟨V, rfl⟩ := hV (by intros; exact Instr.noConfusion)
    obtain ⟨a, b, r, rfl, h0, rfl⟩ := mi_d2_inv e
    exact fun lr hl => lv_lrem hexec hb V h0 (k lr hl)
  · obtain ⟨V, rfl⟩ := hV (by intros; exact Instr.noConfusion)
    obtain ⟨a, b, r, rfl, rfl⟩ := mi_b3_inv e
    exact fun lr hl => lv_lshl hexec hb V rfl (k lr hl)
  · obtain ⟨V, rfl⟩ := hV (by intros; exact Instr.noConfusion)
    obtain ⟨a, b, r, rfl, rfl⟩ := mi_b3_inv e
    exact fun lr hl => lv_lshr hexec hb V rfl (k lr hl)
  -- lcmp
  · obtain ⟨V, rfl⟩ := hV (by intros; exact Instr.noConfusion)
    split at e
    · cases e
      exact fun lr hl => W.lcmp hexec hb V (k lr hl)
    · cases e
  -- dup
  · obtain ⟨V, rfl⟩ := hV (by intros; exact Instr.noConfusion)
    split at e
    · rename_i v r
      cases h1 : mi_is1 v with
      | false => rw [h1] at e; cases e
      | true =>
        rw [h1] at e
        cases e
        exact fun lr hl => lv_dup hexec hb V (by rw [mi_cat]; exact mi_is1_eq h1) (k lr hl)
    · cases e
  -- pop
  · obtain ⟨V, rfl⟩ := hV (by intros; exact Instr.noConfusion)
    split at e
    · rename_i v r
      cases h1 : mi_is1 v with
      | false => rw [h1] at e; cases e
      | true =>
        rw [h1] at e
        cases e
        exact fun lr hl => lv_pop hexec hb V (by rw [mi_cat]; exact mi_is1_eq h1) (k lr hl)
    · cases e
  -- dup_x1
  · obtain ⟨V, rfl⟩ := hV (by intros; exact Instr.noConfusion)
    split at e
    · rename_i v u r
      cases h1 : (mi_is1 v && mi_is1 u) with
      | false => rw [h1] at e; cases e
      | true =>
        rw [h1] at e
        cases e
        rw [Bool.and_eq_true] at h1
        exact fun lr hl => lv_dup_x1 hexec hb V (by rw [mi_cat]; exact mi_is1_eq h1.1) (by rw [mi_cat]; exact mi_is1_eq h1.2) (k lr hl)
    · cases e
  -- dup_x2
  · obtain ⟨V, rfl⟩ := hV (by intros; exact Instr.noConfusion)
    split at e
    · rename_i v u t r
      cases h1 : (mi_is1 v && (mi_is1 u && mi_is1 t)) with
      | false => rw [h1] at e; cases e
      | true =>
        rw [h1] at e
        cases e
        rw [Bool.and_eq_true, Bool.and_eq_true] at h1
        exact fun lr hl => lv_dup_x2 hexec hb V (by rw [mi_cat]; exact mi_is1_eq h1.1) (by rw [mi_cat]; exact mi_is1_eq h1.2.1) (by rw [mi_cat]; exact mi_is1_eq h1.2.2) (k lr hl)
    · cases e
  -- dup2
  · obtain ⟨V, rfl⟩ := hV (by intros; exact Instr.noConfusion)
    split at e
    · rename_i v u r
      cases h1 : (mi_is1 v && mi_is1 u) with
      | false => rw [h1] at e; cases e
      | true =>
        rw [h1] at e
        cases e
        rw [Bool.and_eq_true] at h1
        exact fun lr hl => lv_dup2_11 hexec hb V (by rw [mi_cat]; exact mi_is1_eq h1.1) (by rw [mi_cat]; exact mi_is1_eq h1.2) (k lr hl)
    · cases e
  -- goto
  · obtain ⟨V, rfl⟩ := hV (by intros; exact Instr.noConfusion)
    cases e
    exact fun lr hl => lv_goto hexec hb V hV1 (k lr hl)
  -- ifCond
  · rename_i cd off
    obtain ⟨V, rfl⟩ := hV (by intros; exact Instr.noConfusion)
    split at e
    · rename_i y r
      cases e
      intro lr hl
      have k1 := k lr hl
      dsimp only at k1
      cases cd with
      | eq =>
        refine lv_if_eq hexec hb V hV1 (fun h => ?_) (fun h => ?_)
        · simp only [mi_c0, decide_eq_true h, cond_true] at k1; exact k1
        · simp only [mi_c0, decide_eq_false h, cond_false] at k1; exact k1
      | ne =>
        refine lv_if_ne hexec hb V hV1 (fun h => ?_) (fun h => ?_)
        · simp only [mi_c0, decide_eq_true h, cond_true] at k1; exact k1
        · simp only [mi_c0, decide_eq_false (show ¬ ¬ y = 0 from fun q => q h), cond_false] at k1; exact k1
      | lt =>
        refine lv_if_lt hexec hb V hV1 (fun h => ?_) (fun h => ?_)
        · simp only [mi_c0, decide_eq_true h, cond_true] at k1; exact k1
        · simp only [mi_c0, decide_eq_false h, cond_false] at k1; exact k1
      | ge =>
        refine lv_if_ge hexec hb V hV1 (fun h => ?_) (fun h => ?_)
        · simp only [mi_c0, decide_eq_true h, cond_true] at k1; exact k1
        · simp only [mi_c0, decide_eq_false h, cond_false] at k1; exact k1
      | gt =>
        refine lv_if_gt hexec hb V hV1 (fun h => ?_) (fun h => ?_)
        · simp only [mi_c0, decide_eq_true h, cond_true] at k1; exact k1
        · simp only [mi_c0, decide_eq_false h, cond_false] at k1; exact k1
      | le =>
        refine lv_if_le hexec hb V hV1 (fun h => ?_) (fun h => ?_)
        · simp only [mi_c0, decide_eq_true h, cond_true] at k1; exact k1
        · simp only [mi_c0, decide_eq_false h, cond_false] at k1; exact k1
    · cases e
  -- if_icmp
  · rename_i cd off
    obtain ⟨V, rfl⟩ := hV (by intros; exact Instr.noConfusion)
    split at e
    · rename_i y z r
      cases e
      intro lr hl
      have k1 := k lr hl
      dsimp only at k1
      cases cd with
      | eq =>
        refine lv_icmp_eq hexec hb V hV1 (fun h => ?_) (fun h => ?_)
        · simp only [mi_c2, decide_eq_true h, cond_true] at k1; exact k1
        · simp only [mi_c2, decide_eq_false h, cond_false] at k1; exact k1
      | ne =>
        refine lv_icmp_ne hexec hb V hV1 (fun h => ?_) (fun h => ?_)
        · simp only [mi_c2, decide_eq_true h, cond_true] at k1; exact k1
        · simp only [mi_c2, decide_eq_false (show ¬ ¬ z = y from fun q => q h), cond_false] at k1; exact k1
      | lt =>
        refine lv_icmp_lt hexec hb V hV1 (fun h => ?_) (fun h => ?_)
        · simp only [mi_c2, decide_eq_true h, cond_true] at k1; exact k1
        · simp only [mi_c2, decide_eq_false h, cond_false] at k1; exact k1
      | ge =>
        refine lv_icmp_ge hexec hb V hV1 (fun h => ?_) (fun h => ?_)
        · simp only [mi_c2, decide_eq_true h, cond_true] at k1; exact k1
        · simp only [mi_c2, decide_eq_false h, cond_false] at k1; exact k1
      | gt =>
        refine lv_icmp_gt hexec hb V hV1 (fun h => ?_) (fun h => ?_)
        · simp only [mi_c2, decide_eq_true h, cond_true] at k1; exact k1
        · simp only [mi_c2, decide_eq_false h, cond_false] at k1; exact k1
      | le =>
        refine lv_icmp_le hexec hb V hV1 (fun h => ?_) (fun h => ?_)
        · simp only [mi_c2, decide_eq_true h, cond_true] at k1; exact k1
        · simp only [mi_c2, decide_eq_false h, cond_false] at k1; exact k1
    · cases e
  -- tableswitch
  · rename_i d0 lo0 hi0 offs0
    have V : ∃ len, decode cc pc = .ok (Instr.tableswitch d0 lo0 hi0 offs0, len) := by
      rcases V with h | ⟨d, lo, hi, offs, -, h⟩
      · exact ⟨_, h⟩
      · exact h
    obtain ⟨len, V⟩ := V
    split at e
    · rename_i y r
      split at e
      · rename_i off ho
        split at e
        · rename_i t ht
          cases e
          intro lr hl
          have k1 := k lr hl
          dsimp only at k1
          have ht2 : (pc : Int) + off = (t : Int) := by
            unfold mi_tgt at ht
            split at ht
            · rename_i t2 h2
              cases ht
              exact h2
            · cases ht
          unfold mi_sw at ho
          cases hc : (decide (y.toInt < lo0) || decide (hi0 < y.toInt)) with
          | true =>
            rw [hc] at ho
            cases ho
            refine lv_tableOut hexec hb V ?_ ht2 k1
            simpa using hc
          | false =>
            rw [hc] at ho
            rw [Bool.or_eq_false_iff, decide_eq_false_iff_not, decide_eq_false_iff_not] at hc
            exact lv_tableIn hexec hb V hc.1 hc.2 ho ht2 k1
        · cases e
      · cases e
    · cases e
  · cases e
end SIM
end
section
/-! The machine does what the mini does: cells. -/
def mi_sz (x : mE) : Nat := match x with
  | .inl q => q.2.1
  | .inr q => q.2.length
def mi_sl : mH → Nat
  | [] => 0
  | x :: r => mi_sz x + mi_sl r
theorem mi_sl_set : ∀ (h : mH) (q : Nat) (x y : mE), h[q]? = some y → mi_sz x = mi_sz y → mi_sl (h.set q x) = mi_sl h := by
  intro h
  induction h with
  | nil => intro q x y e; simp at e
  | cons z r ih =>
    intro q x y e hs
    cases q with
    | zero =>
      simp only [List.getElem?_cons_zero, Option.some.injEq] at e
      subst e
      simp [mi_sl, hs]
    | succ q =>
      simp only [List.getElem?_cons_succ] at e
      simp [mi_sl, ih q x y e hs]
theorem mi_sl_app (x : mE) : ∀ (h : mH), mi_sl (h ++ [x]) = mi_sl h + mi_sz x := by
  intro h
  induction h with
  | nil => simp [mi_sl]
  | cons z r ih => simp [mi_sl, ih, Nat.add_assoc]
def mi_le (h h1 : mH) : Prop := h.length ≤ h1.length ∧ mi_sl h ≤ mi_sl h1
theorem mi_le.rf {h : mH} : mi_le h h := ⟨Nat.le_refl _, Nat.le_refl _⟩
theorem mi_le.tr {h h1 h2 : mH} (a : mi_le h h1) (b : mi_le h1 h2) : mi_le h h2 := ⟨Nat.le_trans a.1 b.1, Nat.le_trans a.2 b.2⟩
theorem mi_le_set {h : mH} {q : Nat} {x y : mE} (e : h[q]? = some y) (hs : mi_sz x = mi_sz y) : mi_le h (h.set q x) := ⟨by rw [List.length_set]; exact Nat.le_refl _, by rw [mi_sl_set h q x y e hs]; exact Nat.le_refl _⟩
theorem mi_le_app {h : mH} {x : mE} : mi_le h (h ++ [x]) := ⟨by simp, by rw [mi_sl_app]; omega⟩
theorem mi_pf_inv {F : List (List Nat)} {a b q : Nat} {v : Value} {h h1 : mH} (e : mi_pf1 F a b q v h = some h1) : ∃ fs, h[q]? = some (.inr (a, fs)) ∧ b < fs.length ∧ mi_fits ((F.getD a []).getD b 9) v = true ∧ h1 = h.set q (.inr (a, fs.set b v)) := by
  unfold mi_pf1 at e
  split at e
  · rename_i c fs hq
    cases hb : (Nat.beq c a && (Nat.blt b fs.length && mi_fits ((F.getD a []).getD b 9) v)) with
    | false => rw [hb] at e; cases e
    | true =>
      rw [hb] at e
      cases e
      rw [Bool.and_eq_true, Bool.and_eq_true, Nat.blt_eq] at hb
      have hc := Nat.eq_of_beq_eq_true hb.1
      subst hc
      exact ⟨fs, hq, hb.2.1, hb.2.2, rfl⟩
  · cases e
theorem mi_gf_inv {a b q : Nat} {v : Value} {h : mH} (e : mi_gf1 a b q h = some v) : ∃ fs, h[q]? = some (.inr (a, fs)) ∧ fs[b]? = some v := by
  unfold mi_gf1 at e
  split at e
  · rename_i c fs hq
    cases hb : Nat.beq c a with
    | false => rw [hb] at e; cases e
    | true =>
      rw [hb] at e
      have hc := Nat.eq_of_beq_eq_true hb
      subst hc
      exact ⟨fs, hq, e⟩
  · cases e
theorem mi_ld_inv1 {X : Nat × (Nat → Int32)} {t q : Nat} {i : Int32} {v : Value} {h : mH} (e : mi_ld1 X t q i h = some v) : (q = 999 ∧ t = 0 ∧ mi_in i X.1 = true ∧ v = .int (X.2 i.toNatClampNeg)) ∨ (∃ n f, h[q]? = some (.inl (t, n, .inl f)) ∧ t < 3 ∧ mi_in i n = true ∧ v = .int (f i.toNatClampNeg)) ∨ (∃ n f, h[q]? = some (.inl (t, n, .inr (.inl f))) ∧ t = 3 ∧ mi_in i n = true ∧ v = .long (f i.toNatClampNeg)) := by
  unfold mi_ld1 at e
  cases h9 : Nat.beq q 999 with
  | true =>
    rw [h9] at e
    dsimp only [cond_true] at e
    cases hb : (Nat.beq t 0 && mi_in i X.1) with
    | false => rw [hb] at e; cases e
    | true =>
      rw [hb] at e
      cases e
      rw [Bool.and_eq_true] at hb
      exact Or.inl ⟨Nat.eq_of_beq_eq_true h9, Nat.eq_of_beq_eq_true hb.1, hb.2, rfl⟩
  | false =>
    rw [h9] at e
    dsimp only [cond_false] at e
    split at e
    · rename_i u n f hq
      cases hb : (Nat.beq u t && (Nat.blt t 3 && mi_in i n)) with
      | false => rw [hb] at e; cases e
      | true =>
        rw [hb] at e
        cases e
        rw [Bool.and_eq_true, Bool.and_eq_true, Nat.blt_eq] at hb
        have hc := Nat.eq_of_beq_eq_true hb.1
        subst hc
        exact Or.inr (Or.inl ⟨n, f, hq, hb.2.1, hb.2.2, rfl⟩)
    · rename_i u n f hq
      cases hb : (Nat.beq u t && (Nat.beq t 3 && mi_in i n)) with
      | false => rw [hb] at e; cases e
      | true =>
        rw [hb] at e
        cases e
        rw [Bool.and_eq_true, Bool.and_eq_true] at hb
        have hc := Nat.eq_of_beq_eq_true hb.1
        subst hc
        exact Or.inr (Or.inr ⟨n, f, hq, Nat.eq_of_beq_eq_true hb.2.1, hb.2.2, rfl⟩)
    · cases e
theorem mi_sa_inv {t q : Nat} {i : Int32} {v : Value} {h h1 : mH} (e : mi_sa1 t q i v h = some h1) : (∃ n f x, h[q]? = some (.inl (t, n, .inl f)) ∧ t < 3 ∧ mi_in i n = true ∧ v = .int x ∧ h1 = h.set q (.inl (t, n, .inl (upd f i.toNatClampNeg (mi_nar t x))))) ∨ (∃ n f x, h[q]? = some (.inl (t, n, .inr (.inl f))) ∧ t = 3 ∧ mi_in i n = true ∧ v = .long x ∧ h1 = h.set q (.inl (t, n, .inr (.inl (vp_updL f i.toNatClampNeg x))))) := by
  unfold mi_sa1 at e
  split at e
  · rename_i u n f hq
    split at e
    · rename_i x
      cases hb : (Nat.beq u t && (Nat.blt t 3 && mi_in i n)) with
      | false => rw [hb] at e; cases e
      | true =>
        rw [hb] at e
        cases e
        rw [Bool.and_eq_true, Bool.and_eq_true, Nat.blt_eq] at hb
        have hc := Nat.eq_of_beq_eq_true hb.1
        subst hc
        exact Or.inl ⟨n, f, x, hq, hb.2.1, hb.2.2, rfl, rfl⟩
    · cases e
  · rename_i u n f hq
    split at e
    · rename_i x
      cases hb : (Nat.beq u t && (Nat.beq t 3 && mi_in i n)) with
      | false => rw [hb] at e; cases e
      | true =>
        rw [hb] at e
        cases e
        rw [Bool.and_eq_true, Bool.and_eq_true] at hb
        have hc := Nat.eq_of_beq_eq_true hb.1
        subst hc
        exact Or.inr ⟨n, f, x, hq, Nat.eq_of_beq_eq_true hb.2.1, hb.2.2, rfl, rfl⟩
    · cases e
  · cases e
theorem mi_cp_inv {a : Nat} {x : Int32} {b : Nat} {y n : Int32} {h h1 : mH} (e : mi_cp1 a x b y n h = some h1) : ∃ n0 f n1 g, h[a]? = some (.inl (1, n0, .inl f)) ∧ h[b]? = some (.inl (1, n1, .inl g)) ∧ mi_cq x y n n0 n1 = true ∧ mi_fc f x.toNatClampNeg n.toNatClampNeg = true ∧ h1 = h.set b (.inl (1, n1, .inl (va_cpy f g x.toNatClampNeg y.toNatClampNeg n.toNatClampNeg))) := by
  unfold mi_cp1 at e
  split at e
  · rename_i u n0 f hq
    split at e
    · rename_i v n1 g hq1
      cases hb : (Nat.beq u 1 && (Nat.beq v 1 && (mi_cq x y n n0 n1 && mi_fc f x.toNatClampNeg n.toNatClampNeg))) with
      | false => rw [hb] at e; cases e
      | true =>
        rw [hb] at e
        cases e
        rw [Bool.and_eq_true, Bool.and_eq_true, Bool.and_eq_true] at hb
        have hc := Nat.eq_of_beq_eq_true hb.1
        have hd := Nat.eq_of_beq_eq_true hb.2.1
        subst hc
        subst hd
        exact ⟨n0, f, n1, g, hq, hq1, hb.2.2.1, hb.2.2.2, rfl⟩
    · cases e
  · cases e
theorem mi_nw_inv {F : List (List Nat)} {a q : Nat} {h h1 : mH} (e : mi_nw1 F a h = some (q, h1)) : ∃ ks, F[a]? = some ks ∧ h.length < 900 ∧ q = h.length ∧ h1 = h ++ [.inr (a, ks.map mi_dv)] := by
  unfold mi_nw1 at e
  split at e
  · rename_i ks hk
    cases hb : Nat.blt h.length 900 with
    | false => rw [hb] at e; cases e
    | true =>
      rw [hb] at e
      cases e
      rw [Nat.blt_eq] at hb
      exact ⟨ks, hk, hb, rfl, rfl⟩
  · cases e
theorem mi_na_inv {t : Nat} {n : Int32} {q : Nat} {h h1 : mH} (e : mi_na1 t n h = some (q, h1)) : t < 4 ∧ ¬ n < 0 ∧ n.toNatClampNeg ≤ 1000 ∧ h.length < 900 ∧ q = h.length ∧ h1 = h ++ [.inl (t, n.toNatClampNeg, bif Nat.beq t 3 then .inr (.inl (fun _ => 0)) else .inl (fun _ => 0))] := by
  unfold mi_na1 at e
  cases hb : (Nat.blt t 4 && (!(decide (n < 0)) && (Nat.ble n.toNatClampNeg 1000 && Nat.blt h.length 900))) with
  | false => rw [hb] at e; cases e
  | true =>
    rw [hb] at e
    cases e
    rw [Bool.and_eq_true, Bool.and_eq_true, Bool.and_eq_true, Nat.blt_eq, Nat.blt_eq, Nat.ble_eq] at hb
    exact ⟨hb.1, by simpa using hb.2.1, hb.2.2.1, hb.2.2.2, rfl, rfl⟩
theorem mi_hp_le {F : List (List Nat)} {X : Nat × (Nat → Int32)} {i : Instr} {a b : Nat} {st st1 : List Value} {h h1 : mH} (e : mi_hp (mi_O1 F X) i a b st h = some (st1, h1)) : mi_le h h1 := by
  have al : ∀ t, mi_al (mi_O1 F X) t st h = some (st1, h1) → mi_le h h1 := by
    intro t e
    unfold mi_al at e
    split at e
    · split at e
      · cases e; exact mi_le.rf
      · cases e
    · cases e
  have as : ∀ t, mi_as (mi_O1 F X) t st h = some (st1, h1) → mi_le h h1 := by
    intro t e
    unfold mi_as at e
    split at e
    · split at e
      · rename_i h2 hh
        cases e
        rcases mi_sa_inv hh with ⟨n, f, x, hq, -, -, -, rfl⟩ | ⟨n, f, x, hq, -, -, -, rfl⟩
        · exact mi_le_set hq rfl
        · exact mi_le_set hq rfl
      · cases e
    · cases e
  unfold mi_hp at e
  split at e
  · split at e
    · split at e
      · cases e; exact mi_le.rf
      · cases e
    · cases e
  · split at e
    · split at e
      · rename_i h2 hh
        cases e
        obtain ⟨fs, hq, -, -, rfl⟩ := mi_pf_inv hh
        exact mi_le_set hq (by simp [mi_sz])
      · cases e
    · cases e
  · exact al _ e
  · exact al _ e
  · exact al _ e
  · exact al _ e
  · exact as _ e
  · exact as _ e
  · exact as _ e
  · exact as _ e
  · split at e
    · split at e
      · cases e; exact mi_le.rf
      · cases e
    · cases e
  · split at e
    · rename_i q h2 hh
      cases e
      obtain ⟨ks, -, -, -, rfl⟩ := mi_nw_inv hh
      exact mi_le_app
    · cases e
  · split at e
    · split at e
      · rename_i q h2 hh
        cases e
        obtain ⟨-, -, -, -, -, rfl⟩ := mi_na_inv hh
        exact mi_le_app
      · cases e
    · cases e
  · cases e
abbrev mi_cle (cal : Nat → List Value → mH → Option (mA mH)) : Prop := ∀ j as h v h1, cal j as h = some (v, h1) → mi_le h h1
theorem mi_cl_le {O : mOp mH} {PR cal : Nat → List Value → mH → Option (mA mH)} (hp : mi_cle PR) (hc : mi_cle cal) {nx a b c : Nat} {ls : mL} {st : List Value} {h : mH} {x : mS mH} (e : mi_cl O PR cal nx a b c ls st h = some x) : mi_le h x.2.2.2 := by
  unfold mi_cl at e
  split at e
  · rename_i as r ht
    cases hb : (Nat.ble (mi_cats r) 8 && mi_rc O c as h) with
    | false => rw [hb] at e; cases e
    | true =>
      rw [hb] at e
      dsimp only [cond_true] at e
      split at e
      · rename_i v h1 hv
        cases e
        cases hk : Nat.blt a 1000 with
        | true => rw [hk] at hv; exact hc _ _ _ _ _ hv
        | false => rw [hk] at hv; exact hp _ _ _ _ _ hv
      · cases e
  · cases e
theorem mi_re_eq {α : Type} {i : Instr} {ret : Option FieldType} {st : List Value} {h : α} {x : mA α} (e : mi_re i ret st h = some x) : x.2 = h := by
  unfold mi_re at e
  split at e
  · split at e
    · cases hb : mi_nr _ _ with
      | false => rw [hb] at e; cases e
      | true => rw [hb] at e; cases e; rfl
    · cases e
  · split at e
    · cases e; rfl
    · cases e
  · split at e
    · cases e; rfl
    · cases e
  · cases e
theorem mi_one_le {F : List (List Nat)} {X : Nat × (Nat → Int32)} {PR cal : Nat → List Value → mH → Option (mA mH)} (hp : mi_cle PR) (hc : mi_cle cal) {tb : mB} {ret : Option FieldType} {s : mS mH} {x : mS mH ⊕ mA mH} (e : mi_one (mi_O1 F X) PR cal tb ret s = some x) : mi_le s.2.2.2 (match x with
    | .inl y => y.2.2.2
    | .inr y => y.2) := by
  unfold mi_one at e
  split at e
  · cases e
  · rename_i q hl
    split at e
    · split at e
      · cases e; exact mi_le.rf
      · cases e
    · split at e
      · rename_i y hy
        obtain ⟨y1, y2⟩ := y
        cases e
        exact mi_hp_le hy
      · cases e
    · split at e
      · rename_i y hy
        cases e
        exact mi_cl_le hp hc hy
      · cases e
    · split at e
      · rename_i y hy
        cases e
        dsimp only
        rw [mi_re_eq hy]
        exact mi_le.rf
      · cases e
theorem mi_ex_le {F : List (List Nat)} {X : Nat × (Nat → Int32)} {PR cal : Nat → List Value → mH → Option (mA mH)} (hp : mi_cle PR) (hc : mi_cle cal) {tb : mB} {ret : Option FieldType} : ∀ (n : Nat) (s : mS mH) (r : mA mH), mi_ex (mi_O1 F X) PR cal tb ret n s = some r → mi_le s.2.2.2 r.2 := by
  intro n
  induction n with
  | zero => intro s r e; cases e
  | succ n ih =>
    intro s r e
    unfold mi_ex at e
    split at e
    · rename_i s1 h1
      exact (mi_one_le hp hc h1).tr (ih s1 r e)
    · rename_i y h1
      cases e
      exact mi_one_le hp hc h1
    · cases e
theorem mi_run_le {F : List (List Nat)} {X : Nat × (Nat → Int32)} {PR : Nat → List Value → mH → Option (mA mH)} (hp : mi_cle PR) {M : List mM} : ∀ (d n : Nat), mi_cle (mi_run (mi_O1 F X) PR M d n) := by
  intro d
  induction d with
  | zero => intro n j as h v h1 e; cases e
  | succ d ih =>
    intro n j as h v h1 e
    unfold mi_run at e
    split at e
    · rename_i q hq
      cases hb : Nat.ble (mi_fl as).length q.2.1 with
      | false => rw [hb] at e; cases e
      | true => rw [hb] at e; exact mi_ex_le hp (ih n) n _ _ e
    · cases e
theorem mi_pr_le {L : List (List Int32)} : mi_cle (mi_pr L mi_cp1) := by
  intro j as h v h1 e
  unfold mi_pr at e
  cases hb0 : Nat.beq j 1000 with
  | true =>
    rw [hb0] at e
    dsimp only [cond_true] at e
    split at e
    · cases e; exact mi_le.rf
    · cases e
  | false =>
    rw [hb0] at e
    dsimp only [cond_false] at e
    cases hb1 : Nat.beq j 1001 with
    | true =>
      rw [hb1] at e
      dsimp only [cond_true] at e
      split at e
      · cases e; exact mi_le.rf
      · cases e
    | false =>
      rw [hb1] at e
      dsimp only [cond_false] at e
      cases hb2 : Nat.beq j 1002 with
      | true =>
        rw [hb2] at e
        dsimp only [cond_true] at e
        split at e
        · split at e
          · rename_i h2 hh
            cases e
            obtain ⟨n0, f, n1, g, -, hq, -, -, rfl⟩ := mi_cp_inv hh
            exact mi_le_set hq rfl
          · cases e
        · cases e
      | false =>
        rw [hb2] at e
        dsimp only [cond_false] at e
        cases hb3 : Nat.beq j 1003 with
        | true =>
          rw [hb3] at e
          dsimp only [cond_true] at e
          split at e
          · split at e
            · cases e; exact mi_le.rf
            · cases e
          · cases e
        | false =>
          rw [hb3] at e
          dsimp only [cond_false] at e
          cases hb4 : Nat.beq j 1004 with
          | true =>
            rw [hb4] at e
            dsimp only [cond_true] at e
            split at e
            · split at e
              · rename_i i _ l hh
                cases hi : mi_in i l.length with
                | true => rw [hi] at e; cases e; exact mi_le.rf
                | false => rw [hi] at e; cases e
              · cases e
            · cases e
          | false => rw [hb4] at e; cases e
end
section
/-! The machine does what the mini does: the instructions that look at cells, calls, returns; a whole body. -/
def mi_tys (ct : Nat → ClassId) : List (ClassId × FieldType) := [(ct 0, .int), (ct 1, .char), (ct 2, .boolean), (ct 3, .long)]
def mi_Wd (D : va_G) (cl : List vw_C) (ct : Nat → ClassId) (ad : Nat → Nat) (h : mH) (H : Heap) : Prop := va_P D cl (mi_ws ct ad 0 h) H ∧ h.length ≤ 900
/-- what is fixed of the classes -/
def mi_St (cl : List vw_C) (F : List (List Nat)) (Ts : List Cond) : Prop := ∀ (a : Nat) (C : String) (T : u_T) (N : Nat), cl[a]? = some (C, T, N) → (∃ ty0 : Nat → FieldType, (∀ k, k < N → parseFieldDescriptor (T k).2.2.1 = some (ty0 k)) ∧ (∀ k, k < N → ((F.getD a []).getD k 9 = 0 → ty0 k = .int) ∧ ((F.getD a []).getD k 9 = 1 → ty0 k = .long) ∧ ((F.getD a []).getD k 9 = 2 → (∃ x, ty0 k = .object x) ∨ ∃ x, ty0 k = .array x)) ∧ ∀ j, j < N → defaultValue (ty0 j) = vp_V ((F.getD a []).map mi_dv) j) ∧ (∀ x, x < N → ∀ y, y < N → x ≠ y → (T x).2.1 ≠ (T y).2.1) ∧ (F.getD a []).length = N ∧ (∀ k, k < N → (T k).1 = C) ∧ ∀ w ∈ u_ws C T N, w ∈ Ts
def mi_ty (a : Nat) : Option FieldType := [FieldType.int, .char, .boolean, .long][a]?
/-- what the tables say of an entry -/
def mi_V2 (own : String) (cl : List vw_C) (s : State) (args : Array Value) (ini : Bool) (i : Instr) (a b : Nat) : Prop := match i with
  | .getfield k => ∃ C T N, cl[a]? = some (C, T, N) ∧ b < N ∧ (Jvm.Cond.fieldLink own k C (T b).2.1 (T b).2.2.1).before args s = true
  | .putfield k => ∃ C T N, cl[a]? = some (C, T, N) ∧ b < N ∧ (Jvm.Cond.fieldLink own k C (T b).2.1 (T b).2.2.1).before args s = true ∧ ((T b).2.2.2 = false ∨ ((T b).2.2.2 = true ∧ C = own ∧ ini = true))
  | .new k => ∃ C T N, cl[a]? = some (C, T, N) ∧ (Jvm.Cond.classLink own k C).before args s = true ∧ (Jvm.Cond.instantiable C N).before args s = true ∧ (Jvm.Cond.initialized C).before args s = true
  | .newarray t => mi_ty a = some (newarray.typeOf t) ∧ (Jvm.Cond.arrayClass (newarray.typeOf t)).before args s = true
  | _ => True
theorem mi_vp_in {i : Int32} {n : Nat} (h : mi_in i n = true) : vp_in i n := by
  unfold mi_in at h
  rw [Bool.and_eq_true, Nat.blt_eq] at h
  rintro (h1 | h1)
  · have := h.1
    rw [decide_eq_true h1] at this
    cases this
  · omega
theorem mi_fit {k : Nat} {v : Value} {ty : FieldType} {ad : Nat → Nat} (h : mi_fits k v = true) (g : (k = 0 → ty = .int) ∧ (k = 1 → ty = .long) ∧ (k = 2 → (∃ x, ty = .object x) ∨ ∃ x, ty = .array x)) : narrow ty (mi_v ad v) = mi_v ad v ∧ fits ty (mi_v ad v) = true := by
  cases v with
  | int x =>
    have := g.1 (Nat.eq_of_beq_eq_true h)
    subst this
    exact ⟨rfl, rfl⟩
  | long x =>
    have := g.2.1 (Nat.eq_of_beq_eq_true h)
    subst this
    exact ⟨rfl, rfl⟩
  | ref x =>
    rcases g.2.2 (Nat.eq_of_beq_eq_true h) with ⟨y, rfl⟩ | ⟨y, rfl⟩ <;> exact ⟨rfl, rfl⟩
  | _ => simp [mi_fits] at h
theorem mi_dv_v (ad : Nat → Nat) (k : Nat) : mi_v ad (mi_dv k) = mi_dv k := by
  unfold mi_dv
  cases Nat.beq k 0 <;> cases Nat.beq k 1 <;> rfl
section CELLS
variable {p : Program} {l : Launch} {ev : Env} {R : Room} {s : State} {m : MethodId} {args : Array Value} {below : List Frame} {meth : Method} {c : Code} {Q : State → Prop}
variable {cc : ByteArray} {nL : Nat} {D : va_G} {cl : List vw_C} {ct : Nat → ClassId} {base scr : Nat} {lit : Nat → Nat} {h0 : mH} {F : List (List Nat)} {X : Nat × (Nat → Int32)} {Ts : List Cond} {own : String}
def mi_Wm (p : Program) (l : Launch) (ev : Env) (R : Room) (s : State) (m : MethodId) (args : Array Value) (below : List Frame) (meth : Method) (c : Code) (Q : State → Prop) (nL : Nat) (D : va_G) (cl : List vw_C) (ct : Nat → ClassId) (base scr : Nat) (lit : Nat → Nat) (h0 : mH) (x : mS mH) : Prop :=
  ∀ (H : Heap) (locs : List Loc), mi_Wd D cl ct (mi_ad base scr lit) x.2.2.2 H → va_S (fun q => base ≤ q) s.heap H locs → mi_Wp p l ev R s m args below meth c H locs (x.2.2.2.length - h0.length) (mi_sl x.2.2.2 - mi_sl h0) Q nL (mi_ad base scr lit) (x.1, x.2.1, x.2.2.1)
theorem mi_size {H : Heap} {h : mH} {T : State} {locs : List Loc} {slots : Nat} (hw : mi_Wd D cl ct (mi_ad base scr lit) h H) (hs0 : s.heap.size = base + h0.length) (hge : h0.length ≤ h.length) (hT : T.heap = H) (St : Stand p l ev R s m args below meth c T locs (h.length - h0.length) slots) : H.size = base + h.length := by
  have h1 : T.heap.size ≤ s.heap.size + (h.length - h0.length) := St.same.2.2.1
  have h2 : s.heap.size ≤ T.heap.size := St.same.2.1
  rw [hT] at h1 h2
  have h3 : base + h.length ≤ H.size := by
    cases hn : h.length with
    | zero => omega
    | succ n =>
      have hx : h[n]? = some h[n] := List.getElem?_eq_getElem (by omega)
      have := (hw.1 n _ (mi_ws_get hx)).lt
      have hl := hw.2
      rw [show ((mi_ad base scr lit n, mi_e ct (mi_ad base scr lit) h[n]) : Nat × va_E).1 = base + n from mi_ad_lt (by omega)] at this
      omega
  omega
variable {pc nx a b : Nat} {i : Instr} {ls : mL} {st st1 : List Value} {h h1 : mH}
theorem mi_Wd.set {H1 : Heap} {q : Nat} {x : mE} {ad : Nat → Nat} (hP : va_P D cl ((mi_ws ct ad 0 h).set q (ad q, mi_e ct ad x)) H1) (hl : h.length ≤ 900) : mi_Wd D cl ct ad (h.set q x) H1 := ⟨by rw [mi_ws_set]; exact hP, by rw [List.length_set]; exact hl⟩
set_option maxHeartbeats 1000000 in
theorem mi_hp_ok (hexec : p.tables.exec = Jvm.exec) (hb : c.code = cc) (hown : s.vm.findClass own = some m.cls) (hts : ∀ w ∈ Ts, w.before args s = true) (hSt : mi_St cl F Ts) (hK : va_K D cl (mi_tys ct) s) (hX : va_X scr X.1 X.2 s s.heap) (hsc : scr < base) (hs0 : s.heap.size = base + h0.length) {ini : Bool} (hini : ini = true → meth.name = "<init>")
    (V : decode cc pc = .ok (i, mi_len i)) (hnx : nx = pc + mi_len i) (hV2 : mi_V2 own cl s args ini i a b) (hge : mi_le h0 h) (hR : h1.length - h0.length ≤ R.cells ∧ mi_sl h1 - mi_sl h0 ≤ R.slots)
    (e : mi_hp (mi_O1 F X) i a b st h = some (st1, h1)) (k : mi_Wm p l ev R s m args below meth c Q nL D cl ct base scr lit h0 (nx, ls, st1, h1)) : mi_Wm p l ev R s m args below meth c Q nL D cl ct base scr lit h0 (pc, ls, st, h) := by
  subst hnx
  have hA : ∀ q, s.heap.size ≤ q → (fun q => base ≤ q) q := fun q hq => by show base ≤ q; omega
  unfold mi_hp at e
  split at e
  -- getfield
  · split at e
    · rename_i q r
      split at e
      · rename_i v hv
        cases e
        obtain ⟨fs, hq, hf⟩ := mi_gf_inv hv
        obtain ⟨C, T, N, hc, hbN, hlink⟩ := hV2
        obtain ⟨-, g4, g5, g6, g7⟩ := hSt a C T N hc
        intro H locs hw hS lr hl
        exact va_get hexec hb hts g7 hown hK hw.1 q (mi_ws_get hq) hc b hbN hlink (by rw [g6 b hbN]; exact fun x hx => hx) (by rw [List.getElem?_map, hf]; rfl) V (k H locs hw hS lr hl)
      · cases e
    · cases e
  -- putfield
  · split at e
    · rename_i v q r
      split at e
      · rename_i h2 hv
        cases e
        obtain ⟨fs, hq, hlt, hfit, rfl⟩ := mi_pf_inv hv
        obtain ⟨C, T, N, hc, hbN, hlink, hfin⟩ := hV2
        obtain ⟨⟨ty0, g1, g2, g3⟩, g4, g5, g6, g7⟩ := hSt a C T N hc
        obtain ⟨f1, f2⟩ := mi_fit (ad := mi_ad base scr lit) hfit (g2 b hbN)
        have hsl := mi_sl_set h q (.inr (a, fs.set b v)) _ hq (by simp [mi_sz])
        intro H locs hw hS lr hl
        have kk : ∀ (H1 : Heap) (locs1 : List Loc), va_P D cl ((mi_ws ct (mi_ad base scr lit) 0 h).set q (mi_ad base scr lit q, .inr (a, (fs.map (mi_v (mi_ad base scr lit))).set b (mi_v (mi_ad base scr lit) v)))) H1 → va_D (fun q => base ≤ q) ((mi_ws ct (mi_ad base scr lit) 0 h).set q (mi_ad base scr lit q, .inr (a, (fs.map (mi_v (mi_ad base scr lit))).set b (mi_v (mi_ad base scr lit) v)))) → va_S (fun q => base ≤ q) s.heap H1 locs1 → W p l ev R s m args below meth c H1 locs1 (h.length - h0.length) (mi_sl h - mi_sl h0) Q (F0 m (pc + 3) lr (st1.map (mi_v (mi_ad base scr lit)))) := by
          intro H1 locs1 hP1 _ hS1
          have := k H1 locs1 (mi_Wd.set (x := .inr (a, fs.set b v)) (by simp only [mi_e, List.map_set]; exact hP1) hw.2) hS1 lr hl
          dsimp only at this
          rw [List.length_set, hsl] at this
          exact this
        rcases hfin with hfin | ⟨hfin, rfl, hi⟩
        · exact va_put hexec hb hts g7 ty0 g1 g4 hown hK hw.1 (mi_D hw.2) hS q (mi_ws_get hq) hc b hbN hlink (by rw [g6 b hbN]; exact fun x hx => hx) hfin (g1 b hbN) f1 f2 (by rw [List.length_map]; exact hlt) V kk
        · exact va_putF hexec hb hts g7 ty0 g1 g4 hown hK hw.1 (mi_D hw.2) hS q (mi_ws_get hq) hc b hbN hlink (by rw [g6 b hbN]; exact fun x hx => hx) hfin (hini hi) (g6 b hbN) (g1 b hbN) f1 f2 (by rw [List.length_map]; exact hlt) V kk
      · cases e
    · cases e
  -- iaload
  · unfold mi_al at e
    split at e
    · rename_i j q r
      split at e
      · rename_i v hv
        cases e
        intro H locs hw hS lr hl
        rcases mi_ld_inv1 hv with ⟨rfl, -, hin, rfl⟩ | ⟨n, f, hq, -, hin, rfl⟩ | ⟨n, f, hq, ht, hin, rfl⟩
        · exact va_sld (b := scr) hexec hb hX (by omega) (by show ¬ base ≤ scr; omega) hS (mi_vp_in hin) V (k H locs hw hS lr hl)
        · exact va_iald hexec hb hK hw.1 q 0 (mi_ws_get hq) rfl (mi_vp_in hin) V (k H locs hw hS lr hl)
        · cases ht
      · cases e
    · cases e
  -- caload
  · unfold mi_al at e
    split at e
    · rename_i j q r
      split at e
      · rename_i v hv
        cases e
        intro H locs hw hS lr hl
        rcases mi_ld_inv1 hv with ⟨-, ht, -, -⟩ | ⟨n, f, hq, -, hin, rfl⟩ | ⟨n, f, hq, ht, hin, rfl⟩
        · cases ht
        · exact va_cald hexec hb hK hw.1 q 1 (mi_ws_get hq) rfl (mi_vp_in hin) V (k H locs hw hS lr hl)
        · cases ht
      · cases e
    · cases e
  -- baload
  · unfold mi_al at e
    split at e
    · rename_i j q r
      split at e
      · rename_i v hv
        cases e
        intro H locs hw hS lr hl
        rcases mi_ld_inv1 hv with ⟨-, ht, -, -⟩ | ⟨n, f, hq, -, hin, rfl⟩ | ⟨n, f, hq, ht, hin, rfl⟩
        · cases ht
        · exact va_zald hexec hb hK hw.1 q 2 (mi_ws_get hq) rfl (mi_vp_in hin) V (k H locs hw hS lr hl)
        · cases ht
      · cases e
    · cases e
  -- laload
  · unfold mi_al at e
    split at e
    · rename_i j q r
      split at e
      · rename_i v hv
        cases e
        intro H locs hw hS lr hl
        rcases mi_ld_inv1 hv with ⟨-, ht, -, -⟩ | ⟨n, f, hq, ht, hin, rfl⟩ | ⟨n, f, hq, ht, hin, rfl⟩
        · cases ht
        · omega
        · exact va_lald hexec hb hK hw.1 q 3 (mi_ws_get hq) rfl (mi_vp_in hin) V (k H locs hw hS lr hl)
      · cases e
    · cases e
  -- iastore
  · unfold mi_as at e
    split at e
    · rename_i v j q r
      split at e
      · rename_i h2 hv
        cases e
        intro H locs hw hS lr hl
        rcases mi_sa_inv hv with ⟨n, f, y, hq, -, hin, rfl, rfl⟩ | ⟨n, f, y, hq, ht, hin, rfl, rfl⟩
        · refine va_iast hexec hb hK hw.1 (mi_D hw.2) hS q 0 (mi_ws_get hq) rfl (mi_vp_in hin) V (fun H1 locs1 hP1 _ hS1 => ?_)
          have := k H1 locs1 (mi_Wd.set (by exact hP1) hw.2) hS1 lr hl
          dsimp only at this
          rw [List.length_set, mi_sl_set h q (.inl (0, n, .inl (upd f j.toNatClampNeg (mi_nar 0 y)))) _ hq rfl] at this
          exact this
        · cases ht
      · cases e
    · cases e
  -- castore
  · unfold mi_as at e
    split at e
    · rename_i v j q r
      split at e
      · rename_i h2 hv
        cases e
        intro H locs hw hS lr hl
        rcases mi_sa_inv hv with ⟨n, f, y, hq, -, hin, rfl, rfl⟩ | ⟨n, f, y, hq, ht, hin, rfl, rfl⟩
        · refine va_cast hexec hb hK hw.1 (mi_D hw.2) hS q 1 (mi_ws_get hq) rfl (mi_vp_in hin) V (fun H1 locs1 hP1 _ hS1 => ?_)
          have := k H1 locs1 (mi_Wd.set (by exact hP1) hw.2) hS1 lr hl
          dsimp only at this
          rw [List.length_set, mi_sl_set h q (.inl (1, n, .inl (upd f j.toNatClampNeg (mi_nar 1 y)))) _ hq rfl] at this
          exact this
        · cases ht
      · cases e
    · cases e
  -- bastore
  · unfold mi_as at e
    split at e
    · rename_i v j q r
      split at e
      · rename_i h2 hv
        cases e
        intro H locs hw hS lr hl
        rcases mi_sa_inv hv with ⟨n, f, y, hq, -, hin, rfl, rfl⟩ | ⟨n, f, y, hq, ht, hin, rfl, rfl⟩
        · refine va_zast hexec hb hK hw.1 (mi_D hw.2) hS q 2 (mi_ws_get hq) rfl (mi_vp_in hin) V (fun H1 locs1 hP1 _ hS1 => ?_)
          have := k H1 locs1 (mi_Wd.set (by exact hP1) hw.2) hS1 lr hl
          dsimp only at this
          rw [List.length_set, mi_sl_set h q (.inl (2, n, .inl (upd f j.toNatClampNeg (mi_nar 2 y)))) _ hq rfl] at this
          exact this
        · cases ht
      · cases e
    · cases e
  -- lastore
  · unfold mi_as at e
    split at e
    · rename_i v j q r
      split at e
      · rename_i h2 hv
        cases e
        intro H locs hw hS lr hl
        rcases mi_sa_inv hv with ⟨n, f, y, hq, ht, hin, rfl, rfl⟩ | ⟨n, f, y, hq, ht, hin, rfl, rfl⟩
        · omega
        · refine va_last hexec hb hK hw.1 (mi_D hw.2) hS q 3 (mi_ws_get hq) rfl (mi_vp_in hin) V (fun H1 locs1 hP1 _ hS1 => ?_)
          have := k H1 locs1 (mi_Wd.set (by exact hP1) hw.2) hS1 lr hl
          dsimp only at this
          rw [List.length_set, mi_sl_set h q (.inl (3, n, .inr (.inl (vp_updL f j.toNatClampNeg y)))) _ hq rfl] at this
          exact this
      · cases e
    · cases e
  -- arraylength
  · split at e
    · rename_i q r
      split at e
      · rename_i n hv
        cases e
        intro H locs hw hS lr hl
        have hv : mi_ln1 X q h = some n := hv
        unfold mi_ln1 at hv
        cases h9 : Nat.beq q 999 with
        | true =>
          rw [h9] at hv
          have := Nat.eq_of_beq_eq_true h9
          subst this
          cases hv
          exact va_slen (b := scr) hexec hb hX (by omega) (by show ¬ base ≤ scr; omega) hS V (k H locs hw hS lr hl)
        | false =>
          rw [h9] at hv
          dsimp only [cond_false] at hv
          split at hv
          · rename_i u n1 f hq
            cases hu : Nat.blt u 4 with
            | false => rw [hu] at hv; cases hv
            | true =>
              rw [hu] at hv
              cases hv
              rw [Nat.blt_eq] at hu
              have ht : ∃ ty, (mi_tys ct)[u]? = some (ct u, ty) := by
                rcases (by omega : u = 0 ∨ u = 1 ∨ u = 2 ∨ u = 3) with rfl | rfl | rfl | rfl <;> exact ⟨_, rfl⟩
              obtain ⟨ty, ht⟩ := ht
              exact va_alen hexec hb hK hw.1 q u (mi_ws_get hq) ht rfl V (k H locs hw hS lr hl)
          · cases hv
      · cases e
    · cases e
  -- new
  · split at e
    · rename_i q h2 hv
      cases e
      obtain ⟨ks, hks, hlen, rfl, rfl⟩ := mi_nw_inv hv
      obtain ⟨C, T, N, hc, hcl, hinst, hinit⟩ := hV2
      obtain ⟨⟨ty0, g1, g2, g3⟩, g4, g5, g6, g7⟩ := hSt a C T N hc
      have hgd : F.getD a [] = ks := by rw [List.getD_eq_getElem?_getD, hks]; rfl
      rw [hgd] at g3 g5
      intro H locs hw hS lr hl T' hT' Sd
      have hsz := mi_size hw hs0 hge.1 hT' Sd
      have hKn := hK.1 a _ hc
      have had : mi_ad base scr lit h.length = base + h.length := mi_ad_lt hlen
      have hN : (ks.map mi_dv).length = N := by rw [List.length_map]; exact g5
      have e1 : (h ++ [Sum.inr (a, ks.map mi_dv)] : mH).length - h0.length = h.length - h0.length + 1 := by
        have := hge.1
        simp only [List.length_append, List.length_singleton]
        omega
      have e2 : mi_sl (h ++ [Sum.inr (a, ks.map mi_dv)]) - mi_sl h0 = mi_sl h - mi_sl h0 + N := by
        have := hge.2
        rw [mi_sl_app]
        simp only [mi_sz, hN]
        omega
      rw [e1, e2] at hR
      suffices key : W p l ev R s m args below meth c H locs (h.length - h0.length) (mi_sl h - mi_sl h0) Q (F0 m pc lr (st.map (mi_v (mi_ad base scr lit)))) from key T' hT' Sd
      refine W.newcK hexec hb hown hcl hinst hinit rfl V hR.1 hR.2 hKn.2.1 hsz (fun H1 kC hkC f1 z1 o1 => ?_)
      have hk : ∀ (j : Nat) (x : Nat × va_E), (mi_ws ct (mi_ad base scr lit) 0 h)[j]? = some x → H1[x.1]? = H[x.1]? := fun j x hx => o1 x.1 (by rw [← hsz]; exact (hw.1 j x hx).lt)
      have hfs : (ks.map mi_dv).map (mi_v (mi_ad base scr lit)) = ks.map mi_dv := by
        rw [List.map_map]
        apply List.map_congr_left
        intro y _
        exact mi_dv_v _ y
      have hw1 : mi_Wd D cl ct (mi_ad base scr lit) (h ++ [Sum.inr (a, ks.map mi_dv)]) H1 := by
        refine ⟨?_, by simp only [List.length_append, List.length_singleton]; omega⟩
        rw [mi_ws_app]
        refine (hw.1.kept hk).app (fun j x hx => ?_)
        have hz : j < 1 := (List.getElem?_eq_some_iff.mp hx).1
        rw [show j = 0 by omega] at hx
        cases hx
        rw [Nat.zero_add, had]
        show va_at D cl (base + h.length, .inr (a, (ks.map mi_dv).map _)) H1
        rw [hfs]
        exact ⟨_, hc, (u_born ty0 hts g7 hKn hkC f1 g1).to g3⟩
      have hS1 : va_S (fun q => base ≤ q) s.heap H1 locs := ⟨Nat.le_trans hS.1 (by omega), fun x x1 x2 => (o1 x (by have := hS.1; omega)).trans (hS.2.1 x x1 x2), hS.2.2⟩
      have := k H1 locs hw1 hS1 lr hl
      dsimp only at this
      rw [e1, e2] at this
      rw [← had]
      exact this
    · cases e
  -- newarray
  · rename_i aty
    split at e
    · rename_i n r
      split at e
      · rename_i q h2 hv
        cases e
        obtain ⟨ht4, hn0, hn1, hlen, rfl, rfl⟩ := mi_na_inv hv
        obtain ⟨hty, harr⟩ := hV2
        intro H locs hw hS lr hl T' hT' Sd
        have hsz := mi_size hw hs0 hge.1 hT' Sd
        have had : mi_ad base scr lit h.length = base + h.length := mi_ad_lt hlen
        have e1 : ∀ x : mE, (h ++ [x] : mH).length - h0.length = h.length - h0.length + 1 := by
          intro x
          have := hge.1
          simp only [List.length_append, List.length_singleton]
          omega
        have e2 : ∀ x : vp_A, x.1 = n.toNatClampNeg → mi_sl (h ++ [Sum.inl (a, x)]) - mi_sl h0 = mi_sl h - mi_sl h0 + n.toNatClampNeg := by
          intro x hx
          have := hge.2
          rw [mi_sl_app]
          simp only [mi_sz, hx]
          omega
        rw [e1, e2 _ rfl] at hR
        have hbytes : n.toNatClampNeg * componentBytes (newarray.typeOf aty) ≤ 536870912 := by
          have : componentBytes (newarray.typeOf aty) ≤ 8 := by cases aty <;> decide
          calc n.toNatClampNeg * componentBytes (newarray.typeOf aty) ≤ 1000 * 8 := Nat.mul_le_mul hn1 this
            _ ≤ 536870912 := by decide
        suffices key : W p l ev R s m args below meth c H locs (h.length - h0.length) (mi_sl h - mi_sl h0) Q (F0 m pc lr (.int n :: r.map (mi_v (mi_ad base scr lit)))) from key T' hT' Sd
        refine va_newaK hexec hb harr rfl V rfl hn0 rfl hbytes hR.1 hR.2 hsz (fun H1 cA f1 z1 o1 hAr hNm => ?_)
        have hk : ∀ (j : Nat) (x : Nat × va_E), (mi_ws ct (mi_ad base scr lit) 0 h)[j]? = some x → H1[x.1]? = H[x.1]? := fun j x hx => o1 x.1 (by rw [← hsz]; exact (hw.1 j x hx).lt)
        have hS1 : va_S (fun q => base ≤ q) s.heap H1 locs := ⟨Nat.le_trans hS.1 (by omega), fun x x1 x2 => (o1 x (by have := hS.1; omega)).trans (hS.2.1 x x1 x2), hS.2.2⟩
        have fin : ∀ x : vp_A, x.1 = n.toNatClampNeg → (bif Nat.beq a 3 then (Sum.inr (Sum.inl (fun _ => 0)) : (Nat → Int32) ⊕ (Nat → Int64) ⊕ (Nat → UInt32) ⊕ (Nat → UInt64) ⊕ (Nat → Option Nat)) else Sum.inl (fun _ => 0)) = x.2 → cA = ct a → vp_cell (ct a) x = arrV (ct a) n.toNatClampNeg (fun _ => defaultValue (newarray.typeOf aty)) → W p l ev R s m args below meth c H1 locs (h.length - h0.length + 1) (mi_sl h - mi_sl h0 + n.toNatClampNeg) Q (F0 m (pc + 2) lr (.ref (base + h.length) :: r.map (mi_v (mi_ad base scr lit)))) := by
          rintro ⟨x1, x2⟩ hx1 hx2 rfl hx3
          dsimp only at hx1 hx2
          subst hx1
          have hw1 : mi_Wd D cl ct (mi_ad base scr lit) (h ++ [Sum.inl (a, n.toNatClampNeg, x2)]) H1 := by
            refine ⟨?_, by simp only [List.length_append, List.length_singleton]; omega⟩
            rw [mi_ws_app]
            refine (hw.1.kept hk).app (fun j x hx => ?_)
            have hz : j < 1 := (List.getElem?_eq_some_iff.mp hx).1
            rw [show j = 0 by omega] at hx
            cases hx
            rw [Nat.zero_add, had]
            show H1[base + h.length]? = some (vp_cell (ct a) (n.toNatClampNeg, x2))
            rw [hx3]
            exact f1
          have := k H1 locs (by rw [hx2]; exact hw1) hS1 lr hl
          dsimp only at this
          rw [e1, e2 _ rfl] at this
          rw [← had]
          exact this
        have hcA : ∀ (ty : FieldType) (u : Nat), (mi_tys ct)[u]? = some (ct u, ty) → newarray.typeOf aty = ty → (∀ C, ty ≠ .object C) → cA = ct u := by
          intro ty u hu hty hno
          have h1 := (hK.2 u _ hu).2
          rw [hty] at hNm
          cases ty with
          | object C => exact absurd rfl (hno C)
          | _ => exact Option.some.inj (hNm.symm.trans h1)
        rcases (by omega : a = 0 ∨ a = 1 ∨ a = 2 ∨ a = 3) with rfl | rfl | rfl | rfl
        · have hty : newarray.typeOf aty = .int := (Option.some.inj hty).symm
          exact fin (n.toNatClampNeg, .inl (fun _ => 0)) rfl rfl (hcA .int 0 rfl hty (by intro C h; cases h)) (by rw [hty]; rfl)
        · have hty : newarray.typeOf aty = .char := (Option.some.inj hty).symm
          exact fin (n.toNatClampNeg, .inl (fun _ => 0)) rfl rfl (hcA .char 1 rfl hty (by intro C h; cases h)) (by rw [hty]; rfl)
        · have hty : newarray.typeOf aty = .boolean := (Option.some.inj hty).symm
          exact fin (n.toNatClampNeg, .inl (fun _ => 0)) rfl rfl (hcA .boolean 2 rfl hty (by intro C h; cases h)) (by rw [hty]; rfl)
        · have hty : newarray.typeOf aty = .long := (Option.some.inj hty).symm
          exact fin (n.toNatClampNeg, .inr (.inl (fun _ => 0))) rfl rfl (hcA .long 3 rfl hty (by intro C h; cases h)) (by rw [hty]; rfl)
      · cases e
    · cases e
  · cases e
end CELLS
end
section
/-! A whole body: the machine does what the mini does. -/
def mi_Qc (D : va_G) (cl : List vw_C) (ct : Nat → ClassId) (ad : Nat → Nat) (base : Nat) (v : Option Value) (h1 : mH) : Array Value → State → Outcome → State → Prop := fun _ st oc t => oc = .returned (v.map (mi_v ad)) ∧ mi_Wd D cl ct ad h1 t.heap ∧ va_F (fun q => base ≤ q) st t
theorem mi_take_ok : ∀ (n : Nat) (acc st as r : List Value), mi_take n acc st = some (as, r) → ∃ xs, st = xs ++ r ∧ as = xs.reverse ++ acc ∧ xs.length = n := by
  intro n
  induction n with
  | zero => intro acc st as r e; cases e; exact ⟨[], rfl, rfl, rfl⟩
  | succ n ih =>
    intro acc st as r e
    cases st with
    | nil => cases e
    | cons v st =>
      obtain ⟨xs, h1, h2, h3⟩ := ih (v :: acc) st as r e
      exact ⟨v :: xs, by rw [h1]; rfl, by rw [h2]; simp, by simp [h3]⟩
theorem mi_cats_eq (ad : Nat → Nat) : ∀ r : List Value, ((r.map (mi_v ad)).map fun v => v.category).sum = mi_cats r := by
  intro r
  induction r with
  | nil => rfl
  | cons v r ih => simp only [List.map_cons, List.sum_cons, mi_cats, ih, mi_cat]
section BODY
variable {p : Program} {l : Launch} {ev : Env} {R : Room} {s : State} {m : MethodId} {args : Array Value} {below : List Frame} {meth : Method} {c : Code}
variable {cc : ByteArray} {nL : Nat} {D : va_G} {cl : List vw_C} {ct : Nat → ClassId} {base scr : Nat} {lit : Nat → Nat} {h0 : mH} {F : List (List Nat)} {X : Nat × (Nat → Int32)} {Ts : List Cond} {own : String}
theorem mi_after {Q : State → Prop} {H : Heap} {locs : List Loc} {cells slots mc ms pc : Nat} {lr : Array Slot} {st0 rest : List Value} {ad : Nat → Nat} {v : Option Value} {h1 : mH} {a : Array Value} (hr : va_Run p l ev R s m args below meth c H locs cells slots mc ms (F0 m pc lr st0) rest (mi_Qc D cl ct ad base v h1 a) (fun q => base ≤ q)) (hS : va_S (fun q => base ≤ q) s.heap H locs)
    (k : ∀ (H1 : Heap) (locs1 : List Loc), mi_Wd D cl ct ad h1 H1 → va_S (fun q => base ≤ q) s.heap H1 locs1 → W p l ev R s m args below meth c H1 locs1 (cells + mc) (slots + ms) Q (F0 m (pc + 3) lr ((v.map (mi_v ad)).toList ++ rest))) : W p l ev R s m args below meth c H locs cells slots Q (F0 m pc lr st0) := by
  intro T hT Sd
  obtain ⟨v1, st₀, t, T', L, g0, Sd', hL, e1, e2, ⟨hv, hw, hz, hk⟩, st⟩ := hr T hT Sd
  cases hv
  rw [g0] at hz hk
  obtain ⟨t2, a1, b1⟩ := k T'.heap (locs ++ L) (by rw [e1]; exact hw)
    ⟨Nat.le_trans hS.1 (by rw [e1]; exact hz), fun q q1 q2 => by rw [e1, hk q (Nat.lt_of_lt_of_le q1 hS.1) q2]; exact hS.2.1 q q1 q2, fun q hq => by
      rcases List.mem_append.mp hq with h | h
      · exact hS.2.2 q h
      · exact hL q h⟩ T' rfl Sd'
  exact ⟨t2, st t2 a1, b1⟩
/-- a body's entries -/
def mi_VE (cc : ByteArray) (own : String) (cl : List vw_C) (s : State) (args : Array Value) (ini : Bool) (tb : mB) : Prop := ∀ (pc : Nat) (q : mI), mi_lk tb pc = some q → (decode cc pc = .ok (q.1, mi_len q.1) ∨ ∃ d lo hi offs, q.1 = .tableswitch d lo hi offs ∧ ∃ len, decode cc pc = .ok (q.1, len)) ∧ (q.2.1 = pc + mi_len q.1 ∨ ∃ d lo hi offs, q.1 = .tableswitch d lo hi offs) ∧ mi_V1 q.1 pc q.2.2.1 q.2.2.2.2.2 ∧ mi_V2 own cl s args ini q.1 q.2.2.1 q.2.2.2.1
theorem mi_nr_ok {ty : FieldType} {v : Int32} (h : mi_nr ty v = true) : narrow ty (.int v) = .int v := by
  unfold mi_nr at h
  split at h
  · rfl
  · rw [Bool.or_eq_true, decide_eq_true_eq, decide_eq_true_eq] at h
    rcases h with rfl | rfl <;> rfl
  · cases h
theorem mi_kd_sw {d lo hi : Int} {offs : Array Int} : mi_kd (.tableswitch d lo hi offs) = (false, false) := rfl
set_option maxHeartbeats 4000000 in
theorem mi_body (hexec : p.tables.exec = Jvm.exec) (hb : c.code = cc) (hown : s.vm.findClass own = some m.cls) (hts : ∀ w ∈ Ts, w.before args s = true) (hSt : mi_St cl F Ts) (hK : va_K D cl (mi_tys ct) s) (hX : va_X scr X.1 X.2 s s.heap) (hsc : scr < base) (hs0 : s.heap.size = base + h0.length) {ini : Bool} (hini : ini = true → meth.name = "<init>") {ret : Option FieldType} (hret : meth.sig.returnType = ret) (hlk : meth.locks = false) {tb : mB} {PR cal : Nat → List Value → mH → Option (mA mH)} (hVE : mi_VE cc own cl s args ini tb) (hpl : mi_cle PR) (hcl : mi_cle cal)
    (hldc : ∀ (pc : Nat) (q : mI), mi_lk tb pc = some q → (∃ k, q.1 = .ldc k ∨ q.1 = .ldc_w k ∨ q.1 = .ldc2_w k) → ∀ (H : Heap) (locs : List Loc) (cells slots : Nat) (Q : State → Prop) (lr : Array Slot) (rest : List Value), W p l ev R s m args below meth c H locs cells slots Q (F0 m q.2.1 lr (mi_v (mi_ad base scr lit) q.2.2.2.2.2 :: rest)) → W p l ev R s m args below meth c H locs cells slots Q (F0 m pc lr rest))
    (hcall : ∀ (pc : Nat) (q : mI), mi_lk tb pc = some q → mi_kd q.1 = (true, false) → q.2.2.1 < 1000 → ∀ (as rest : List Value) (h : mH) (v : Option Value) (h1 : mH), cal q.2.2.1 as h = some (v, h1) → mi_rc (mi_O1 F X) q.2.2.2.2.1 as h = true → as.length = q.2.2.2.1 → mi_cats rest ≤ 8 → ∀ (lr : Array Slot) (H : Heap) (locs : List Loc) (cells slots : Nat), lr.size = nL → mi_Wd D cl ct (mi_ad base scr lit) h H → H.size = base + h.length → va_S (fun q => base ≤ q) s.heap H locs → cells + (h1.length - h.length) ≤ R.cells → slots + (mi_sl h1 - mi_sl h) ≤ R.slots →
      va_Run p l ev R s m args below meth c H locs cells slots (h1.length - h.length) (mi_sl h1 - mi_sl h) (F0 m pc lr ((as.reverse ++ rest).map (mi_v (mi_ad base scr lit)))) (rest.map (mi_v (mi_ad base scr lit))) (mi_Qc D cl ct (mi_ad base scr lit) base v h1 #[]) (fun q => base ≤ q))
    (hprim : ∀ (pc : Nat) (q : mI), mi_lk tb pc = some q → mi_kd q.1 = (true, false) → ¬ q.2.2.1 < 1000 → ∀ (Q : State → Prop) (ls : mL) (as rest : List Value) (h : mH) (v : Option Value) (h1 : mH), PR q.2.2.1 as h = some (v, h1) → as.length = q.2.2.2.1 → mi_cats rest ≤ 8 → mi_Wm p l ev R s m args below meth c Q nL D cl ct base scr lit h0 (q.2.1, ls, v.toList ++ rest, h1) → mi_Wm p l ev R s m args below meth c Q nL D cl ct base scr lit h0 (pc, ls, as.reverse ++ rest, h))
    {v : Option Value} {h' : mH} (hRc : h'.length - h0.length ≤ R.cells) (hRs : mi_sl h' - mi_sl h0 ≤ R.slots) :
    ∀ (n : Nat) (x : mS mH), mi_ex (mi_O1 F X) PR cal tb ret n x = some (v, h') → mi_le h0 x.2.2.2 → mi_Wm p l ev R s m args below meth c (MQ below (mi_Qc D cl ct (mi_ad base scr lit) base v h') args s (h'.length - h0.length) (mi_sl h' - mi_sl h0) (fun q => base ≤ q)) nL D cl ct base scr lit h0 x := by
  intro n
  induction n with
  | zero => intro x e; cases e
  | succ n ih =>
    intro x e hge
    obtain ⟨pc, ls, st, h⟩ := x
    unfold mi_ex at e
    split at e
    · rename_i x1 h1
      have hge1 : mi_le h0 x1.2.2.2 := hge.tr (mi_one_le hpl hcl h1)
      have hle1 : mi_le x1.2.2.2 h' := mi_ex_le hpl hcl n x1 _ e
      have k := ih x1 e hge1
      have hR : x1.2.2.2.length - h0.length ≤ R.cells ∧ mi_sl x1.2.2.2 - mi_sl h0 ≤ R.slots := ⟨by have := hle1.1; omega, by have := hle1.2; omega⟩
      unfold mi_one at h1
      split at h1
      · cases h1
      · rename_i q hl
        obtain ⟨V, hnx, hV1, hV2⟩ := hVE pc q hl
        split at h1
        · split at h1
          · rename_i y hy
            cases h1
            intro H locs hw hS
            exact mi_pl_ok hexec hb V hnx hV1 (fun hq lr rest => hldc pc q hl hq H locs _ _ _ lr rest) hy (k H locs hw hS)
          · cases h1
        · rename_i hk
          split at h1
          · rename_i y hy
            obtain ⟨y1, y2⟩ := y
            cases h1
            have V' : decode cc pc = .ok (q.1, mi_len q.1) := by
              rcases V with h | ⟨d, lo, hi, offs, h, -⟩
              · exact h
              · rw [h] at hk; cases hk
            have hnx' : q.2.1 = pc + mi_len q.1 := by
              rcases hnx with h | ⟨d, lo, hi, offs, h⟩
              · exact h
              · rw [h] at hk; cases hk
            exact mi_hp_ok hexec hb hown hts hSt hK hX hsc hs0 hini V' hnx' hV2 hge hR hy k
          · cases h1
        · rename_i hk
          split at h1
          · rename_i y hy
            cases h1
            unfold mi_cl at hy
            split at hy
            · rename_i as r ht
              cases hbb : (Nat.ble (mi_cats r) 8 && mi_rc (mi_O1 F X) q.2.2.2.2.1 as h) with
              | false => rw [hbb] at hy; cases hy
              | true =>
                rw [hbb] at hy
                dsimp only [cond_true] at hy
                rw [Bool.and_eq_true, Nat.ble_eq] at hbb
                obtain ⟨xs, t1, t2, t3⟩ := mi_take_ok _ _ _ _ _ ht
                rw [List.append_nil] at t2
                have hst : st = as.reverse ++ r := by rw [t2, List.reverse_reverse]; exact t1
                have hal : as.length = q.2.2.2.1 := by rw [t2, List.length_reverse]; exact t3
                have hnx' : q.2.1 = pc + 3 := by
                  rcases hnx with h | ⟨d, lo, hi, offs, h⟩
                  · rw [h]
                    congr 1
                    revert hk
                    generalize q.1 = i
                    intro hk
                    unfold mi_kd at hk
                    split at hk <;> first | rfl | cases hk
                  · rw [h] at hk; cases hk
                subst hst
                split at hy
                · rename_i v1 h1 hv
                  cases hy
                  cases hk1 : Nat.blt q.2.2.1 1000 with
                  | true =>
                    rw [hk1] at hv
                    dsimp only [cond_true] at hv
                    rw [Nat.blt_eq] at hk1
                    have hle2 := hcl _ _ _ _ _ hv
                    intro H locs hw hS lr hlr T hT Sd
                    have hsz := mi_size hw hs0 hge.1 hT Sd
                    have c1 : h.length - h0.length + (h1.length - h.length) = h1.length - h0.length := by
                      have g1 : h0.length ≤ h.length := hge.1
                      have g2 : h.length ≤ h1.length := hle2.1
                      omega
                    have c2 : mi_sl h - mi_sl h0 + (mi_sl h1 - mi_sl h) = mi_sl h1 - mi_sl h0 := by
                      have g1 : mi_sl h0 ≤ mi_sl h := hge.2
                      have g2 : mi_sl h ≤ mi_sl h1 := hle2.2
                      omega
                    refine mi_after (hcall pc q hl hk hk1 as r h v1 h1 hv hbb.2 hal hbb.1 lr H locs _ _ hlr.1 hw hsz hS (by rw [c1]; exact hR.1) (by rw [c2]; exact hR.2)) hS (fun H1 locs1 hw1 hS1 => ?_) T hT Sd
                    rw [c1, c2]
                    have := k H1 locs1 hw1 hS1 lr hlr
                    dsimp only at this
                    rw [hnx', List.map_append] at this
                    cases v1 with
                    | none => exact this
                    | some z => exact this
                  | false =>
                    rw [hk1] at hv
                    dsimp only [cond_false] at hv
                    exact hprim pc q hl hk (by intro z; rw [← Nat.blt_eq, hk1] at z; cases z) _ ls as r h v1 h1 hv hal hbb.1 k
                · cases hy
            · cases hy
          · cases h1
        · split at h1
          · cases h1
          · cases h1
    · rename_i y h1
      cases e
      unfold mi_one at h1
      split at h1
      · cases h1
      · rename_i q hl
        obtain ⟨V, hnx, hV1, hV2⟩ := hVE pc q hl
        split at h1
        · split at h1 <;> cases h1
        · split at h1 <;> cases h1
        · split at h1 <;> cases h1
        · rename_i hk
          split at h1
          · rename_i y hy
            cases h1
            have V' : decode cc pc = .ok (q.1, mi_len q.1) := by
              rcases V with h | ⟨d, lo, hi, offs, h, -⟩
              · exact h
              · rw [h] at hk; cases hk
            have hh := mi_re_eq hy
            dsimp only at hh
            subst hh
            intro H locs hw hS lr hlr
            dsimp only at hy
            revert V'
            generalize q.1 = i at hy
            intro V'
            unfold mi_re at hy
            split at hy
            · split at hy
              · rename_i z ty
                cases hn : mi_nr ty z with
                | false => rw [hn] at hy; cases hy
                | true =>
                  rw [hn] at hy
                  cases hy
                  exact W.zret hexec hb hret (mi_nr_ok hn) (fun t ht _ => ⟨rfl, by rw [ht]; exact hw, hS.F ht⟩) hS.2.2 V' hlk
              · cases hy
            · split at hy
              · cases hy
                exact W.lret hexec hb hret (fun t ht _ => ⟨rfl, by rw [ht]; exact hw, hS.F ht⟩) hS.2.2 V' hlk
              · cases hy
            · split at hy
              · cases hy
                exact W.vret hexec hb hret (fun t ht _ => ⟨rfl, by rw [ht]; exact hw, hS.F ht⟩) hS.2.2 V' hlk
              · cases hy
            · cases hy
          · cases h1
    · cases e
end BODY
end
section
/-! A method's contract out of the mini's run, for every method of the table. -/
abbrev mY : Type := MethodName × ByteArray × Nat × Nat
/-- what the words say of a method: its name, code; how many parameters; 0 static, 1 virtual, 2 a constructor -/
def mi_YF (Ts : List Cond) (q : mM) (y : mY) : Prop := plainName y.1.cls = true ∧ Jvm.Cond.code y.1 y.2.1 q.2.1 q.2.2 ∈ Ts ∧ Jvm.Cond.initialized y.1.cls ∈ Ts ∧ (y.1.cls ≠ "java/lang/invoke/MethodHandle" ∧ y.1.cls ≠ "java/lang/invoke/VarHandle" ∧ (parseMethodDescriptor y.1.desc).map (fun d => d.parameters.length) = some y.2.2.1) ∧ (y.2.2.2 = 0 → Jvm.Cond.static y.1 ∈ Ts) ∧ (y.2.2.2 = 1 → Jvm.Cond.instanceMethod y.1 ∈ Ts ∧ Jvm.Cond.selects y.1.cls y.1 y.1 ∈ Ts) ∧ (y.2.2.2 = 2 → Jvm.Cond.instanceMethod y.1 ∈ Ts ∧ y.1.name = "<init>" ∧ q.2.2 = none) ∧ q.2.1 ≤ 20
def mi_VC (Ts : List Cond) (own : String) (Y : List mY) (cl : List vw_C) (x : mI) : Prop := match x.1 with
  | .invokevirtual k => ∃ (y : mY) (T : u_T) (N : Nat), Y[x.2.2.1]? = some y ∧ y.2.2.2 = 1 ∧ x.2.2.2.1 = y.2.2.1 + 1 ∧ Jvm.Cond.methodLink own k y.1 ∈ Ts ∧ cl[x.2.2.2.2.1]? = some (y.1.cls, T, N) ∧ Nat.beq x.2.2.2.2.1 99 = false ∧ Nat.beq x.2.2.2.2.1 98 = false
  | .invokestatic k => ∃ y : mY, Y[x.2.2.1]? = some y ∧ y.2.2.2 = 0 ∧ x.2.2.2.1 = y.2.2.1 ∧ Jvm.Cond.methodLink own k y.1 ∈ Ts
  | .invokespecial k => ∃ y : mY, Y[x.2.2.1]? = some y ∧ y.2.2.2 = 2 ∧ x.2.2.2.1 = y.2.2.1 + 1 ∧ Jvm.Cond.methodLink own k y.1 ∈ Ts ∧ Nat.beq x.2.2.2.2.1 99 = false
  | _ => True
def mi_rm (d mc ms : Nat) : Room := { frames := d + 4, cells := mc, slots := ms, locals := 40 * d + 136 }
def mi_Pc (D : va_G) (cl : List vw_C) (ct : Nat → ClassId) (base scr : Nat) (lit : Nat → Nat) (X : Nat × (Nat → Int32)) (J : State → Prop) (as : List Value) (h : mH) : Array Value → State → Prop := va_Pc (as.map (mi_v (mi_ad base scr lit))) (fun U => mi_Wd D cl ct (mi_ad base scr lit) h U.heap ∧ U.heap.size = base + h.length ∧ va_K D cl (mi_tys ct) U ∧ va_X scr X.1 X.2 U U.heap ∧ J U)
theorem mi_fl_at (ad : Nat → Nat) : ∀ (as : List Value) (i : Nat) (v : Value), (mi_fl as)[i]? = some (some v) → (lg_sl (as.map (mi_v ad)))[i]? = some (Slot.val (mi_v ad v)) := by
  intro as
  induction as with
  | nil => intro i v e; simp [mi_fl] at e
  | cons u r ih =>
    intro i v e
    unfold mi_fl at e
    cases hb : Nat.beq u.category 2 with
    | true =>
      rw [hb] at e
      have hc : (mi_v ad u).category = 2 := by rw [mi_cat]; exact Nat.eq_of_beq_eq_true hb
      have hs : lg_sl ((u :: r).map (mi_v ad)) = Slot.val (mi_v ad u) :: Slot.second :: lg_sl (r.map (mi_v ad)) := by simp [lg_sl, hc]
      rw [hs]
      match i with
      | 0 => simp at e; rw [← e]; rfl
      | 1 => simp at e
      | i + 2 => simp only [cond_true, List.getElem?_cons_succ] at e ⊢; exact ih i v e
    | false =>
      rw [hb] at e
      have hc : ¬ (mi_v ad u).category = 2 := by
        rw [mi_cat]
        intro z
        rw [z] at hb
        cases hb
      have hs : lg_sl ((u :: r).map (mi_v ad)) = Slot.val (mi_v ad u) :: lg_sl (r.map (mi_v ad)) := by simp [lg_sl, hc]
      rw [hs]
      match i with
      | 0 => simp at e; rw [← e]; rfl
      | i + 1 => simp only [cond_false, List.getElem?_cons_succ] at e ⊢; exact ih i v e
theorem mi_fl_len (ad : Nat → Nat) : ∀ as : List Value, (lg_sl (as.map (mi_v ad))).length = (mi_fl as).length := by
  intro as
  induction as with
  | nil => rfl
  | cons u r ih =>
    unfold mi_fl
    cases hb : Nat.beq u.category 2 with
    | true =>
      have hc : (mi_v ad u).category = 2 := by rw [mi_cat]; exact Nat.eq_of_beq_eq_true hb
      have hs : lg_sl ((u :: r).map (mi_v ad)) = Slot.val (mi_v ad u) :: Slot.second :: lg_sl (r.map (mi_v ad)) := by simp [lg_sl, hc]
      rw [hs]
      simp [ih]
    | false =>
      have hc : ¬ (mi_v ad u).category = 2 := by
        rw [mi_cat]
        intro z
        rw [z] at hb
        cases hb
      have hs : lg_sl ((u :: r).map (mi_v ad)) = Slot.val (mi_v ad u) :: lg_sl (r.map (mi_v ad)) := by simp [lg_sl, hc]
      rw [hs]
      simp [ih]
theorem mi_ent_ok (ad : Nat → Nat) {nL : Nat} {as : List Value} (hn : (mi_fl as).length ≤ nL) : mi_lh ad ((lg_sl (as.map (mi_v ad)) ++ List.replicate (nL - (lg_sl (as.map (mi_v ad))).length) Slot.unset).toArray) nL (mi_ent nL as) := by
  have h0 := lv_entry (as.map (mi_v ad)) (n := nL) (by rw [mi_fl_len]; exact hn)
  refine ⟨h0.1, h0.2.1, ?_, fun i v e => ?_⟩
  · unfold mi_ent
    rw [List.length_append, List.length_replicate]
    omega
  · unfold mi_ent at e
    by_cases hi : i < (mi_fl as).length
    · rw [List.getElem?_append_left hi] at e
      have h1 := mi_fl_at ad as i v e
      simp only [List.getElem?_toArray]
      rw [List.getElem?_append_left (by rw [mi_fl_len]; exact hi)]
      exact h1
    · rw [List.getElem?_append_right (by omega)] at e
      have := List.eq_of_mem_replicate (List.mem_of_getElem? e)
      cases this
section MET
variable {l : Launch} {Ts : List Cond} {Y : List mY} {M : List mM} {cl : List vw_C} {F : List (List Nat)} {X : Nat × (Nat → Int32)} {PR : Nat → List Value → mH → Option (mA mH)} {D : va_G} {ct : Nat → ClassId} {base scr : Nat} {lit : Nat → Nat} {J : State → Prop}
/-- what J must keep -/
def mi_JK (base : Nat) (J : State → Prop) : Prop := (∀ (U : State) (g : JFrame) (mk : MethodId) (a : Array Value), J U → J (U.calling g mk a)) ∧ ∀ s U : State, J s → s.WarmedH U.vm → s.heap.size ≤ U.heap.size → (∀ q, q < s.heap.size → ¬ base ≤ q → U.heap[q]? = s.heap[q]?) → J U
/-- a body's methods: words, entries, calls -/
def mi_YA (Ts : List Cond) (Y : List mY) (M : List mM) (cl : List vw_C) : Prop := ∀ (j : Nat) (q : mM), M[j]? = some q → ∃ y : mY, Y[j]? = some y ∧ mi_YF Ts q y ∧ (∀ (args : Array Value) (s : State), (∀ w ∈ Ts, w.before args s = true) → mi_VE y.2.1 y.1.cls cl s args (Nat.beq y.2.2.2 2) q.1) ∧ ∀ (pc : Nat) (x : mI), mi_lk q.1 pc = some x → mi_kd x.1 = (true, false) → x.2.2.1 < 1000 → mi_VC Ts y.1.cls Y cl x
/-- constants, and what the JDK's own methods do -/
def mi_LP (l : Launch) (Ts : List Cond) (cl : List vw_C) (D : va_G) (ct : Nat → ClassId) (base scr : Nat) (lit : Nat → Nat) (X : Nat × (Nat → Int32)) (J : State → Prop) (PR : Nat → List Value → mH → Option (mA mH)) (own : String) (cc : ByteArray) (tb : mB) : Prop :=
  ∀ (p : Program) (ev : Env) (R : Room) (s : State) (m : MethodId) (args : Array Value) (below : List Frame) (meth : Method) (c : Code) (nL : Nat) (h0 : mH), p.tables.exec = Jvm.exec → c.code = cc → c.maxLocals = nL → s.vm.findClass own = some m.cls → (∀ w ∈ Ts, w.before args s = true) → va_K D cl (mi_tys ct) s → J s → base ≤ s.heap.size → 4 ≤ R.frames → 136 ≤ R.locals →
  (∀ (pc : Nat) (q : mI), mi_lk tb pc = some q → (∃ k, q.1 = .ldc k ∨ q.1 = .ldc_w k ∨ q.1 = .ldc2_w k) → ∀ (H : Heap) (locs : List Loc) (cells slots : Nat) (Q : State → Prop) (lr : Array Slot) (rest : List Value), W p l ev R s m args below meth c H locs cells slots Q (F0 m q.2.1 lr (mi_v (mi_ad base scr lit) q.2.2.2.2.2 :: rest)) → W p l ev R s m args below meth c H locs cells slots Q (F0 m pc lr rest)) ∧
  (∀ (pc : Nat) (q : mI), mi_lk tb pc = some q → mi_kd q.1 = (true, false) → ¬ q.2.2.1 < 1000 → ∀ (Q : State → Prop) (ls : mL) (as rest : List Value) (h : mH) (v : Option Value) (h1 : mH), PR q.2.2.1 as h = some (v, h1) → as.length = q.2.2.2.1 → mi_cats rest ≤ 8 → mi_Wm p l ev R s m args below meth c Q nL D cl ct base scr lit h0 (q.2.1, ls, v.toList ++ rest, h1) → mi_Wm p l ev R s m args below meth c Q nL D cl ct base scr lit h0 (pc, ls, as.reverse ++ rest, h))
theorem mi_blind {as : List Value} {h : mH} (hJ : mi_JK base J) : FrameBlind (mi_Pc D cl ct base scr lit X J as h) := by
  intro a U g mk q
  obtain ⟨q0, q1, q2, q3, q4, q5⟩ := q
  exact ⟨q0, q1, q2, va_K.moved (u := U) (U := U.calling g mk a) (Vm.Alike.refl U.vm) q3, va_X.moved (u := U) (U := U.calling g mk a) (Vm.Alike.refl U.vm) q4, hJ.1 U g mk a q5⟩
set_option maxHeartbeats 4000000 in
theorem mi_met (hG : GoodIn Ts Ts) (hSt : mi_St cl F Ts) (hJ : mi_JK base J) (hsc : scr < base) (hYA : mi_YA Ts Y M cl) (hpl : mi_cle PR) (hLP : ∀ (j : Nat) (q : mM) (y : mY), M[j]? = some q → Y[j]? = some y → mi_LP l Ts cl D ct base scr lit X J PR y.1.cls y.2.1 q.1) :
    ∀ (d n j : Nat) (as : List Value) (h : mH) (v : Option Value) (h1 : mH), mi_run (mi_O1 F X) PR M d n j as h = some (v, h1) → ∀ (q : mM) (y : mY), M[j]? = some q → Y[j]? = some y → Met l y.1 (Jvm.Cond.code y.1 y.2.1 q.2.1 q.2.2 :: Ts) (mi_rm d (h1.length - h.length) (mi_sl h1 - mi_sl h)) (mi_Pc D cl ct base scr lit X J as h) (mi_Qc D cl ct (mi_ad base scr lit) base v h1) (h1.length - h.length) (mi_sl h1 - mi_sl h) (fun q => base ≤ q) := by
  intro d
  induction d with
  | zero => intro n j as h v h1 e; cases e
  | succ d ih =>
    intro n j as h v h1 e q y hq hy
    unfold mi_run at e
    rw [hq] at e
    dsimp only at e
    cases hbl : Nat.ble (mi_fl as).length q.2.1 with
    | false => rw [hbl] at e; cases e
    | true =>
      rw [hbl] at e
      dsimp only [cond_true] at e
      rw [Nat.ble_eq] at hbl
      obtain ⟨y', hy', hYF, hVE, hVC⟩ := hYA j q hq
      have : y' = y := Option.some.inj (hy'.symm.trans hy)
      subst this
      refine Met.ofW (cc := y'.2.1) (maxL := q.2.1) (ret := q.2.2) hYF.1 rfl ?_
      intro p ev s m args below meth c s₁ B hml hv
      obtain ⟨hargs, hw, hsz, hK, hX, hJs⟩ := hv
      subst hargs
      have hx := B.exec
      have hb := B.bytes
      have hr := B.returns
      have hts0 := atoms_spec (ws := Jvm.Cond.code y'.1 y'.2.1 q.2.1 q.2.2 :: Ts) B.pre
      have hts : ∀ w ∈ Ts, w.before (as.map (mi_v (mi_ad base scr lit))).toArray s = true := fun w hw => hts0 w (List.mem_cons_of_mem _ hw)
      have hown : s.vm.findClass y'.1.cls = some m.cls := findClass_of_methodNamed B.named
      have hlocks := B.notSynchronized
      have hini : Nat.beq y'.2.2.2 2 = true → meth.name = "<init>" := by
        intro z
        rw [← (hYF.2.2.2.2.2.2.1 (Nat.eq_of_beq_eq_true z)).2.1]
        exact (name_of_methodNamed B.named B.method).1
      obtain ⟨hldc, hprim⟩ := hLP j q y' hq hy' p ev (headSpec (Jvm.Cond.code y'.1 y'.2.1 q.2.1 q.2.2 :: Ts) (mi_rm (d + 1) (h1.length - h.length) (mi_sl h1 - mi_sl h))).room s m _ below meth c q.2.1 h hx hb hml hown hts hK hJs (by omega) (by show 4 ≤ d + 1 + 4; omega) (by show 136 ≤ 40 * (d + 1) + 136; omega)
      rw [lg_entry_eq]
      refine W.cs (cells' := h.length - h.length) (slots' := mi_sl h - mi_sl h) (by omega) (by omega) ?_
      refine mi_body (nL := q.2.1) (h0 := h) hx hb hown hts hSt hK hX hsc hsz hini hr hlocks (hVE _ s hts) hpl (mi_run_le hpl d n) hldc ?_ hprim (Nat.le_refl _) (Nat.le_refl _) n (0, mi_ent q.2.1 as, [], h) e mi_le.rf s.heap [] hw va_S.rf _ (mi_ent_ok _ hbl)
      intro pc x hl hk hlt As rest g v1 g1 hc hrc hal hcats lr H locs cells slots hlr hwg hszg hS hc1 hc2
      have hcall := hVC pc x hl hk hlt
      obtain ⟨V, hnx, -, -⟩ := hVE _ s hts pc x hl
      have hq2 : ∃ q2, M[x.2.2.1]? = some q2 := by
        cases d with
        | zero => cases hc
        | succ d =>
          unfold mi_run at hc
          cases hq2 : M[x.2.2.1]? with
          | none => rw [hq2] at hc; cases hc
          | some q2 => exact ⟨q2, rfl⟩
      obtain ⟨q2, hq2⟩ := hq2
      obtain ⟨y2, hy2, hYF2, -, -⟩ := hYA _ q2 hq2
      have hM2 := ih n _ As g v1 g1 hc q2 y2 hq2 hy2
      have hwW : 2 * (F0 m pc lr ((As.reverse ++ rest).map (mi_v (mi_ad base scr lit)))).monitorRoom + ((rest.map (mi_v (mi_ad base scr lit))).map fun v => v.category).sum ≤ 8 := by
        rw [mi_cats_eq]
        show 2 * 0 + mi_cats rest ≤ 8
        omega
      have hG2 : GoodIn Ts (Jvm.Cond.code y2.1 y2.2.1 q2.2.1 q2.2.2 :: Ts) := by
        intro w hw
        rcases List.mem_cons.mp hw with rfl | hw
        · exact hG _ hYF2.2.1
        · exact hG w hw
      have hCB : ∀ k, Jvm.Cond.methodLink y'.1.cls k y2.1 ∈ Ts → CallB (headSpec (Jvm.Cond.code y'.1 y'.2.1 q.2.1 q.2.2 :: Ts) (mi_rm (d + 1) (h1.length - h.length) (mi_sl h1 - mi_sl h))).room s (as.map (mi_v (mi_ad base scr lit))).toArray y'.1.cls k y2.1 y2.2.1 q2.2.1 q2.2.2 (Jvm.Cond.code y2.1 y2.2.1 q2.2.1 q2.2.2 :: Ts) (mi_rm d (g1.length - g.length) (mi_sl g1 - mi_sl g)) (g1.length - g.length) (mi_sl g1 - mi_sl g) y2.2.2.1 := by
        intro k hlk
        have h20 := hYF2.2.2.2.2.2.2.2
        exact callB_of y2.2.2.1 hts hG2 rfl rfl rfl (hts _ hYF2.2.2.1) (hts _ hlk) hYF2.2.2.2.1 ⟨by show d + 4 + 1 ≤ d + 1 + 4; omega, by show 8 + (q2.2.1 + 11) + (40 * d + 136) ≤ 40 * (d + 1) + 136; omega⟩
      have hPre : ∀ U : State, U.heap = H → s.WarmedH U.vm → mi_Pc D cl ct base scr lit X J As g (As.map (mi_v (mi_ad base scr lit))).toArray U := by
        intro U hU hW
        refine ⟨rfl, by rw [hU]; exact hwg, by rw [hU]; exact hszg, va_K.moved hW.alike hK, ?_, hJ.2 s U hJs hW (by rw [hU]; exact hS.1) (fun z z1 z2 => by rw [hU]; exact hS.2.1 z z1 z2)⟩
        have := va_X.moved hW.alike hX
        exact this.kept (by rw [hU]; exact hS.2.1 scr (by omega) (by show ¬ base ≤ scr; omega))
      have V' : decode y'.2.1 pc = .ok (x.1, mi_len x.1) := by
        rcases V with h | ⟨d, lo, hi, offs, h, -⟩
        · exact h
        · rw [h] at hk; cases hk
      clear V hnx
      obtain ⟨xi, xn, xa, xb, xc, xw⟩ := x
      dsimp only at hk hlt hc hrc hal hcall hq2 hy2 V' ⊢
      unfold mi_VC at hcall
      dsimp only at hcall
      cases xi with
      | invokevirtual k =>
        obtain ⟨y3, T, N, h3, h4, h5, h6, h7, h8, h9⟩ := hcall
        have : y3 = y2 := Option.some.inj (h3.symm.trans hy2)
        subst this
        unfold mi_rc at hrc
        rw [h8] at hrc
        dsimp only [cond_false] at hrc
        split at hrc
        · rename_i q0 As0
          have hq0 : ∃ fs, g[q0]? = some (.inr (xc, fs)) := by
            rw [h9] at hrc
            have hrc : mi_is1' xc q0 g = true := hrc
            unfold mi_is1' at hrc
            split at hrc
            · rename_i ci fs hq0
              have := Nat.eq_of_beq_eq_true hrc
              subst this
              exact ⟨fs, hq0⟩
            · cases hrc
          obtain ⟨fs, hq0⟩ := hq0
          exact va_runV (As := As0.map (mi_v (mi_ad base scr lit))) ⟨hx, hb, hml, hown, hts⟩ hM2 ⟨hCB k h6, hts _ (hYF2.2.2.2.2.2.1 h4).1, hts _ (hYF2.2.2.2.2.2.1 h4).2⟩ ⟨mi_blind hJ, va_recv hK hwg.1 h7 (mi_ws_get hq0), hPre⟩ rfl (by rw [List.length_map]; simp only [List.length_cons] at hal; omega) hlr (by simp [mi_v]) hwW V' ⟨hc1, hc2⟩
        · cases hrc
      | invokestatic k =>
        obtain ⟨y3, h3, h4, h5, h6⟩ := hcall
        have : y3 = y2 := Option.some.inj (h3.symm.trans hy2)
        subst this
        exact va_runS (As := As.map (mi_v (mi_ad base scr lit))) ⟨hx, hb, hml, hown, hts⟩ hM2 ⟨hCB k h6, hts _ (hYF2.2.2.2.2.1 h4)⟩ ⟨mi_blind hJ, hPre⟩ rfl (by rw [List.length_map]; omega) hlr (by simp) hwW V' ⟨hc1, hc2⟩
      | invokespecial k =>
        obtain ⟨y3, h3, h4, h5, h6, h8⟩ := hcall
        have : y3 = y2 := Option.some.inj (h3.symm.trans hy2)
        subst this
        obtain ⟨i1, i2, i3⟩ := hYF2.2.2.2.2.2.2.1 h4
        unfold mi_rc at hrc
        rw [h8] at hrc
        dsimp only [cond_false] at hrc
        split at hrc
        · rename_i q0 As0
          have hCB2 := hCB k h6
          rw [i3] at hCB2 hM2
          exact va_runI (As := As0.map (mi_v (mi_ad base scr lit))) ⟨hx, hb, hml, hown, hts⟩ hM2 ⟨hCB2, i2, hts _ i1⟩ ⟨mi_blind hJ, hPre⟩ rfl (by rw [List.length_map]; simp only [List.length_cons] at hal; omega) hlr (by simp [mi_v]) hwW V' ⟨hc1, hc2⟩
        · cases hrc
      | _ => cases hk
end MET
end
section
/-! Tables, printed by a program out of the listing: classes, fields, code. -/
def qR0 : String := "AssertionGate"
def qT0 : u_T := fun k => match k with
  | 0 => ("AssertionGate", "text", "LAssertionGate$Page;", true)
  | 1 => ("AssertionGate", "scrap", "LAssertionGate$Page;", true)
  | 2 => ("AssertionGate", "message", "LAssertionGate$Message;", true)
  | 3 => ("AssertionGate", "reader", "LAssertionGate$Reader;", true)
  | 4 => ("AssertionGate", "digester", "LAssertionGate$Digester;", true)
  | 5 => ("AssertionGate", "issuers", "LAssertionGate$Issuers;", true)
  | 6 => ("AssertionGate", "requests", "LAssertionGate$Requests;", true)
  | 7 => ("AssertionGate", "sessions", "LAssertionGate$Sessions;", true)
  | 8 => ("AssertionGate", "seen", "LAssertionGate$Labels;", true)
  | 9 => ("AssertionGate", "response", "LAssertionGate$Response;", true)
  | 10 => ("AssertionGate", "logout", "LAssertionGate$Logout;", true)
  | 11 => ("AssertionGate", "skew", "I", true)
  | 12 => ("AssertionGate", "clock", "I", false)
  | _ => ("AssertionGate", "issued", "I", false)
def qR1 : String := "AssertionGate$Page"
def qT1 : u_T := fun k => match k with
  | 0 => ("AssertionGate$Page", "codes", "[C", true)
  | _ => ("AssertionGate$Page", "size", "I", false)
def qR2 : String := "AssertionGate$Message"
def qT2 : u_T := fun k => match k with
  | 0 => ("AssertionGate$Message", "page", "LAssertionGate$Page;", true)
  | 1 => ("AssertionGate$Message", "count", "I", false)
  | 2 => ("AssertionGate$Message", "parent", "[I", true)
  | 3 => ("AssertionGate$Message", "start", "[I", true)
  | 4 => ("AssertionGate$Message", "nameEnd", "[I", true)
  | 5 => ("AssertionGate$Message", "bodyStart", "[I", true)
  | 6 => ("AssertionGate$Message", "bodyEnd", "[I", true)
  | 7 => ("AssertionGate$Message", "end", "[I", true)
  | 8 => ("AssertionGate$Message", "attributes", "[I", true)
  | 9 => ("AssertionGate$Message", "slotStart", "[I", true)
  | 10 => ("AssertionGate$Message", "valueStart", "[I", true)
  | _ => ("AssertionGate$Message", "valueEnd", "[I", true)
def qR3 : String := "AssertionGate$Reader"
def qT3 : u_T := fun k => match k with
  | 0 => ("AssertionGate$Reader", "page", "LAssertionGate$Page;", true)
  | 1 => ("AssertionGate$Reader", "message", "LAssertionGate$Message;", true)
  | 2 => ("AssertionGate$Reader", "open", "I", false)
  | _ => ("AssertionGate$Reader", "depth", "I", false)
def qR4 : String := "AssertionGate$Digester"
def qT4 : u_T := fun k => match k with
  | 0 => ("AssertionGate$Digester", "page", "LAssertionGate$Page;", true)
  | 1 => ("AssertionGate$Digester", "message", "LAssertionGate$Message;", true)
  | 2 => ("AssertionGate$Digester", "digest", "I", false)
  | _ => ("AssertionGate$Digester", "next", "I", false)
def qR5 : String := "AssertionGate$Issuers"
def qT5 : u_T := fun k => match k with
  | 0 => ("AssertionGate$Issuers", "trustedModulus", "[I", true)
  | 1 => ("AssertionGate$Issuers", "trustedExponent", "[I", true)
  | 2 => ("AssertionGate$Issuers", "privateModulus", "[I", true)
  | _ => ("AssertionGate$Issuers", "privateExponent", "[I", true)
def qR6 : String := "AssertionGate$Requests"
def qT6 : u_T := fun k => match k with
  | 0 => ("AssertionGate$Requests", "life", "I", true)
  | 1 => ("AssertionGate$Requests", "issuer", "[I", true)
  | 2 => ("AssertionGate$Requests", "madeAt", "[I", true)
  | 3 => ("AssertionGate$Requests", "answered", "[Z", true)
  | _ => ("AssertionGate$Requests", "count", "I", false)
def qR7 : String := "AssertionGate$Sessions"
def qT7 : u_T := fun k => match k with
  | 0 => ("AssertionGate$Sessions", "issuer", "[I", true)
  | 1 => ("AssertionGate$Sessions", "isOpen", "[Z", true)
  | _ => ("AssertionGate$Sessions", "names", "LAssertionGate$Labels;", true)
def qR8 : String := "AssertionGate$Labels"
def qT8 : u_T := fun k => match k with
  | 0 => ("AssertionGate$Labels", "room", "I", true)
  | 1 => ("AssertionGate$Labels", "codes", "[C", true)
  | 2 => ("AssertionGate$Labels", "sizes", "[I", true)
  | _ => ("AssertionGate$Labels", "count", "I", false)
def qR9 : String := "AssertionGate$Response"
def qT9 : u_T := fun k => match k with
  | 0 => ("AssertionGate$Response", "message", "LAssertionGate$Message;", true)
  | 1 => ("AssertionGate$Response", "iss", "I", false)
  | 2 => ("AssertionGate$Response", "stat", "I", false)
  | 3 => ("AssertionGate$Response", "assn", "I", false)
  | 4 => ("AssertionGate$Response", "sig", "I", false)
  | 5 => ("AssertionGate$Response", "assnIss", "I", false)
  | 6 => ("AssertionGate$Response", "cond", "I", false)
  | 7 => ("AssertionGate$Response", "subj", "I", false)
  | 8 => ("AssertionGate$Response", "assnSig", "I", false)
  | 9 => ("AssertionGate$Response", "name", "I", false)
  | _ => ("AssertionGate$Response", "conf", "I", false)
def qR10 : String := "AssertionGate$Logout"
def qT10 : u_T := fun k => match k with
  | 0 => ("AssertionGate$Logout", "message", "LAssertionGate$Message;", true)
  | 1 => ("AssertionGate$Logout", "iss", "I", false)
  | 2 => ("AssertionGate$Logout", "name", "I", false)
  | _ => ("AssertionGate$Logout", "sig", "I", false)
def qR11 : String := "AssertionGateModel"
def qT11 : u_T := fun k => match k with
  | 0 => ("AssertionGateModel", "skew", "I", true)
  | 1 => ("AssertionGateModel", "life", "I", true)
  | 2 => ("AssertionGateModel", "clock", "I", false)
  | 3 => ("AssertionGateModel", "text", "[I", true)
  | 4 => ("AssertionGateModel", "size", "I", false)
  | 5 => ("AssertionGateModel", "scrap", "[I", true)
  | 6 => ("AssertionGateModel", "scraps", "I", false)
  | 7 => ("AssertionGateModel", "trustN", "[I", true)
  | 8 => ("AssertionGateModel", "trustE", "[I", true)
  | 9 => ("AssertionGateModel", "keyN", "[I", true)
  | 10 => ("AssertionGateModel", "keyD", "[I", true)
  | 11 => ("AssertionGateModel", "requests", "I", false)
  | 12 => ("AssertionGateModel", "made", "[I", true)
  | 13 => ("AssertionGateModel", "goesTo", "[I", true)
  | 14 => ("AssertionGateModel", "answered", "[Z", true)
  | 15 => ("AssertionGateModel", "sessions", "I", false)
  | 16 => ("AssertionGateModel", "owner", "[I", true)
  | 17 => ("AssertionGateModel", "user", "[J", true)
  | 18 => ("AssertionGateModel", "ended", "[Z", true)
  | 19 => ("AssertionGateModel", "seenCount", "I", false)
  | 20 => ("AssertionGateModel", "seen", "[J", true)
  | 21 => ("AssertionGateModel", "issued", "I", false)
  | 22 => ("AssertionGateModel", "count", "I", false)
  | 23 => ("AssertionGateModel", "eName", "[J", true)
  | 24 => ("AssertionGateModel", "eParent", "[I", true)
  | 25 => ("AssertionGateModel", "eBegin", "[I", true)
  | 26 => ("AssertionGateModel", "eFrom", "[I", true)
  | 27 => ("AssertionGateModel", "eTo", "[I", true)
  | 28 => ("AssertionGateModel", "eOver", "[I", true)
  | 29 => ("AssertionGateModel", "eSingle", "[Z", true)
  | 30 => ("AssertionGateModel", "attributes", "[I", true)
  | 31 => ("AssertionGateModel", "aName", "[J", true)
  | 32 => ("AssertionGateModel", "aFrom", "[I", true)
  | 33 => ("AssertionGateModel", "aTo", "[I", true)
  | 34 => ("AssertionGateModel", "word", "J", false)
  | _ => ("AssertionGateModel", "letters", "I", false)
abbrev qCl : List vw_C := [(qR0, qT0, 14), (qR1, qT1, 2), (qR2, qT2, 12), (qR3, qT3, 4), (qR4, qT4, 4), (qR5, qT5, 4), (qR6, qT6, 5), (qR7, qT7, 3), (qR8, qT8, 4), (qR9, qT9, 11), (qR10, qT10, 4), (qR11, qT11, 36)]
def qF : List (List Nat) := [[2, 2, 2, 2, 2, 2, 2, 2, 2, 2, 2, 0, 0, 0], [2, 0], [2, 0, 2, 2, 2, 2, 2, 2, 2, 2, 2, 2], [2, 2, 0, 0], [2, 2, 0, 0], [2, 2, 2, 2], [0, 2, 2, 2, 0], [2, 2, 2], [0, 2, 2, 0], [2, 0, 0, 0, 0, 0, 0, 0, 0, 0, 0], [2, 0, 0, 0], [0, 0, 0, 2, 0, 2, 0, 2, 2, 2, 2, 0, 2, 2, 2, 0, 2, 2, 2, 0, 2, 0, 0, 2, 2, 2, 2, 2, 2, 2, 2, 2, 2, 2, 1, 0]]
def qL : List (List Int32) := [[60, 114, 101, 115, 112, 32, 105, 100, 61, 34, 114], [34, 32, 105, 114, 116, 61, 34], [34, 32, 116, 111, 61, 34, 97, 99, 115, 34, 62], [60, 105, 115, 115, 62, 112], [60, 47, 105, 115, 115, 62], [60, 115, 116, 97, 116, 62, 111, 107, 60, 47, 115, 116, 97, 116, 62], [60, 97, 115, 115, 110, 32, 105, 100, 61, 34, 97], [34, 62], [60, 115, 117, 98, 106, 62], [60, 110, 97, 109, 101, 62, 117], [60, 47, 110, 97, 109, 101, 62], [60, 99, 111, 110, 102, 32, 105, 114, 116, 61, 34], [34, 32, 110, 111, 97, 61, 34], [34, 32, 114, 99, 112, 61, 34, 97, 99, 115, 34, 47, 62, 60, 47, 115, 117, 98, 106, 62, 60, 99, 111, 110, 100, 32, 97, 117, 100, 61, 34, 115, 112, 34, 32, 110, 98, 61, 34], [34, 47, 62], [60, 47, 97, 115, 115, 110, 62, 60, 47, 114, 101, 115, 112, 62], [115, 105, 103], [60, 115, 105, 103, 32, 114, 101, 102, 61, 34], [34, 32, 118, 61, 34], [60, 47, 97, 115, 115, 110, 62], [60, 47, 114, 101, 115, 112, 62], [60, 111, 117, 116, 32, 105, 100, 61, 34, 111], [60, 47, 111, 117, 116, 62], [105, 100], [105, 115, 115], [115, 116, 97, 116], [97, 115, 115, 110], [99, 111, 110, 100], [115, 117, 98, 106], [110, 97, 109, 101], [99, 111, 110, 102], [114, 101, 115, 112], [116, 111], [105, 114, 116], [114, 101, 102], [118], [97, 117, 100], [110, 98], [110, 111, 97], [114, 99, 112], [97, 99, 115], [111, 107], [115, 112], [111, 117, 116]]
/-- AssertionGate.<init>(II)V -/
def tb0 : mB := [(0, (.aload_n 0, 1, 0, 0, 0, .null)), (1, (.invokespecial 1, 4, 1000, 1, 99, .null)), (4, (.aload_n 0, 5, 0, 0, 0, .null)), (5, (.new 7, 8, 1, 0, 0, .null)), (8, (.dup, 9, 0, 0, 0, .null)), (9, (.invokespecial 9, 12, 38, 1, 98, .null)), (12, (.putfield 10, 15, 0, 0, 0, .null)), (15, (.aload_n 0, 16, 0, 0, 0, .null)), (16, (.new 7, 19, 1, 0, 0, .null)), (19, (.dup, 20, 0, 0, 0, .null)), (20, (.invokespecial 9, 23, 38, 1, 98, .null)), (23, (.putfield 16, 26, 0, 1, 0, .null)), (26, (.aload_n 0, 27, 0, 0, 0, .null)), (27, (.new 19, 30, 2, 0, 0, .null)), (30, (.dup, 31, 0, 0, 0, .null)), (31, (.aload_n 0, 32, 0, 0, 0, .null)), (32, (.getfield 10, 35, 0, 0, 0, .null)), (35, (.invokespecial 21, 38, 52, 2, 98, .null)), (38, (.putfield 24, 41, 0, 2, 0, .null)), (41, (.aload_n 0, 42, 0, 0, 0, .null)), (42, (.new 28, 45, 3, 0, 0, .null)), (45, (.dup, 46, 0, 0, 0, .null)), (46, (.aload_n 0, 47, 0, 0, 0, .null)), (47, (.getfield 10, 50, 0, 0, 0, .null)), (50, (.aload_n 0, 51, 0, 0, 0, .null)), (51, (.getfield 24, 54, 0, 2, 0, .null)), (54, (.invokespecial 30, 57, 77, 3, 98, .null)), (57, (.putfield 33, 60, 0, 3, 0, .null)), (60, (.aload_n 0, 61, 0, 0, 0, .null)), (61, (.new 37, 64, 4, 0, 0, .null)), (64, (.dup, 65, 0, 0, 0, .null)), (65, (.aload_n 0, 66, 0, 0, 0, .null)), (66, (.getfield 10, 69, 0, 0, 0, .null)), (69, (.aload_n 0, 70, 0, 0, 0, .null)), (70, (.getfield 24, 73, 0, 2, 0, .null)), (73, (.invokespecial 39, 76, 85, 3, 98, .null)), (76, (.putfield 40, 79, 0, 4, 0, .null)), (79, (.aload_n 0, 80, 0, 0, 0, .null)), (80, (.new 44, 83, 5, 0, 0, .null)), (83, (.dup, 84, 0, 0, 0, .null)), (84, (.invokespecial 46, 87, 93, 1, 98, .null)), (87, (.putfield 47, 90, 0, 5, 0, .null)), (90, (.aload_n 0, 91, 0, 0, 0, .null)), (91, (.new 51, 94, 6, 0, 0, .null)), (94, (.dup, 95, 0, 0, 0, .null)), (95, (.iload_n 2, 96, 0, 0, 0, .null)), (96, (.iconst 1, 97, 0, 0, 0, .int 1)), (97, (.if_icmp .lt 14, 100, 111, 0, 0, .null)), (100, (.iload_n 2, 101, 0, 0, 0, .null)), (101, (.sipush 1000, 104, 0, 0, 0, .int 1000)), (104, (.if_icmp .gt 7, 107, 111, 0, 0, .null)), (107, (.iload_n 2, 108, 0, 0, 0, .null)), (108, (.goto 5, 111, 113, 0, 0, .null)), (111, (.bipush 100, 113, 0, 0, 0, .int 100)), (113, (.invokespecial 53, 116, 99, 2, 98, .null)), (116, (.putfield 56, 119, 0, 6, 0, .null)), (119, (.aload_n 0, 120, 0, 0, 0, .null)), (120, (.new 60, 123, 7, 0, 0, .null)), (123, (.dup, 124, 0, 0, 0, .null)), (124, (.invokespecial 62, 127, 105, 1, 98, .null)), (127, (.putfield 63, 130, 0, 7, 0, .null)), (130, (.aload_n 0, 131, 0, 0, 0, .null)), (131, (.new 67, 134, 8, 0, 0, .null)), (134, (.dup, 135, 0, 0, 0, .null)), (135, (.bipush 40, 137, 0, 0, 0, .int 40)), (137, (.invokespecial 69, 140, 110, 2, 98, .null)), (140, (.putfield 70, 143, 0, 8, 0, .null)), (143, (.aload_n 0, 144, 0, 0, 0, .null)), (144, (.new 74, 147, 9, 0, 0, .null)), (147, (.dup, 148, 0, 0, 0, .null)), (148, (.aload_n 0, 149, 0, 0, 0, .null)), (149, (.getfield 24, 152, 0, 2, 0, .null)), (152, (.invokespecial 76, 155, 116, 2, 98, .null)), (155, (.putfield 79, 158, 0, 9, 0, .null)), (158, (.aload_n 0, 159, 0, 0, 0, .null)), (159, (.new 83, 162, 10, 0, 0, .null)), (162, (.dup, 163, 0, 0, 0, .null)), (163, (.aload_n 0, 164, 0, 0, 0, .null)), (164, (.getfield 24, 167, 0, 2, 0, .null)), (167, (.invokespecial 85, 170, 122, 2, 98, .null)), (170, (.putfield 86, 173, 0, 10, 0, .null)), (173, (.aload_n 0, 174, 0, 0, 0, .null)), (174, (.iload_n 1, 175, 0, 0, 0, .null)), (175, (.ifCond .lt 13, 178, 188, 0, 0, .null)), (178, (.iload_n 1, 179, 0, 0, 0, .null)), (179, (.bipush 100, 181, 0, 0, 0, .int 100)), (181, (.if_icmp .gt 7, 184, 188, 0, 0, .null)), (184, (.iload_n 1, 185, 0, 0, 0, .null)), (185, (.goto 4, 188, 189, 0, 0, .null)), (188, (.iconst 0, 189, 0, 0, 0, .int 0)), (189, (.putfield 90, 192, 0, 11, 0, .null)), (192, (.aload_n 0, 193, 0, 0, 0, .null)), (193, (.iconst 0, 194, 0, 0, 0, .int 0)), (194, (.putfield 94, 197, 0, 12, 0, .null)), (197, (.aload_n 0, 198, 0, 0, 0, .null)), (198, (.iconst 0, 199, 0, 0, 0, .int 0)), (199, (.putfield 97, 202, 0, 13, 0, .null)), (202, (.return_, 203, 0, 0, 0, .null))]
/-- AssertionGate.trust(III)Z -/
def tb1 : mB := [(0, (.iload_n 1, 1, 0, 0, 0, .null)), (1, (.iload_n 2, 2, 0, 0, 0, .null)), (2, (.iload_n 3, 3, 0, 0, 0, .null)), (3, (.invokestatic 100, 6, 3, 3, 99, .null)), (6, (.ifCond .ne 5, 9, 11, 0, 0, .null)), (9, (.iconst 0, 10, 0, 0, 0, .int 0)), (10, (.ireturn, 11, 0, 0, 0, .null)), (11, (.aload_n 0, 12, 0, 0, 0, .null)), (12, (.getfield 47, 15, 0, 5, 0, .null)), (15, (.getfield 104, 18, 5, 0, 0, .null)), (18, (.iload_n 1, 19, 0, 0, 0, .null)), (19, (.iload_n 2, 20, 0, 0, 0, .null)), (20, (.iastore, 21, 0, 0, 0, .null)), (21, (.aload_n 0, 22, 0, 0, 0, .null)), (22, (.getfield 47, 25, 0, 5, 0, .null)), (25, (.getfield 108, 28, 5, 1, 0, .null)), (28, (.iload_n 1, 29, 0, 0, 0, .null)), (29, (.iload_n 3, 30, 0, 0, 0, .null)), (30, (.iastore, 31, 0, 0, 0, .null)), (31, (.iconst 1, 32, 0, 0, 0, .int 1)), (32, (.ireturn, 33, 0, 0, 0, .null))]
/-- AssertionGate.key(III)Z -/
def tb2 : mB := [(0, (.iload_n 1, 1, 0, 0, 0, .null)), (1, (.iload_n 2, 2, 0, 0, 0, .null)), (2, (.iload_n 3, 3, 0, 0, 0, .null)), (3, (.invokestatic 100, 6, 3, 3, 99, .null)), (6, (.ifCond .ne 5, 9, 11, 0, 0, .null)), (9, (.iconst 0, 10, 0, 0, 0, .int 0)), (10, (.ireturn, 11, 0, 0, 0, .null)), (11, (.aload_n 0, 12, 0, 0, 0, .null)), (12, (.getfield 47, 15, 0, 5, 0, .null)), (15, (.getfield 111, 18, 5, 2, 0, .null)), (18, (.iload_n 1, 19, 0, 0, 0, .null)), (19, (.iload_n 2, 20, 0, 0, 0, .null)), (20, (.iastore, 21, 0, 0, 0, .null)), (21, (.aload_n 0, 22, 0, 0, 0, .null)), (22, (.getfield 47, 25, 0, 5, 0, .null)), (25, (.getfield 114, 28, 5, 3, 0, .null)), (28, (.iload_n 1, 29, 0, 0, 0, .null)), (29, (.iload_n 3, 30, 0, 0, 0, .null)), (30, (.iastore, 31, 0, 0, 0, .null)), (31, (.iconst 1, 32, 0, 0, 0, .int 1)), (32, (.ireturn, 33, 0, 0, 0, .null))]
/-- AssertionGate.isKeyPart(III)Z -/
def tb3 : mB := [(0, (.iload_n 0, 1, 0, 0, 0, .null)), (1, (.ifCond .lt 35, 4, 36, 0, 0, .null)), (4, (.iload_n 0, 5, 0, 0, 0, .null)), (5, (.iconst 4, 6, 0, 0, 0, .int 4)), (6, (.if_icmp .ge 30, 9, 36, 0, 0, .null)), (9, (.iload_n 1, 10, 0, 0, 0, .null)), (10, (.ldc 117, 12, 0, 0, 0, .int 65521)), (12, (.if_icmp .lt 24, 15, 36, 0, 0, .null)), (15, (.iload_n 1, 16, 0, 0, 0, .null)), (16, (.ldc 118, 18, 0, 0, 0, .int 1000000)), (18, (.if_icmp .gt 18, 21, 36, 0, 0, .null)), (21, (.iload_n 2, 22, 0, 0, 0, .null)), (22, (.iconst 1, 23, 0, 0, 0, .int 1)), (23, (.if_icmp .lt 13, 26, 36, 0, 0, .null)), (26, (.iload_n 2, 27, 0, 0, 0, .null)), (27, (.ldc 118, 29, 0, 0, 0, .int 1000000)), (29, (.if_icmp .gt 7, 32, 36, 0, 0, .null)), (32, (.iconst 1, 33, 0, 0, 0, .int 1)), (33, (.goto 4, 36, 37, 0, 0, .null)), (36, (.iconst 0, 37, 0, 0, 0, .int 0)), (37, (.ireturn, 38, 0, 0, 0, .null))]
/-- AssertionGate.pass(I)Z -/
def tb4 : mB := [(0, (.iload_n 1, 1, 0, 0, 0, .null)), (1, (.ifCond .lt 10, 4, 11, 0, 0, .null)), (4, (.iload_n 1, 5, 0, 0, 0, .null)), (5, (.sipush 1000, 8, 0, 0, 0, .int 1000)), (8, (.if_icmp .le 5, 11, 13, 0, 0, .null)), (11, (.iconst 0, 12, 0, 0, 0, .int 0)), (12, (.ireturn, 13, 0, 0, 0, .null)), (13, (.aload_n 0, 14, 0, 0, 0, .null)), (14, (.dup, 15, 0, 0, 0, .null)), (15, (.getfield 94, 18, 0, 12, 0, .null)), (18, (.iload_n 1, 19, 0, 0, 0, .null)), (19, (.iadd, 20, 0, 0, 0, .null)), (20, (.putfield 94, 23, 0, 12, 0, .null)), (23, (.iconst 1, 24, 0, 0, 0, .int 1)), (24, (.ireturn, 25, 0, 0, 0, .null))]
/-- AssertionGate.request(I)I -/
def tb5 : mB := [(0, (.iload_n 1, 1, 0, 0, 0, .null)), (1, (.ifCond .lt 23, 4, 24, 0, 0, .null)), (4, (.iload_n 1, 5, 0, 0, 0, .null)), (5, (.iconst 4, 6, 0, 0, 0, .int 4)), (6, (.if_icmp .ge 18, 9, 24, 0, 0, .null)), (9, (.aload_n 0, 10, 0, 0, 0, .null)), (10, (.getfield 56, 13, 0, 6, 0, .null)), (13, (.iload_n 1, 14, 0, 0, 0, .null)), (14, (.aload_n 0, 15, 0, 0, 0, .null)), (15, (.getfield 94, 18, 0, 12, 0, .null)), (18, (.invokevirtual 119, 21, 100, 3, 6, .null)), (21, (.goto 4, 24, 25, 0, 0, .null)), (24, (.iconst (-1), 25, 0, 0, 0, .int (-1))), (25, (.ireturn, 26, 0, 0, 0, .null))]
/-- AssertionGate.issue(IIIII)Z -/
def tb6 : mB := [(0, (.aload_n 0, 1, 0, 0, 0, .null)), (1, (.getfield 47, 4, 0, 5, 0, .null)), (4, (.iload_n 1, 5, 0, 0, 0, .null)), (5, (.invokevirtual 123, 8, 95, 2, 5, .null)), (8, (.ifCond .eq 41, 11, 49, 0, 0, .null)), (11, (.iload_n 2, 12, 0, 0, 0, .null)), (12, (.bipush 100, 14, 0, 0, 0, .int 100)), (14, (.invokestatic 127, 17, 13, 2, 99, .null)), (17, (.ifCond .eq 32, 20, 49, 0, 0, .null)), (20, (.iload_n 3, 21, 0, 0, 0, .null)), (21, (.bipush 100, 23, 0, 0, 0, .int 100)), (23, (.invokestatic 127, 26, 13, 2, 99, .null)), (26, (.ifCond .eq 23, 29, 49, 0, 0, .null)), (29, (.iload 4, 31, 0, 0, 0, .null)), (31, (.sipush 1000, 34, 0, 0, 0, .int 1000)), (34, (.invokestatic 127, 37, 13, 2, 99, .null)), (37, (.ifCond .eq 12, 40, 49, 0, 0, .null)), (40, (.iload 5, 42, 0, 0, 0, .null)), (42, (.iconst 4, 43, 0, 0, 0, .int 4)), (43, (.invokestatic 127, 46, 13, 2, 99, .null)), (46, (.ifCond .ne 5, 49, 51, 0, 0, .null)), (49, (.iconst 0, 50, 0, 0, 0, .int 0)), (50, (.ireturn, 51, 0, 0, 0, .null)), (51, (.aload_n 0, 52, 0, 0, 0, .null)), (52, (.getfield 10, 55, 0, 0, 0, .null)), (55, (.iconst 0, 56, 0, 0, 0, .int 0)), (56, (.invokevirtual 131, 59, 43, 2, 1, .null)), (59, (.aload_n 0, 60, 0, 0, 0, .null)), (60, (.iload_n 1, 61, 0, 0, 0, .null)), (61, (.iload_n 2, 62, 0, 0, 0, .null)), (62, (.invokevirtual 134, 65, 7, 3, 0, .null)), (65, (.aload_n 0, 66, 0, 0, 0, .null)), (66, (.iload_n 1, 67, 0, 0, 0, .null)), (67, (.iload_n 2, 68, 0, 0, 0, .null)), (68, (.iload_n 3, 69, 0, 0, 0, .null)), (69, (.aload_n 0, 70, 0, 0, 0, .null)), (70, (.getfield 94, 73, 0, 12, 0, .null)), (73, (.iload 4, 75, 0, 0, 0, .null)), (75, (.iadd, 76, 0, 0, 0, .null)), (76, (.invokevirtual 138, 79, 8, 5, 0, .null)), (79, (.aload_n 0, 80, 0, 0, 0, .null)), (80, (.getfield 10, 83, 0, 0, 0, .null)), (83, (.getfield 142, 86, 1, 1, 0, .null)), (86, (.istore 6, 88, 0, 0, 0, .null)), (88, (.iload 5, 90, 0, 0, 0, .null)), (90, (.iconst 1, 91, 0, 0, 0, .int 1)), (91, (.if_icmp .eq 9, 94, 100, 0, 0, .null)), (94, (.iload 5, 96, 0, 0, 0, .null)), (96, (.iconst 3, 97, 0, 0, 0, .int 3)), (97, (.if_icmp .ne 37, 100, 134, 0, 0, .null)), (100, (.aload_n 0, 101, 0, 0, 0, .null)), (101, (.getfield 10, 104, 0, 0, 0, .null)), (104, (.ldc 145, 106, 0, 0, 0, .ref 1015)), (106, (.invokevirtual 147, 109, 41, 2, 1, .null)), (109, (.aload_n 0, 110, 0, 0, 0, .null)), (110, (.iload_n 1, 111, 0, 0, 0, .null)), (111, (.iconst 3, 112, 0, 0, 0, .int 3)), (112, (.invokevirtual 151, 115, 25, 3, 0, .null)), (115, (.istore 7, 117, 0, 0, 0, .null)), (117, (.aload_n 0, 118, 0, 0, 0, .null)), (118, (.getfield 10, 121, 0, 0, 0, .null)), (121, (.iload 6, 123, 0, 0, 0, .null)), (123, (.invokevirtual 131, 126, 43, 2, 1, .null)), (126, (.aload_n 0, 127, 0, 0, 0, .null)), (127, (.bipush 97, 129, 0, 0, 0, .int 97)), (129, (.iload 7, 131, 0, 0, 0, .null)), (131, (.invokevirtual 154, 134, 11, 3, 0, .null)), (134, (.aload_n 0, 135, 0, 0, 0, .null)), (135, (.getfield 10, 138, 0, 0, 0, .null)), (138, (.ldc 158, 140, 0, 0, 0, .ref 1019)), (140, (.invokevirtual 147, 143, 41, 2, 1, .null)), (143, (.aload_n 0, 144, 0, 0, 0, .null)), (144, (.getfield 10, 147, 0, 0, 0, .null)), (147, (.getfield 142, 150, 1, 1, 0, .null)), (150, (.istore 7, 152, 0, 0, 0, .null)), (152, (.iload 5, 154, 0, 0, 0, .null)), (154, (.iconst 2, 155, 0, 0, 0, .int 2)), (155, (.if_icmp .eq 9, 158, 164, 0, 0, .null)), (158, (.iload 5, 160, 0, 0, 0, .null)), (160, (.iconst 3, 161, 0, 0, 0, .int 3)), (161, (.if_icmp .ne 37, 164, 198, 0, 0, .null)), (164, (.aload_n 0, 165, 0, 0, 0, .null)), (165, (.getfield 10, 168, 0, 0, 0, .null)), (168, (.ldc 160, 170, 0, 0, 0, .ref 1020)), (170, (.invokevirtual 147, 173, 41, 2, 1, .null)), (173, (.aload_n 0, 174, 0, 0, 0, .null)), (174, (.iload_n 1, 175, 0, 0, 0, .null)), (175, (.iconst 0, 176, 0, 0, 0, .int 0)), (176, (.invokevirtual 151, 179, 25, 3, 0, .null)), (179, (.istore 8, 181, 0, 0, 0, .null)), (181, (.aload_n 0, 182, 0, 0, 0, .null)), (182, (.getfield 10, 185, 0, 0, 0, .null)), (185, (.iload 7, 187, 0, 0, 0, .null)), (187, (.invokevirtual 131, 190, 43, 2, 1, .null)), (190, (.aload_n 0, 191, 0, 0, 0, .null)), (191, (.bipush 114, 193, 0, 0, 0, .int 114)), (193, (.iload 8, 195, 0, 0, 0, .null)), (195, (.invokevirtual 154, 198, 11, 3, 0, .null)), (198, (.aload_n 0, 199, 0, 0, 0, .null)), (199, (.getfield 10, 202, 0, 0, 0, .null)), (202, (.ldc 160, 204, 0, 0, 0, .ref 1020)), (204, (.invokevirtual 147, 207, 41, 2, 1, .null)), (207, (.aload_n 0, 208, 0, 0, 0, .null)), (208, (.dup, 209, 0, 0, 0, .null)), (209, (.getfield 97, 212, 0, 13, 0, .null)), (212, (.iconst 1, 213, 0, 0, 0, .int 1)), (213, (.iadd, 214, 0, 0, 0, .null)), (214, (.putfield 97, 217, 0, 13, 0, .null)), (217, (.iconst 1, 218, 0, 0, 0, .int 1)), (218, (.ireturn, 219, 0, 0, 0, .null))]
/-- AssertionGate.putHead(II)V -/
def tb7 : mB := [(0, (.aload_n 0, 1, 0, 0, 0, .null)), (1, (.getfield 10, 4, 0, 0, 0, .null)), (4, (.ldc 162, 6, 0, 0, 0, .ref 1000)), (6, (.invokevirtual 147, 9, 41, 2, 1, .null)), (9, (.aload_n 0, 10, 0, 0, 0, .null)), (10, (.getfield 10, 13, 0, 0, 0, .null)), (13, (.aload_n 0, 14, 0, 0, 0, .null)), (14, (.getfield 97, 17, 0, 13, 0, .null)), (17, (.invokevirtual 164, 20, 42, 2, 1, .null)), (20, (.aload_n 0, 21, 0, 0, 0, .null)), (21, (.getfield 10, 24, 0, 0, 0, .null)), (24, (.ldc 167, 26, 0, 0, 0, .ref 1001)), (26, (.invokevirtual 147, 29, 41, 2, 1, .null)), (29, (.aload_n 0, 30, 0, 0, 0, .null)), (30, (.getfield 10, 33, 0, 0, 0, .null)), (33, (.iload_n 2, 34, 0, 0, 0, .null)), (34, (.invokevirtual 164, 37, 42, 2, 1, .null)), (37, (.aload_n 0, 38, 0, 0, 0, .null)), (38, (.getfield 10, 41, 0, 0, 0, .null)), (41, (.ldc 169, 43, 0, 0, 0, .ref 1002)), (43, (.invokevirtual 147, 46, 41, 2, 1, .null)), (46, (.aload_n 0, 47, 0, 0, 0, .null)), (47, (.iload_n 1, 48, 0, 0, 0, .null)), (48, (.invokevirtual 171, 51, 9, 2, 0, .null)), (51, (.aload_n 0, 52, 0, 0, 0, .null)), (52, (.getfield 10, 55, 0, 0, 0, .null)), (55, (.ldc 174, 57, 0, 0, 0, .ref 1005)), (57, (.invokevirtual 147, 60, 41, 2, 1, .null)), (60, (.return_, 61, 0, 0, 0, .null))]
/-- AssertionGate.putAssertion(IIII)V -/
def tb8 : mB := [(0, (.aload_n 0, 1, 0, 0, 0, .null)), (1, (.getfield 10, 4, 0, 0, 0, .null)), (4, (.ldc 176, 6, 0, 0, 0, .ref 1006)), (6, (.invokevirtual 147, 9, 41, 2, 1, .null)), (9, (.aload_n 0, 10, 0, 0, 0, .null)), (10, (.getfield 10, 13, 0, 0, 0, .null)), (13, (.aload_n 0, 14, 0, 0, 0, .null)), (14, (.getfield 97, 17, 0, 13, 0, .null)), (17, (.invokevirtual 164, 20, 42, 2, 1, .null)), (20, (.aload_n 0, 21, 0, 0, 0, .null)), (21, (.getfield 10, 24, 0, 0, 0, .null)), (24, (.ldc 178, 26, 0, 0, 0, .ref 1007)), (26, (.invokevirtual 147, 29, 41, 2, 1, .null)), (29, (.aload_n 0, 30, 0, 0, 0, .null)), (30, (.iload_n 1, 31, 0, 0, 0, .null)), (31, (.invokevirtual 171, 34, 9, 2, 0, .null)), (34, (.aload_n 0, 35, 0, 0, 0, .null)), (35, (.getfield 10, 38, 0, 0, 0, .null)), (38, (.ldc 180, 40, 0, 0, 0, .ref 1008)), (40, (.invokevirtual 147, 43, 41, 2, 1, .null)), (43, (.aload_n 0, 44, 0, 0, 0, .null)), (44, (.iload_n 3, 45, 0, 0, 0, .null)), (45, (.invokevirtual 182, 48, 10, 2, 0, .null)), (48, (.aload_n 0, 49, 0, 0, 0, .null)), (49, (.getfield 10, 52, 0, 0, 0, .null)), (52, (.ldc 185, 54, 0, 0, 0, .ref 1011)), (54, (.invokevirtual 147, 57, 41, 2, 1, .null)), (57, (.aload_n 0, 58, 0, 0, 0, .null)), (58, (.getfield 10, 61, 0, 0, 0, .null)), (61, (.iload_n 2, 62, 0, 0, 0, .null)), (62, (.invokevirtual 164, 65, 42, 2, 1, .null)), (65, (.aload_n 0, 66, 0, 0, 0, .null)), (66, (.getfield 10, 69, 0, 0, 0, .null)), (69, (.ldc 187, 71, 0, 0, 0, .ref 1012)), (71, (.invokevirtual 147, 74, 41, 2, 1, .null)), (74, (.aload_n 0, 75, 0, 0, 0, .null)), (75, (.getfield 10, 78, 0, 0, 0, .null)), (78, (.iload 4, 80, 0, 0, 0, .null)), (80, (.invokevirtual 164, 83, 42, 2, 1, .null)), (83, (.aload_n 0, 84, 0, 0, 0, .null)), (84, (.getfield 10, 87, 0, 0, 0, .null)), (87, (.ldc 189, 89, 0, 0, 0, .ref 1013)), (89, (.invokevirtual 147, 92, 41, 2, 1, .null)), (92, (.aload_n 0, 93, 0, 0, 0, .null)), (93, (.getfield 10, 96, 0, 0, 0, .null)), (96, (.aload_n 0, 97, 0, 0, 0, .null)), (97, (.getfield 94, 100, 0, 12, 0, .null)), (100, (.invokevirtual 164, 103, 42, 2, 1, .null)), (103, (.aload_n 0, 104, 0, 0, 0, .null)), (104, (.getfield 10, 107, 0, 0, 0, .null)), (107, (.ldc 187, 109, 0, 0, 0, .ref 1012)), (109, (.invokevirtual 147, 112, 41, 2, 1, .null)), (112, (.aload_n 0, 113, 0, 0, 0, .null)), (113, (.getfield 10, 116, 0, 0, 0, .null)), (116, (.iload 4, 118, 0, 0, 0, .null)), (118, (.invokevirtual 164, 121, 42, 2, 1, .null)), (121, (.aload_n 0, 122, 0, 0, 0, .null)), (122, (.getfield 10, 125, 0, 0, 0, .null)), (125, (.ldc 191, 127, 0, 0, 0, .ref 1014)), (127, (.invokevirtual 147, 130, 41, 2, 1, .null)), (130, (.return_, 131, 0, 0, 0, .null))]
/-- AssertionGate.putIssuer(I)V -/
def tb9 : mB := [(0, (.aload_n 0, 1, 0, 0, 0, .null)), (1, (.getfield 10, 4, 0, 0, 0, .null)), (4, (.ldc 193, 6, 0, 0, 0, .ref 1003)), (6, (.invokevirtual 147, 9, 41, 2, 1, .null)), (9, (.aload_n 0, 10, 0, 0, 0, .null)), (10, (.getfield 10, 13, 0, 0, 0, .null)), (13, (.iload_n 1, 14, 0, 0, 0, .null)), (14, (.invokevirtual 164, 17, 42, 2, 1, .null)), (17, (.aload_n 0, 18, 0, 0, 0, .null)), (18, (.getfield 10, 21, 0, 0, 0, .null)), (21, (.ldc 195, 23, 0, 0, 0, .ref 1004)), (23, (.invokevirtual 147, 26, 41, 2, 1, .null)), (26, (.return_, 27, 0, 0, 0, .null))]
/-- AssertionGate.putUser(I)V -/
def tb10 : mB := [(0, (.aload_n 0, 1, 0, 0, 0, .null)), (1, (.getfield 10, 4, 0, 0, 0, .null)), (4, (.ldc 197, 6, 0, 0, 0, .ref 1009)), (6, (.invokevirtual 147, 9, 41, 2, 1, .null)), (9, (.aload_n 0, 10, 0, 0, 0, .null)), (10, (.getfield 10, 13, 0, 0, 0, .null)), (13, (.iload_n 1, 14, 0, 0, 0, .null)), (14, (.invokevirtual 164, 17, 42, 2, 1, .null)), (17, (.aload_n 0, 18, 0, 0, 0, .null)), (18, (.getfield 10, 21, 0, 0, 0, .null)), (21, (.ldc 199, 23, 0, 0, 0, .ref 1010)), (23, (.invokevirtual 147, 26, 41, 2, 1, .null)), (26, (.return_, 27, 0, 0, 0, .null))]
/-- AssertionGate.putSig(CI)V -/
def tb11 : mB := [(0, (.aload_n 0, 1, 0, 0, 0, .null)), (1, (.getfield 10, 4, 0, 0, 0, .null)), (4, (.ldc 201, 6, 0, 0, 0, .ref 1017)), (6, (.invokevirtual 147, 9, 41, 2, 1, .null)), (9, (.aload_n 0, 10, 0, 0, 0, .null)), (10, (.getfield 10, 13, 0, 0, 0, .null)), (13, (.iload_n 1, 14, 0, 0, 0, .null)), (14, (.invokevirtual 203, 17, 40, 2, 1, .null)), (17, (.pop, 18, 0, 0, 0, .null)), (18, (.aload_n 0, 19, 0, 0, 0, .null)), (19, (.getfield 10, 22, 0, 0, 0, .null)), (22, (.aload_n 0, 23, 0, 0, 0, .null)), (23, (.getfield 97, 26, 0, 13, 0, .null)), (26, (.invokevirtual 164, 29, 42, 2, 1, .null)), (29, (.aload_n 0, 30, 0, 0, 0, .null)), (30, (.getfield 10, 33, 0, 0, 0, .null)), (33, (.ldc 207, 35, 0, 0, 0, .ref 1018)), (35, (.invokevirtual 147, 38, 41, 2, 1, .null)), (38, (.aload_n 0, 39, 0, 0, 0, .null)), (39, (.getfield 10, 42, 0, 0, 0, .null)), (42, (.iload_n 2, 43, 0, 0, 0, .null)), (43, (.invokevirtual 164, 46, 42, 2, 1, .null)), (46, (.aload_n 0, 47, 0, 0, 0, .null)), (47, (.getfield 10, 50, 0, 0, 0, .null)), (50, (.ldc 191, 52, 0, 0, 0, .ref 1014)), (52, (.invokevirtual 147, 55, 41, 2, 1, .null)), (55, (.return_, 56, 0, 0, 0, .null))]
/-- AssertionGate.leave(II)Z -/
def tb12 : mB := [(0, (.aload_n 0, 1, 0, 0, 0, .null)), (1, (.getfield 47, 4, 0, 5, 0, .null)), (4, (.iload_n 1, 5, 0, 0, 0, .null)), (5, (.invokevirtual 123, 8, 95, 2, 5, .null)), (8, (.ifCond .eq 12, 11, 20, 0, 0, .null)), (11, (.iload_n 2, 12, 0, 0, 0, .null)), (12, (.bipush 100, 14, 0, 0, 0, .int 100)), (14, (.invokestatic 127, 17, 13, 2, 99, .null)), (17, (.ifCond .ne 5, 20, 22, 0, 0, .null)), (20, (.iconst 0, 21, 0, 0, 0, .int 0)), (21, (.ireturn, 22, 0, 0, 0, .null)), (22, (.aload_n 0, 23, 0, 0, 0, .null)), (23, (.getfield 10, 26, 0, 0, 0, .null)), (26, (.iconst 0, 27, 0, 0, 0, .int 0)), (27, (.invokevirtual 131, 30, 43, 2, 1, .null)), (30, (.aload_n 0, 31, 0, 0, 0, .null)), (31, (.getfield 10, 34, 0, 0, 0, .null)), (34, (.ldc 209, 36, 0, 0, 0, .ref 1021)), (36, (.invokevirtual 147, 39, 41, 2, 1, .null)), (39, (.aload_n 0, 40, 0, 0, 0, .null)), (40, (.getfield 10, 43, 0, 0, 0, .null)), (43, (.aload_n 0, 44, 0, 0, 0, .null)), (44, (.getfield 97, 47, 0, 13, 0, .null)), (47, (.invokevirtual 164, 50, 42, 2, 1, .null)), (50, (.aload_n 0, 51, 0, 0, 0, .null)), (51, (.getfield 10, 54, 0, 0, 0, .null)), (54, (.ldc 169, 56, 0, 0, 0, .ref 1002)), (56, (.invokevirtual 147, 59, 41, 2, 1, .null)), (59, (.aload_n 0, 60, 0, 0, 0, .null)), (60, (.iload_n 1, 61, 0, 0, 0, .null)), (61, (.invokevirtual 171, 64, 9, 2, 0, .null)), (64, (.aload_n 0, 65, 0, 0, 0, .null)), (65, (.iload_n 2, 66, 0, 0, 0, .null)), (66, (.invokevirtual 182, 69, 10, 2, 0, .null)), (69, (.aload_n 0, 70, 0, 0, 0, .null)), (70, (.getfield 10, 73, 0, 0, 0, .null)), (73, (.getfield 142, 76, 1, 1, 0, .null)), (76, (.istore_n 3, 77, 0, 0, 0, .null)), (77, (.aload_n 0, 78, 0, 0, 0, .null)), (78, (.getfield 10, 81, 0, 0, 0, .null)), (81, (.ldc 211, 83, 0, 0, 0, .ref 1022)), (83, (.invokevirtual 147, 86, 41, 2, 1, .null)), (86, (.aload_n 0, 87, 0, 0, 0, .null)), (87, (.iload_n 1, 88, 0, 0, 0, .null)), (88, (.iconst 0, 89, 0, 0, 0, .int 0)), (89, (.invokevirtual 151, 92, 25, 3, 0, .null)), (92, (.istore 4, 94, 0, 0, 0, .null)), (94, (.aload_n 0, 95, 0, 0, 0, .null)), (95, (.getfield 10, 98, 0, 0, 0, .null)), (98, (.iload_n 3, 99, 0, 0, 0, .null)), (99, (.invokevirtual 131, 102, 43, 2, 1, .null)), (102, (.aload_n 0, 103, 0, 0, 0, .null)), (103, (.bipush 111, 105, 0, 0, 0, .int 111)), (105, (.iload 4, 107, 0, 0, 0, .null)), (107, (.invokevirtual 154, 110, 11, 3, 0, .null)), (110, (.aload_n 0, 111, 0, 0, 0, .null)), (111, (.getfield 10, 114, 0, 0, 0, .null)), (114, (.ldc 211, 116, 0, 0, 0, .ref 1022)), (116, (.invokevirtual 147, 119, 41, 2, 1, .null)), (119, (.aload_n 0, 120, 0, 0, 0, .null)), (120, (.dup, 121, 0, 0, 0, .null)), (121, (.getfield 97, 124, 0, 13, 0, .null)), (124, (.iconst 1, 125, 0, 0, 0, .int 1)), (125, (.iadd, 126, 0, 0, 0, .null)), (126, (.putfield 97, 129, 0, 13, 0, .null)), (129, (.iconst 1, 130, 0, 0, 0, .int 1)), (130, (.ireturn, 131, 0, 0, 0, .null))]
/-- AssertionGate.isBelow(II)Z -/
def tb13 : mB := [(0, (.iload_n 0, 1, 0, 0, 0, .null)), (1, (.ifCond .lt 12, 4, 13, 0, 0, .null)), (4, (.iload_n 0, 5, 0, 0, 0, .null)), (5, (.iload_n 1, 6, 0, 0, 0, .null)), (6, (.if_icmp .ge 7, 9, 13, 0, 0, .null)), (9, (.iconst 1, 10, 0, 0, 0, .int 1)), (10, (.goto 4, 13, 14, 0, 0, .null)), (13, (.iconst 0, 14, 0, 0, 0, .int 0)), (14, (.ireturn, 15, 0, 0, 0, .null))]
/-- AssertionGate.isPrintable(C)Z -/
def tb14 : mB := [(0, (.iload_n 0, 1, 0, 0, 0, .null)), (1, (.bipush 32, 3, 0, 0, 0, .int 32)), (3, (.if_icmp .lt 13, 6, 16, 0, 0, .null)), (6, (.iload_n 0, 7, 0, 0, 0, .null)), (7, (.bipush 126, 9, 0, 0, 0, .int 126)), (9, (.if_icmp .gt 7, 12, 16, 0, 0, .null)), (12, (.iconst 1, 13, 0, 0, 0, .int 1)), (13, (.goto 4, 16, 17, 0, 0, .null)), (16, (.iconst 0, 17, 0, 0, 0, .int 0)), (17, (.ireturn, 18, 0, 0, 0, .null))]
/-- AssertionGate.write(C)Z -/
def tb15 : mB := [(0, (.iload_n 1, 1, 0, 0, 0, .null)), (1, (.invokestatic 213, 4, 14, 1, 99, .null)), (4, (.ifCond .eq 18, 7, 22, 0, 0, .null)), (7, (.aload_n 0, 8, 0, 0, 0, .null)), (8, (.getfield 10, 11, 0, 0, 0, .null)), (11, (.iload_n 1, 12, 0, 0, 0, .null)), (12, (.invokevirtual 203, 15, 40, 2, 1, .null)), (15, (.ifCond .eq 7, 18, 22, 0, 0, .null)), (18, (.iconst 1, 19, 0, 0, 0, .int 1)), (19, (.goto 4, 22, 23, 0, 0, .null)), (22, (.iconst 0, 23, 0, 0, 0, .int 0)), (23, (.ireturn, 24, 0, 0, 0, .null))]
/-- AssertionGate.set(IC)Z -/
def tb16 : mB := [(0, (.iload_n 1, 1, 0, 0, 0, .null)), (1, (.aload_n 0, 2, 0, 0, 0, .null)), (2, (.getfield 10, 5, 0, 0, 0, .null)), (5, (.getfield 142, 8, 1, 1, 0, .null)), (8, (.invokestatic 127, 11, 13, 2, 99, .null)), (11, (.ifCond .eq 10, 14, 21, 0, 0, .null)), (14, (.iload_n 2, 15, 0, 0, 0, .null)), (15, (.invokestatic 213, 18, 14, 1, 99, .null)), (18, (.ifCond .ne 5, 21, 23, 0, 0, .null)), (21, (.iconst 0, 22, 0, 0, 0, .int 0)), (22, (.ireturn, 23, 0, 0, 0, .null)), (23, (.aload_n 0, 24, 0, 0, 0, .null)), (24, (.getfield 10, 27, 0, 0, 0, .null)), (27, (.getfield 216, 30, 1, 0, 0, .null)), (30, (.iload_n 1, 31, 0, 0, 0, .null)), (31, (.iload_n 2, 32, 0, 0, 0, .null)), (32, (.castore, 33, 0, 0, 0, .null)), (33, (.iconst 1, 34, 0, 0, 0, .int 1)), (34, (.ireturn, 35, 0, 0, 0, .null))]
/-- AssertionGate.cut(II)Z -/
def tb17 : mB := [(0, (.iload_n 1, 1, 0, 0, 0, .null)), (1, (.ifCond .lt 19, 4, 20, 0, 0, .null)), (4, (.iload_n 1, 5, 0, 0, 0, .null)), (5, (.iload_n 2, 6, 0, 0, 0, .null)), (6, (.if_icmp .gt 14, 9, 20, 0, 0, .null)), (9, (.iload_n 2, 10, 0, 0, 0, .null)), (10, (.aload_n 0, 11, 0, 0, 0, .null)), (11, (.getfield 10, 14, 0, 0, 0, .null)), (14, (.getfield 142, 17, 1, 1, 0, .null)), (17, (.if_icmp .le 5, 20, 22, 0, 0, .null)), (20, (.iconst 0, 21, 0, 0, 0, .int 0)), (21, (.ireturn, 22, 0, 0, 0, .null)), (22, (.aload_n 0, 23, 0, 0, 0, .null)), (23, (.getfield 10, 26, 0, 0, 0, .null)), (26, (.iload_n 1, 27, 0, 0, 0, .null)), (27, (.iload_n 2, 28, 0, 0, 0, .null)), (28, (.aload_n 0, 29, 0, 0, 0, .null)), (29, (.getfield 16, 32, 0, 1, 0, .null)), (32, (.invokevirtual 220, 35, 44, 4, 1, .null)), (35, (.iconst 1, 36, 0, 0, 0, .int 1)), (36, (.ireturn, 37, 0, 0, 0, .null))]
/-- AssertionGate.paste(I)Z -/
def tb18 : mB := [(0, (.iload_n 1, 1, 0, 0, 0, .null)), (1, (.ifCond .lt 35, 4, 36, 0, 0, .null)), (4, (.iload_n 1, 5, 0, 0, 0, .null)), (5, (.aload_n 0, 6, 0, 0, 0, .null)), (6, (.getfield 10, 9, 0, 0, 0, .null)), (9, (.getfield 142, 12, 1, 1, 0, .null)), (12, (.if_icmp .gt 24, 15, 36, 0, 0, .null)), (15, (.aload_n 0, 16, 0, 0, 0, .null)), (16, (.getfield 10, 19, 0, 0, 0, .null)), (19, (.getfield 142, 22, 1, 1, 0, .null)), (22, (.aload_n 0, 23, 0, 0, 0, .null)), (23, (.getfield 16, 26, 0, 1, 0, .null)), (26, (.getfield 142, 29, 1, 1, 0, .null)), (29, (.iadd, 30, 0, 0, 0, .null)), (30, (.sipush 400, 33, 0, 0, 0, .int 400)), (33, (.if_icmp .le 5, 36, 38, 0, 0, .null)), (36, (.iconst 0, 37, 0, 0, 0, .int 0)), (37, (.ireturn, 38, 0, 0, 0, .null)), (38, (.aload_n 0, 39, 0, 0, 0, .null)), (39, (.getfield 10, 42, 0, 0, 0, .null)), (42, (.iload_n 1, 43, 0, 0, 0, .null)), (43, (.aload_n 0, 44, 0, 0, 0, .null)), (44, (.getfield 16, 47, 0, 1, 0, .null)), (47, (.invokevirtual 224, 50, 45, 3, 1, .null)), (50, (.iconst 1, 51, 0, 0, 0, .int 1)), (51, (.ireturn, 52, 0, 0, 0, .null))]
/-- AssertionGate.clear()V -/
def tb19 : mB := [(0, (.aload_n 0, 1, 0, 0, 0, .null)), (1, (.getfield 10, 4, 0, 0, 0, .null)), (4, (.iconst 0, 5, 0, 0, 0, .int 0)), (5, (.invokevirtual 131, 8, 43, 2, 1, .null)), (8, (.return_, 9, 0, 0, 0, .null))]
/-- AssertionGate.length()I -/
def tb20 : mB := [(0, (.aload_n 0, 1, 0, 0, 0, .null)), (1, (.getfield 10, 4, 0, 0, 0, .null)), (4, (.getfield 142, 7, 1, 1, 0, .null)), (7, (.ireturn, 8, 0, 0, 0, .null))]
/-- AssertionGate.at(I)I -/
def tb21 : mB := [(0, (.aload_n 0, 1, 0, 0, 0, .null)), (1, (.getfield 10, 4, 0, 0, 0, .null)), (4, (.iload_n 1, 5, 0, 0, 0, .null)), (5, (.invokevirtual 228, 8, 39, 2, 1, .null)), (8, (.ireturn, 9, 0, 0, 0, .null))]
/-- AssertionGate.elements()I -/
def tb22 : mB := [(0, (.aload_n 0, 1, 0, 0, 0, .null)), (1, (.getfield 33, 4, 0, 3, 0, .null)), (4, (.invokevirtual 232, 7, 78, 1, 3, .null)), (7, (.ireturn, 8, 0, 0, 0, .null))]
/-- AssertionGate.digest(I)I -/
def tb23 : mB := [(0, (.iload_n 1, 1, 0, 0, 0, .null)), (1, (.ifCond .lt 25, 4, 26, 0, 0, .null)), (4, (.iload_n 1, 5, 0, 0, 0, .null)), (5, (.aload_n 0, 6, 0, 0, 0, .null)), (6, (.getfield 33, 9, 0, 3, 0, .null)), (9, (.invokevirtual 232, 12, 78, 1, 3, .null)), (12, (.if_icmp .ge 14, 15, 26, 0, 0, .null)), (15, (.aload_n 0, 16, 0, 0, 0, .null)), (16, (.getfield 40, 19, 0, 4, 0, .null)), (19, (.iload_n 1, 20, 0, 0, 0, .null)), (20, (.invokevirtual 236, 23, 86, 2, 4, .null)), (23, (.goto 4, 26, 27, 0, 0, .null)), (26, (.iconst (-1), 27, 0, 0, 0, .int (-1))), (27, (.ireturn, 28, 0, 0, 0, .null))]
/-- AssertionGate.seal(II)I -/
def tb24 : mB := [(0, (.aload_n 0, 1, 0, 0, 0, .null)), (1, (.getfield 47, 4, 0, 5, 0, .null)), (4, (.iload_n 1, 5, 0, 0, 0, .null)), (5, (.invokevirtual 123, 8, 95, 2, 5, .null)), (8, (.ifCond .eq 12, 11, 20, 0, 0, .null)), (11, (.aload_n 0, 12, 0, 0, 0, .null)), (12, (.iload_n 1, 13, 0, 0, 0, .null)), (13, (.iload_n 2, 14, 0, 0, 0, .null)), (14, (.invokevirtual 151, 17, 25, 3, 0, .null)), (17, (.goto 4, 20, 21, 0, 0, .null)), (20, (.iconst (-1), 21, 0, 0, 0, .int (-1))), (21, (.ireturn, 22, 0, 0, 0, .null))]
/-- AssertionGate.sealOfRead(II)I -/
def tb25 : mB := [(0, (.iload_n 2, 1, 0, 0, 0, .null)), (1, (.ifCond .lt 14, 4, 15, 0, 0, .null)), (4, (.iload_n 2, 5, 0, 0, 0, .null)), (5, (.aload_n 0, 6, 0, 0, 0, .null)), (6, (.getfield 33, 9, 0, 3, 0, .null)), (9, (.invokevirtual 232, 12, 78, 1, 3, .null)), (12, (.if_icmp .lt 5, 15, 17, 0, 0, .null)), (15, (.iconst (-1), 16, 0, 0, 0, .int (-1))), (16, (.ireturn, 17, 0, 0, 0, .null)), (17, (.aload_n 0, 18, 0, 0, 0, .null)), (18, (.getfield 47, 21, 0, 5, 0, .null)), (21, (.iload_n 1, 22, 0, 0, 0, .null)), (22, (.aload_n 0, 23, 0, 0, 0, .null)), (23, (.getfield 40, 26, 0, 4, 0, .null)), (26, (.iload_n 2, 27, 0, 0, 0, .null)), (27, (.invokevirtual 236, 30, 86, 2, 4, .null)), (30, (.invokevirtual 239, 33, 96, 3, 5, .null)), (33, (.ireturn, 34, 0, 0, 0, .null))]
/-- AssertionGate.consume()I -/
def tb26 : mB := [(0, (.aload_n 0, 1, 0, 0, 0, .null)), (1, (.getfield 33, 4, 0, 3, 0, .null)), (4, (.invokevirtual 232, 7, 78, 1, 3, .null)), (7, (.istore_n 1, 8, 0, 0, 0, .null)), (8, (.iload_n 1, 9, 0, 0, 0, .null)), (9, (.ifCond .ge 5, 12, 14, 0, 0, .null)), (12, (.iload_n 1, 13, 0, 0, 0, .null)), (13, (.ireturn, 14, 0, 0, 0, .null)), (14, (.aload_n 0, 15, 0, 0, 0, .null)), (15, (.getfield 24, 18, 0, 2, 0, .null)), (18, (.invokevirtual 242, 21, 75, 1, 2, .null)), (21, (.ifCond .eq 6, 24, 27, 0, 0, .null)), (24, (.bipush (-3), 26, 0, 0, 0, .int (-3))), (26, (.ireturn, 27, 0, 0, 0, .null)), (27, (.aload_n 0, 28, 0, 0, 0, .null)), (28, (.getfield 79, 31, 0, 9, 0, .null)), (31, (.invokevirtual 246, 34, 117, 1, 9, .null)), (34, (.ifCond .eq 8, 37, 42, 0, 0, .null)), (37, (.aload_n 0, 38, 0, 0, 0, .null)), (38, (.invokevirtual 249, 41, 30, 1, 0, .null)), (41, (.ireturn, 42, 0, 0, 0, .null)), (42, (.aload_n 0, 43, 0, 0, 0, .null)), (43, (.getfield 86, 46, 0, 10, 0, .null)), (46, (.invokevirtual 252, 49, 123, 1, 10, .null)), (49, (.ifCond .eq 10, 52, 59, 0, 0, .null)), (52, (.aload_n 0, 53, 0, 0, 0, .null)), (53, (.invokevirtual 253, 56, 33, 1, 0, .null)), (56, (.goto 5, 59, 61, 0, 0, .null)), (59, (.bipush (-4), 61, 0, 0, 0, .int (-4))), (61, (.ireturn, 62, 0, 0, 0, .null))]
/-- AssertionGate.session(I)I -/
def tb27 : mB := [(0, (.aload_n 0, 1, 0, 0, 0, .null)), (1, (.getfield 63, 4, 0, 7, 0, .null)), (4, (.iload_n 1, 5, 0, 0, 0, .null)), (5, (.invokevirtual 256, 8, 109, 2, 7, .null)), (8, (.ireturn, 9, 0, 0, 0, .null))]
/-- AssertionGate.name(II)I -/
def tb28 : mB := [(0, (.aload_n 0, 1, 0, 0, 0, .null)), (1, (.getfield 63, 4, 0, 7, 0, .null)), (4, (.getfield 259, 7, 7, 2, 0, .null)), (7, (.iload_n 1, 8, 0, 0, 0, .null)), (8, (.iload_n 2, 9, 0, 0, 0, .null)), (9, (.invokevirtual 262, 12, 113, 3, 8, .null)), (12, (.ireturn, 13, 0, 0, 0, .null))]
/-- AssertionGate.outstanding()I -/
def tb29 : mB := [(0, (.aload_n 0, 1, 0, 0, 0, .null)), (1, (.getfield 56, 4, 0, 6, 0, .null)), (4, (.aload_n 0, 5, 0, 0, 0, .null)), (5, (.getfield 94, 8, 0, 12, 0, .null)), (8, (.invokevirtual 264, 11, 104, 2, 6, .null)), (11, (.ireturn, 12, 0, 0, 0, .null))]
/-- AssertionGate.takeResponse()I -/
def tb30 : mB := [(0, (.aload_n 0, 1, 0, 0, 0, .null)), (1, (.getfield 79, 4, 0, 9, 0, .null)), (4, (.getfield 267, 7, 9, 4, 0, .null)), (7, (.iconst (-1), 8, 0, 0, 0, .int (-1))), (8, (.if_icmp .ne 17, 11, 25, 0, 0, .null)), (11, (.aload_n 0, 12, 0, 0, 0, .null)), (12, (.getfield 79, 15, 0, 9, 0, .null)), (15, (.getfield 270, 18, 9, 8, 0, .null)), (18, (.iconst (-1), 19, 0, 0, 0, .int (-1))), (19, (.if_icmp .ne 6, 22, 25, 0, 0, .null)), (22, (.bipush (-5), 24, 0, 0, 0, .int (-5))), (24, (.ireturn, 25, 0, 0, 0, .null)), (25, (.aload_n 0, 26, 0, 0, 0, .null)), (26, (.getfield 79, 29, 0, 9, 0, .null)), (29, (.getfield 267, 32, 9, 4, 0, .null)), (32, (.iconst (-1), 33, 0, 0, 0, .int (-1))), (33, (.if_icmp .eq 28, 36, 61, 0, 0, .null)), (36, (.aload_n 0, 37, 0, 0, 0, .null)), (37, (.aload_n 0, 38, 0, 0, 0, .null)), (38, (.getfield 79, 41, 0, 9, 0, .null)), (41, (.getfield 267, 44, 9, 4, 0, .null)), (44, (.iconst 0, 45, 0, 0, 0, .int 0)), (45, (.aload_n 0, 46, 0, 0, 0, .null)), (46, (.getfield 79, 49, 0, 9, 0, .null)), (49, (.getfield 273, 52, 9, 1, 0, .null)), (52, (.invokevirtual 276, 55, 34, 4, 0, .null)), (55, (.ifCond .ne 6, 58, 61, 0, 0, .null)), (58, (.bipush (-6), 60, 0, 0, 0, .int (-6))), (60, (.ireturn, 61, 0, 0, 0, .null)), (61, (.aload_n 0, 62, 0, 0, 0, .null)), (62, (.getfield 79, 65, 0, 9, 0, .null)), (65, (.getfield 270, 68, 9, 8, 0, .null)), (68, (.iconst (-1), 69, 0, 0, 0, .int (-1))), (69, (.if_icmp .eq 34, 72, 103, 0, 0, .null)), (72, (.aload_n 0, 73, 0, 0, 0, .null)), (73, (.aload_n 0, 74, 0, 0, 0, .null)), (74, (.getfield 79, 77, 0, 9, 0, .null)), (77, (.getfield 270, 80, 9, 8, 0, .null)), (80, (.aload_n 0, 81, 0, 0, 0, .null)), (81, (.getfield 79, 84, 0, 9, 0, .null)), (84, (.getfield 279, 87, 9, 3, 0, .null)), (87, (.aload_n 0, 88, 0, 0, 0, .null)), (88, (.getfield 79, 91, 0, 9, 0, .null)), (91, (.getfield 282, 94, 9, 5, 0, .null)), (94, (.invokevirtual 276, 97, 34, 4, 0, .null)), (97, (.ifCond .ne 6, 100, 103, 0, 0, .null)), (100, (.bipush (-6), 102, 0, 0, 0, .int (-6))), (102, (.ireturn, 103, 0, 0, 0, .null)), (103, (.aload_n 0, 104, 0, 0, 0, .null)), (104, (.getfield 24, 107, 0, 2, 0, .null)), (107, (.aload_n 0, 108, 0, 0, 0, .null)), (108, (.getfield 79, 111, 0, 9, 0, .null)), (111, (.getfield 273, 114, 9, 1, 0, .null)), (114, (.aload_n 0, 115, 0, 0, 0, .null)), (115, (.getfield 79, 118, 0, 9, 0, .null)), (118, (.getfield 282, 121, 9, 5, 0, .null)), (121, (.invokevirtual 285, 124, 64, 3, 2, .null)), (124, (.ifCond .ne 6, 127, 130, 0, 0, .null)), (127, (.bipush (-7), 129, 0, 0, 0, .int (-7))), (129, (.ireturn, 130, 0, 0, 0, .null)), (130, (.aload_n 0, 131, 0, 0, 0, .null)), (131, (.aload_n 0, 132, 0, 0, 0, .null)), (132, (.getfield 79, 135, 0, 9, 0, .null)), (135, (.getfield 273, 138, 9, 1, 0, .null)), (138, (.invokevirtual 288, 141, 35, 2, 0, .null)), (141, (.istore_n 1, 142, 0, 0, 0, .null)), (142, (.aload_n 0, 143, 0, 0, 0, .null)), (143, (.iload_n 1, 144, 0, 0, 0, .null)), (144, (.invokevirtual 291, 147, 31, 2, 0, .null)), (147, (.istore_n 2, 148, 0, 0, 0, .null)), (148, (.iload_n 2, 149, 0, 0, 0, .null)), (149, (.ifCond .eq 5, 152, 154, 0, 0, .null)), (152, (.iload_n 2, 153, 0, 0, 0, .null)), (153, (.ireturn, 154, 0, 0, 0, .null)), (154, (.aload_n 0, 155, 0, 0, 0, .null)), (155, (.aload_n 0, 156, 0, 0, 0, .null)), (156, (.getfield 79, 159, 0, 9, 0, .null)), (159, (.getfield 279, 162, 9, 3, 0, .null)), (162, (.invokevirtual 294, 165, 37, 2, 0, .null)), (165, (.aload_n 0, 166, 0, 0, 0, .null)), (166, (.getfield 56, 169, 0, 6, 0, .null)), (169, (.aload_n 0, 170, 0, 0, 0, .null)), (170, (.getfield 24, 173, 0, 2, 0, .null)), (173, (.iconst 0, 174, 0, 0, 0, .int 0)), (174, (.ldc_w 297, 177, 0, 0, 0, .ref 1033)), (177, (.invokevirtual 299, 180, 74, 3, 2, .null)), (180, (.invokevirtual 303, 183, 103, 2, 6, .null)), (183, (.aload_n 0, 184, 0, 0, 0, .null)), (184, (.getfield 63, 187, 0, 7, 0, .null)), (187, (.iload_n 1, 188, 0, 0, 0, .null)), (188, (.aload_n 0, 189, 0, 0, 0, .null)), (189, (.getfield 10, 192, 0, 0, 0, .null)), (192, (.aload_n 0, 193, 0, 0, 0, .null)), (193, (.getfield 24, 196, 0, 2, 0, .null)), (196, (.aload_n 0, 197, 0, 0, 0, .null)), (197, (.getfield 79, 200, 0, 9, 0, .null)), (200, (.getfield 306, 203, 9, 9, 0, .null)), (203, (.invokevirtual 309, 206, 60, 2, 2, .null)), (206, (.aload_n 0, 207, 0, 0, 0, .null)), (207, (.getfield 24, 210, 0, 2, 0, .null)), (210, (.aload_n 0, 211, 0, 0, 0, .null)), (211, (.getfield 79, 214, 0, 9, 0, .null)), (214, (.getfield 306, 217, 9, 9, 0, .null)), (217, (.invokevirtual 312, 220, 61, 2, 2, .null)), (220, (.invokevirtual 315, 223, 107, 5, 7, .null)), (223, (.ireturn, 224, 0, 0, 0, .null))]
/-- AssertionGate.faultOfTerms(I)I -/
def tb31 : mB := [(0, (.aload_n 0, 1, 0, 0, 0, .null)), (1, (.getfield 24, 4, 0, 2, 0, .null)), (4, (.iconst 0, 5, 0, 0, 0, .int 0)), (5, (.ldc_w 318, 8, 0, 0, 0, .ref 1032)), (8, (.ldc_w 320, 11, 0, 0, 0, .ref 1040)), (11, (.invokevirtual 322, 14, 69, 4, 2, .null)), (14, (.ifCond .ne 6, 17, 20, 0, 0, .null)), (17, (.bipush (-8), 19, 0, 0, 0, .int (-8))), (19, (.ireturn, 20, 0, 0, 0, .null)), (20, (.aload_n 0, 21, 0, 0, 0, .null)), (21, (.getfield 24, 24, 0, 2, 0, .null)), (24, (.aload_n 0, 25, 0, 0, 0, .null)), (25, (.getfield 79, 28, 0, 9, 0, .null)), (28, (.getfield 326, 31, 9, 2, 0, .null)), (31, (.ldc_w 329, 34, 0, 0, 0, .ref 1041)), (34, (.invokevirtual 331, 37, 63, 3, 2, .null)), (37, (.ifCond .ne 6, 40, 43, 0, 0, .null)), (40, (.bipush (-9), 42, 0, 0, 0, .int (-9))), (42, (.ireturn, 43, 0, 0, 0, .null)), (43, (.aload_n 0, 44, 0, 0, 0, .null)), (44, (.getfield 56, 47, 0, 6, 0, .null)), (47, (.aload_n 0, 48, 0, 0, 0, .null)), (48, (.getfield 24, 51, 0, 2, 0, .null)), (51, (.iconst 0, 52, 0, 0, 0, .int 0)), (52, (.ldc_w 297, 55, 0, 0, 0, .ref 1033)), (55, (.invokevirtual 299, 58, 74, 3, 2, .null)), (58, (.iload_n 1, 59, 0, 0, 0, .null)), (59, (.aload_n 0, 60, 0, 0, 0, .null)), (60, (.getfield 94, 63, 0, 12, 0, .null)), (63, (.invokevirtual 335, 66, 102, 4, 6, .null)), (66, (.ifCond .ne 6, 69, 72, 0, 0, .null)), (69, (.bipush (-10), 71, 0, 0, 0, .int (-10))), (71, (.ireturn, 72, 0, 0, 0, .null)), (72, (.aload_n 0, 73, 0, 0, 0, .null)), (73, (.getfield 24, 76, 0, 2, 0, .null)), (76, (.aload_n 0, 77, 0, 0, 0, .null)), (77, (.getfield 79, 80, 0, 9, 0, .null)), (80, (.getfield 338, 83, 9, 6, 0, .null)), (83, (.ldc_w 341, 86, 0, 0, 0, .ref 1036)), (86, (.ldc_w 343, 89, 0, 0, 0, .ref 1042)), (89, (.invokevirtual 322, 92, 69, 4, 2, .null)), (92, (.ifCond .ne 6, 95, 98, 0, 0, .null)), (95, (.bipush (-11), 97, 0, 0, 0, .int (-11))), (97, (.ireturn, 98, 0, 0, 0, .null)), (98, (.aload_n 0, 99, 0, 0, 0, .null)), (99, (.getfield 24, 102, 0, 2, 0, .null)), (102, (.aload_n 0, 103, 0, 0, 0, .null)), (103, (.getfield 79, 106, 0, 9, 0, .null)), (106, (.getfield 338, 109, 9, 6, 0, .null)), (109, (.ldc_w 345, 112, 0, 0, 0, .ref 1037)), (112, (.invokevirtual 299, 115, 74, 3, 2, .null)), (115, (.aload_n 0, 116, 0, 0, 0, .null)), (116, (.getfield 94, 119, 0, 12, 0, .null)), (119, (.aload_n 0, 120, 0, 0, 0, .null)), (120, (.getfield 90, 123, 0, 11, 0, .null)), (123, (.iadd, 124, 0, 0, 0, .null)), (124, (.if_icmp .gt 17, 127, 141, 0, 0, .null)), (127, (.aload_n 0, 128, 0, 0, 0, .null)), (128, (.aload_n 0, 129, 0, 0, 0, .null)), (129, (.getfield 79, 132, 0, 9, 0, .null)), (132, (.getfield 338, 135, 9, 6, 0, .null)), (135, (.invokevirtual 347, 138, 32, 2, 0, .null)), (138, (.ifCond .eq 6, 141, 144, 0, 0, .null)), (141, (.bipush (-12), 143, 0, 0, 0, .int (-12))), (143, (.ireturn, 144, 0, 0, 0, .null)), (144, (.aload_n 0, 145, 0, 0, 0, .null)), (145, (.getfield 24, 148, 0, 2, 0, .null)), (148, (.aload_n 0, 149, 0, 0, 0, .null)), (149, (.getfield 79, 152, 0, 9, 0, .null)), (152, (.getfield 350, 155, 9, 10, 0, .null)), (155, (.ldc_w 353, 158, 0, 0, 0, .ref 1039)), (158, (.ldc_w 320, 161, 0, 0, 0, .ref 1040)), (161, (.invokevirtual 322, 164, 69, 4, 2, .null)), (164, (.ifCond .eq 38, 167, 202, 0, 0, .null)), (167, (.aload_n 0, 168, 0, 0, 0, .null)), (168, (.getfield 24, 171, 0, 2, 0, .null)), (171, (.aload_n 0, 172, 0, 0, 0, .null)), (172, (.getfield 79, 175, 0, 9, 0, .null)), (175, (.getfield 350, 178, 9, 10, 0, .null)), (178, (.iconst 0, 179, 0, 0, 0, .int 0)), (179, (.ldc_w 297, 182, 0, 0, 0, .ref 1033)), (182, (.invokevirtual 355, 185, 71, 4, 2, .null)), (185, (.ifCond .eq 17, 188, 202, 0, 0, .null)), (188, (.aload_n 0, 189, 0, 0, 0, .null)), (189, (.aload_n 0, 190, 0, 0, 0, .null)), (190, (.getfield 79, 193, 0, 9, 0, .null)), (193, (.getfield 350, 196, 9, 10, 0, .null)), (196, (.invokevirtual 347, 199, 32, 2, 0, .null)), (199, (.ifCond .eq 6, 202, 205, 0, 0, .null)), (202, (.bipush (-13), 204, 0, 0, 0, .int (-13))), (204, (.ireturn, 205, 0, 0, 0, .null)), (205, (.aload_n 0, 206, 0, 0, 0, .null)), (206, (.aload_n 0, 207, 0, 0, 0, .null)), (207, (.getfield 79, 210, 0, 9, 0, .null)), (210, (.getfield 279, 213, 9, 3, 0, .null)), (213, (.invokevirtual 359, 216, 36, 2, 0, .null)), (216, (.ifCond .eq 6, 219, 222, 0, 0, .null)), (219, (.bipush (-14), 221, 0, 0, 0, .int (-14))), (221, (.ireturn, 222, 0, 0, 0, .null)), (222, (.aload_n 0, 223, 0, 0, 0, .null)), (223, (.getfield 63, 226, 0, 7, 0, .null)), (226, (.invokevirtual 362, 229, 106, 1, 7, .null)), (229, (.ifCond .ne 13, 232, 242, 0, 0, .null)), (232, (.aload_n 0, 233, 0, 0, 0, .null)), (233, (.getfield 70, 236, 0, 8, 0, .null)), (236, (.invokevirtual 365, 239, 111, 1, 8, .null)), (239, (.ifCond .eq 8, 242, 247, 0, 0, .null)), (242, (.bipush (-15), 244, 0, 0, 0, .int (-15))), (244, (.goto 4, 247, 248, 0, 0, .null)), (247, (.iconst 0, 248, 0, 0, 0, .int 0)), (248, (.ireturn, 249, 0, 0, 0, .null))]
/-- AssertionGate.hasRunOut(I)Z -/
def tb32 : mB := [(0, (.aload_n 0, 1, 0, 0, 0, .null)), (1, (.getfield 24, 4, 0, 2, 0, .null)), (4, (.iload_n 1, 5, 0, 0, 0, .null)), (5, (.ldc_w 366, 8, 0, 0, 0, .ref 1038)), (8, (.invokevirtual 299, 11, 74, 3, 2, .null)), (11, (.aload_n 0, 12, 0, 0, 0, .null)), (12, (.getfield 94, 15, 0, 12, 0, .null)), (15, (.aload_n 0, 16, 0, 0, 0, .null)), (16, (.getfield 90, 19, 0, 11, 0, .null)), (19, (.isub, 20, 0, 0, 0, .null)), (20, (.if_icmp .gt 7, 23, 27, 0, 0, .null)), (23, (.iconst 1, 24, 0, 0, 0, .int 1)), (24, (.goto 4, 27, 28, 0, 0, .null)), (27, (.iconst 0, 28, 0, 0, 0, .int 0)), (28, (.ireturn, 29, 0, 0, 0, .null))]
/-- AssertionGate.takeLogout()I -/
def tb33 : mB := [(0, (.aload_n 0, 1, 0, 0, 0, .null)), (1, (.getfield 86, 4, 0, 10, 0, .null)), (4, (.getfield 368, 7, 10, 3, 0, .null)), (7, (.iconst (-1), 8, 0, 0, 0, .int (-1))), (8, (.if_icmp .ne 6, 11, 14, 0, 0, .null)), (11, (.bipush (-5), 13, 0, 0, 0, .int (-5))), (13, (.ireturn, 14, 0, 0, 0, .null)), (14, (.aload_n 0, 15, 0, 0, 0, .null)), (15, (.aload_n 0, 16, 0, 0, 0, .null)), (16, (.getfield 86, 19, 0, 10, 0, .null)), (19, (.getfield 368, 22, 10, 3, 0, .null)), (22, (.iconst 0, 23, 0, 0, 0, .int 0)), (23, (.aload_n 0, 24, 0, 0, 0, .null)), (24, (.getfield 86, 27, 0, 10, 0, .null)), (27, (.getfield 369, 30, 10, 1, 0, .null)), (30, (.invokevirtual 276, 33, 34, 4, 0, .null)), (33, (.ifCond .ne 6, 36, 39, 0, 0, .null)), (36, (.bipush (-6), 38, 0, 0, 0, .int (-6))), (38, (.ireturn, 39, 0, 0, 0, .null)), (39, (.aload_n 0, 40, 0, 0, 0, .null)), (40, (.getfield 24, 43, 0, 2, 0, .null)), (43, (.iconst 0, 44, 0, 0, 0, .int 0)), (44, (.ldc_w 318, 47, 0, 0, 0, .ref 1032)), (47, (.ldc_w 320, 50, 0, 0, 0, .ref 1040)), (50, (.invokevirtual 322, 53, 69, 4, 2, .null)), (53, (.ifCond .ne 6, 56, 59, 0, 0, .null)), (56, (.bipush (-8), 58, 0, 0, 0, .int (-8))), (58, (.ireturn, 59, 0, 0, 0, .null)), (59, (.aload_n 0, 60, 0, 0, 0, .null)), (60, (.iconst 0, 61, 0, 0, 0, .int 0)), (61, (.invokevirtual 359, 64, 36, 2, 0, .null)), (64, (.ifCond .eq 6, 67, 70, 0, 0, .null)), (67, (.bipush (-14), 69, 0, 0, 0, .int (-14))), (69, (.ireturn, 70, 0, 0, 0, .null)), (70, (.aload_n 0, 71, 0, 0, 0, .null)), (71, (.getfield 70, 74, 0, 8, 0, .null)), (74, (.invokevirtual 365, 77, 111, 1, 8, .null)), (77, (.ifCond .eq 6, 80, 83, 0, 0, .null)), (80, (.bipush (-15), 82, 0, 0, 0, .int (-15))), (82, (.ireturn, 83, 0, 0, 0, .null)), (83, (.aload_n 0, 84, 0, 0, 0, .null)), (84, (.iconst 0, 85, 0, 0, 0, .int 0)), (85, (.invokevirtual 294, 88, 37, 2, 0, .null)), (88, (.aload_n 0, 89, 0, 0, 0, .null)), (89, (.aload_n 0, 90, 0, 0, 0, .null)), (90, (.getfield 86, 93, 0, 10, 0, .null)), (93, (.getfield 369, 96, 10, 1, 0, .null)), (96, (.invokevirtual 288, 99, 35, 2, 0, .null)), (99, (.istore_n 1, 100, 0, 0, 0, .null)), (100, (.aload_n 0, 101, 0, 0, 0, .null)), (101, (.getfield 24, 104, 0, 2, 0, .null)), (104, (.aload_n 0, 105, 0, 0, 0, .null)), (105, (.getfield 86, 108, 0, 10, 0, .null)), (108, (.getfield 370, 111, 10, 2, 0, .null)), (111, (.invokevirtual 309, 114, 60, 2, 2, .null)), (114, (.istore_n 2, 115, 0, 0, 0, .null)), (115, (.bipush 100, 117, 0, 0, 0, .int 100)), (117, (.aload_n 0, 118, 0, 0, 0, .null)), (118, (.getfield 63, 121, 0, 7, 0, .null)), (121, (.iload_n 1, 122, 0, 0, 0, .null)), (122, (.aload_n 0, 123, 0, 0, 0, .null)), (123, (.getfield 10, 126, 0, 0, 0, .null)), (126, (.iload_n 2, 127, 0, 0, 0, .null)), (127, (.aload_n 0, 128, 0, 0, 0, .null)), (128, (.getfield 24, 131, 0, 2, 0, .null)), (131, (.aload_n 0, 132, 0, 0, 0, .null)), (132, (.getfield 86, 135, 0, 10, 0, .null)), (135, (.getfield 370, 138, 10, 2, 0, .null)), (138, (.invokevirtual 312, 141, 61, 2, 2, .null)), (141, (.invokevirtual 371, 144, 108, 5, 7, .null)), (144, (.iadd, 145, 0, 0, 0, .null)), (145, (.ireturn, 146, 0, 0, 0, .null))]
/-- AssertionGate.isValid(III)Z -/
def tb34 : mB := [(0, (.aload_n 0, 1, 0, 0, 0, .null)), (1, (.iload_n 3, 2, 0, 0, 0, .null)), (2, (.invokevirtual 288, 5, 35, 2, 0, .null)), (5, (.istore 4, 7, 0, 0, 0, .null)), (7, (.iload 4, 9, 0, 0, 0, .null)), (9, (.iconst (-1), 10, 0, 0, 0, .int (-1))), (10, (.if_icmp .eq 35, 13, 45, 0, 0, .null)), (13, (.aload_n 0, 14, 0, 0, 0, .null)), (14, (.getfield 24, 17, 0, 2, 0, .null)), (17, (.aload_n 0, 18, 0, 0, 0, .null)), (18, (.getfield 24, 21, 0, 2, 0, .null)), (21, (.iload_n 1, 22, 0, 0, 0, .null)), (22, (.ldc_w 374, 25, 0, 0, 0, .ref 1034)), (25, (.invokevirtual 376, 28, 65, 3, 2, .null)), (28, (.aload_n 0, 29, 0, 0, 0, .null)), (29, (.getfield 24, 32, 0, 2, 0, .null)), (32, (.iload_n 2, 33, 0, 0, 0, .null)), (33, (.ldc_w 379, 36, 0, 0, 0, .ref 1023)), (36, (.invokevirtual 376, 39, 65, 3, 2, .null)), (39, (.invokevirtual 381, 42, 70, 3, 2, .null)), (42, (.ifCond .ne 5, 45, 47, 0, 0, .null)), (45, (.iconst 0, 46, 0, 0, 0, .int 0)), (46, (.ireturn, 47, 0, 0, 0, .null)), (47, (.aload_n 0, 48, 0, 0, 0, .null)), (48, (.getfield 47, 51, 0, 5, 0, .null)), (51, (.iload 4, 53, 0, 0, 0, .null)), (53, (.aload_n 0, 54, 0, 0, 0, .null)), (54, (.getfield 24, 57, 0, 2, 0, .null)), (57, (.iload_n 1, 58, 0, 0, 0, .null)), (58, (.ldc_w 384, 61, 0, 0, 0, .ref 1035)), (61, (.invokevirtual 299, 64, 74, 3, 2, .null)), (64, (.aload_n 0, 65, 0, 0, 0, .null)), (65, (.getfield 40, 68, 0, 4, 0, .null)), (68, (.iload_n 2, 69, 0, 0, 0, .null)), (69, (.invokevirtual 236, 72, 86, 2, 4, .null)), (72, (.invokevirtual 386, 75, 97, 4, 5, .null)), (75, (.ireturn, 76, 0, 0, 0, .null))]
/-- AssertionGate.trustedNamed(I)I -/
def tb35 : mB := [(0, (.aload_n 0, 1, 0, 0, 0, .null)), (1, (.getfield 24, 4, 0, 2, 0, .null)), (4, (.iload_n 1, 5, 0, 0, 0, .null)), (5, (.invokevirtual 309, 8, 60, 2, 2, .null)), (8, (.istore_n 2, 9, 0, 0, 0, .null)), (9, (.aload_n 0, 10, 0, 0, 0, .null)), (10, (.getfield 24, 13, 0, 2, 0, .null)), (13, (.iload_n 1, 14, 0, 0, 0, .null)), (14, (.invokevirtual 312, 17, 61, 2, 2, .null)), (17, (.iload_n 2, 18, 0, 0, 0, .null)), (18, (.isub, 19, 0, 0, 0, .null)), (19, (.iconst 2, 20, 0, 0, 0, .int 2)), (20, (.if_icmp .ne 16, 23, 36, 0, 0, .null)), (23, (.aload_n 0, 24, 0, 0, 0, .null)), (24, (.getfield 10, 27, 0, 0, 0, .null)), (27, (.iload_n 2, 28, 0, 0, 0, .null)), (28, (.invokevirtual 228, 31, 39, 2, 1, .null)), (31, (.bipush 112, 33, 0, 0, 0, .int 112)), (33, (.if_icmp .eq 5, 36, 38, 0, 0, .null)), (36, (.iconst (-1), 37, 0, 0, 0, .int (-1))), (37, (.ireturn, 38, 0, 0, 0, .null)), (38, (.aload_n 0, 39, 0, 0, 0, .null)), (39, (.getfield 10, 42, 0, 0, 0, .null)), (42, (.iload_n 2, 43, 0, 0, 0, .null)), (43, (.iconst 1, 44, 0, 0, 0, .int 1)), (44, (.iadd, 45, 0, 0, 0, .null)), (45, (.invokevirtual 228, 48, 39, 2, 1, .null)), (48, (.bipush 48, 50, 0, 0, 0, .int 48)), (50, (.isub, 51, 0, 0, 0, .null)), (51, (.istore_n 3, 52, 0, 0, 0, .null)), (52, (.aload_n 0, 53, 0, 0, 0, .null)), (53, (.getfield 47, 56, 0, 5, 0, .null)), (56, (.iload_n 3, 57, 0, 0, 0, .null)), (57, (.invokevirtual 389, 60, 94, 2, 5, .null)), (60, (.ifCond .eq 7, 63, 67, 0, 0, .null)), (63, (.iload_n 3, 64, 0, 0, 0, .null)), (64, (.goto 4, 67, 68, 0, 0, .null)), (67, (.iconst (-1), 68, 0, 0, 0, .int (-1))), (68, (.ireturn, 69, 0, 0, 0, .null))]
/-- AssertionGate.isSeen(I)Z -/
def tb36 : mB := [(0, (.aload_n 0, 1, 0, 0, 0, .null)), (1, (.getfield 24, 4, 0, 2, 0, .null)), (4, (.iload_n 1, 5, 0, 0, 0, .null)), (5, (.ldc_w 379, 8, 0, 0, 0, .ref 1023)), (8, (.invokevirtual 376, 11, 65, 3, 2, .null)), (11, (.istore_n 2, 12, 0, 0, 0, .null)), (12, (.aload_n 0, 13, 0, 0, 0, .null)), (13, (.getfield 70, 16, 0, 8, 0, .null)), (16, (.aload_n 0, 17, 0, 0, 0, .null)), (17, (.getfield 10, 20, 0, 0, 0, .null)), (20, (.aload_n 0, 21, 0, 0, 0, .null)), (21, (.getfield 24, 24, 0, 2, 0, .null)), (24, (.iload_n 2, 25, 0, 0, 0, .null)), (25, (.invokevirtual 392, 28, 67, 2, 2, .null)), (28, (.aload_n 0, 29, 0, 0, 0, .null)), (29, (.getfield 24, 32, 0, 2, 0, .null)), (32, (.iload_n 2, 33, 0, 0, 0, .null)), (33, (.invokevirtual 395, 36, 68, 2, 2, .null)), (36, (.invokevirtual 398, 39, 115, 4, 8, .null)), (39, (.iconst (-1), 40, 0, 0, 0, .int (-1))), (40, (.if_icmp .eq 7, 43, 47, 0, 0, .null)), (43, (.iconst 1, 44, 0, 0, 0, .int 1)), (44, (.goto 4, 47, 48, 0, 0, .null)), (47, (.iconst 0, 48, 0, 0, 0, .int 0)), (48, (.ireturn, 49, 0, 0, 0, .null))]
/-- AssertionGate.markSeen(I)V -/
def tb37 : mB := [(0, (.aload_n 0, 1, 0, 0, 0, .null)), (1, (.getfield 24, 4, 0, 2, 0, .null)), (4, (.iload_n 1, 5, 0, 0, 0, .null)), (5, (.ldc_w 379, 8, 0, 0, 0, .ref 1023)), (8, (.invokevirtual 376, 11, 65, 3, 2, .null)), (11, (.istore_n 2, 12, 0, 0, 0, .null)), (12, (.aload_n 0, 13, 0, 0, 0, .null)), (13, (.getfield 70, 16, 0, 8, 0, .null)), (16, (.aload_n 0, 17, 0, 0, 0, .null)), (17, (.getfield 10, 20, 0, 0, 0, .null)), (20, (.aload_n 0, 21, 0, 0, 0, .null)), (21, (.getfield 24, 24, 0, 2, 0, .null)), (24, (.iload_n 2, 25, 0, 0, 0, .null)), (25, (.invokevirtual 392, 28, 67, 2, 2, .null)), (28, (.aload_n 0, 29, 0, 0, 0, .null)), (29, (.getfield 24, 32, 0, 2, 0, .null)), (32, (.iload_n 2, 33, 0, 0, 0, .null)), (33, (.invokevirtual 395, 36, 68, 2, 2, .null)), (36, (.invokevirtual 402, 39, 112, 4, 8, .null)), (39, (.return_, 40, 0, 0, 0, .null))]
/-- AssertionGate$Page.<init>()V -/
def tb38 : mB := [(0, (.aload_n 0, 1, 0, 0, 0, .null)), (1, (.invokespecial 3, 4, 1000, 1, 99, .null)), (4, (.aload_n 0, 5, 0, 0, 0, .null)), (5, (.sipush 400, 8, 0, 0, 0, .int 400)), (8, (.newarray .char, 10, 1, 0, 0, .null)), (10, (.putfield 9, 13, 1, 0, 0, .null)), (13, (.aload_n 0, 14, 0, 0, 0, .null)), (14, (.iconst 0, 15, 0, 0, 0, .int 0)), (15, (.putfield 15, 18, 1, 1, 0, .null)), (18, (.return_, 19, 0, 0, 0, .null))]
/-- AssertionGate$Page.codeAt(I)I -/
def tb39 : mB := [(0, (.iload_n 1, 1, 0, 0, 0, .null)), (1, (.ifCond .lt 20, 4, 21, 0, 0, .null)), (4, (.iload_n 1, 5, 0, 0, 0, .null)), (5, (.aload_n 0, 6, 0, 0, 0, .null)), (6, (.getfield 15, 9, 1, 1, 0, .null)), (9, (.if_icmp .ge 12, 12, 21, 0, 0, .null)), (12, (.aload_n 0, 13, 0, 0, 0, .null)), (13, (.getfield 9, 16, 1, 0, 0, .null)), (16, (.iload_n 1, 17, 0, 0, 0, .null)), (17, (.caload, 18, 0, 0, 0, .null)), (18, (.goto 4, 21, 22, 0, 0, .null)), (21, (.iconst (-1), 22, 0, 0, 0, .int (-1))), (22, (.ireturn, 23, 0, 0, 0, .null))]
/-- AssertionGate$Page.put(C)Z -/
def tb40 : mB := [(0, (.aload_n 0, 1, 0, 0, 0, .null)), (1, (.getfield 15, 4, 1, 1, 0, .null)), (4, (.sipush 400, 7, 0, 0, 0, .int 400)), (7, (.if_icmp .lt 5, 10, 12, 0, 0, .null)), (10, (.iconst 0, 11, 0, 0, 0, .int 0)), (11, (.ireturn, 12, 0, 0, 0, .null)), (12, (.aload_n 0, 13, 0, 0, 0, .null)), (13, (.getfield 9, 16, 1, 0, 0, .null)), (16, (.aload_n 0, 17, 0, 0, 0, .null)), (17, (.getfield 15, 20, 1, 1, 0, .null)), (20, (.iload_n 1, 21, 0, 0, 0, .null)), (21, (.castore, 22, 0, 0, 0, .null)), (22, (.aload_n 0, 23, 0, 0, 0, .null)), (23, (.dup, 24, 0, 0, 0, .null)), (24, (.getfield 15, 27, 1, 1, 0, .null)), (27, (.iconst 1, 28, 0, 0, 0, .int 1)), (28, (.iadd, 29, 0, 0, 0, .null)), (29, (.putfield 15, 32, 1, 1, 0, .null)), (32, (.iconst 1, 33, 0, 0, 0, .int 1)), (33, (.ireturn, 34, 0, 0, 0, .null))]
/-- AssertionGate$Page.putWord(Ljava/lang/String;)V -/
def tb41 : mB := [(0, (.iconst 0, 1, 0, 0, 0, .int 0)), (1, (.istore_n 2, 2, 0, 0, 0, .null)), (2, (.iload_n 2, 3, 0, 0, 0, .null)), (3, (.aload_n 1, 4, 0, 0, 0, .null)), (4, (.invokevirtual 19, 7, 1003, 1, 99, .null)), (7, (.if_icmp .ge 19, 10, 26, 0, 0, .null)), (10, (.aload_n 0, 11, 0, 0, 0, .null)), (11, (.aload_n 1, 12, 0, 0, 0, .null)), (12, (.iload_n 2, 13, 0, 0, 0, .null)), (13, (.invokevirtual 25, 16, 1004, 2, 99, .null)), (16, (.invokevirtual 29, 19, 40, 2, 1, .null)), (19, (.pop, 20, 0, 0, 0, .null)), (20, (.iinc 2 1, 23, 0, 0, 0, .int 1)), (23, (.goto (-21), 26, 2, 0, 0, .null)), (26, (.return_, 27, 0, 0, 0, .null))]
/-- AssertionGate$Page.putNumber(I)V -/
def tb42 : mB := [(0, (.iconst 1, 1, 0, 0, 0, .int 1)), (1, (.istore_n 2, 2, 0, 0, 0, .null)), (2, (.iconst 0, 3, 0, 0, 0, .int 0)), (3, (.istore_n 3, 4, 0, 0, 0, .null)), (4, (.iload_n 3, 5, 0, 0, 0, .null)), (5, (.bipush 9, 7, 0, 0, 0, .int 9)), (7, (.if_icmp .ge 22, 10, 29, 0, 0, .null)), (10, (.iload_n 1, 11, 0, 0, 0, .null)), (11, (.iload_n 2, 12, 0, 0, 0, .null)), (12, (.idiv, 13, 0, 0, 0, .null)), (13, (.bipush 10, 15, 0, 0, 0, .int 10)), (15, (.if_icmp .lt 14, 18, 29, 0, 0, .null)), (18, (.iload_n 2, 19, 0, 0, 0, .null)), (19, (.bipush 10, 21, 0, 0, 0, .int 10)), (21, (.imul, 22, 0, 0, 0, .null)), (22, (.istore_n 2, 23, 0, 0, 0, .null)), (23, (.iinc 3 1, 26, 0, 0, 0, .int 1)), (26, (.goto (-22), 29, 4, 0, 0, .null)), (29, (.iload_n 2, 30, 0, 0, 0, .null)), (30, (.ifCond .le 26, 33, 56, 0, 0, .null)), (33, (.aload_n 0, 34, 0, 0, 0, .null)), (34, (.bipush 48, 36, 0, 0, 0, .int 48)), (36, (.iload_n 1, 37, 0, 0, 0, .null)), (37, (.iload_n 2, 38, 0, 0, 0, .null)), (38, (.idiv, 39, 0, 0, 0, .null)), (39, (.bipush 10, 41, 0, 0, 0, .int 10)), (41, (.irem, 42, 0, 0, 0, .null)), (42, (.iadd, 43, 0, 0, 0, .null)), (43, (.i2c, 44, 0, 0, 0, .null)), (44, (.invokevirtual 29, 47, 40, 2, 1, .null)), (47, (.pop, 48, 0, 0, 0, .null)), (48, (.iload_n 2, 49, 0, 0, 0, .null)), (49, (.bipush 10, 51, 0, 0, 0, .int 10)), (51, (.idiv, 52, 0, 0, 0, .null)), (52, (.istore_n 2, 53, 0, 0, 0, .null)), (53, (.goto (-24), 56, 29, 0, 0, .null)), (56, (.return_, 57, 0, 0, 0, .null))]
/-- AssertionGate$Page.shorten(I)V -/
def tb43 : mB := [(0, (.iload_n 1, 1, 0, 0, 0, .null)), (1, (.ifCond .lt 16, 4, 17, 0, 0, .null)), (4, (.iload_n 1, 5, 0, 0, 0, .null)), (5, (.aload_n 0, 6, 0, 0, 0, .null)), (6, (.getfield 15, 9, 1, 1, 0, .null)), (9, (.if_icmp .gt 8, 12, 17, 0, 0, .null)), (12, (.aload_n 0, 13, 0, 0, 0, .null)), (13, (.iload_n 1, 14, 0, 0, 0, .null)), (14, (.putfield 15, 17, 1, 1, 0, .null)), (17, (.return_, 18, 0, 0, 0, .null))]
/-- AssertionGate$Page.moveOut(IILAssertionGate$Page;)V -/
def tb44 : mB := [(0, (.iload_n 1, 1, 0, 0, 0, .null)), (1, (.ifCond .lt 16, 4, 17, 0, 0, .null)), (4, (.iload_n 1, 5, 0, 0, 0, .null)), (5, (.iload_n 2, 6, 0, 0, 0, .null)), (6, (.if_icmp .gt 11, 9, 17, 0, 0, .null)), (9, (.iload_n 2, 10, 0, 0, 0, .null)), (10, (.aload_n 0, 11, 0, 0, 0, .null)), (11, (.getfield 15, 14, 1, 1, 0, .null)), (14, (.if_icmp .le 4, 17, 18, 0, 0, .null)), (17, (.return_, 18, 0, 0, 0, .null)), (18, (.aload_n 0, 19, 0, 0, 0, .null)), (19, (.getfield 9, 22, 1, 0, 0, .null)), (22, (.iload_n 1, 23, 0, 0, 0, .null)), (23, (.aload_n 3, 24, 0, 0, 0, .null)), (24, (.getfield 9, 27, 1, 0, 0, .null)), (27, (.iconst 0, 28, 0, 0, 0, .int 0)), (28, (.iload_n 2, 29, 0, 0, 0, .null)), (29, (.iload_n 1, 30, 0, 0, 0, .null)), (30, (.isub, 31, 0, 0, 0, .null)), (31, (.invokestatic 33, 34, 1002, 5, 99, .null)), (34, (.aload_n 3, 35, 0, 0, 0, .null)), (35, (.iload_n 2, 36, 0, 0, 0, .null)), (36, (.iload_n 1, 37, 0, 0, 0, .null)), (37, (.isub, 38, 0, 0, 0, .null)), (38, (.putfield 15, 41, 1, 1, 0, .null)), (41, (.aload_n 0, 42, 0, 0, 0, .null)), (42, (.getfield 9, 45, 1, 0, 0, .null)), (45, (.iload_n 2, 46, 0, 0, 0, .null)), (46, (.aload_n 0, 47, 0, 0, 0, .null)), (47, (.getfield 9, 50, 1, 0, 0, .null)), (50, (.iload_n 1, 51, 0, 0, 0, .null)), (51, (.aload_n 0, 52, 0, 0, 0, .null)), (52, (.getfield 15, 55, 1, 1, 0, .null)), (55, (.iload_n 2, 56, 0, 0, 0, .null)), (56, (.isub, 57, 0, 0, 0, .null)), (57, (.invokestatic 33, 60, 1002, 5, 99, .null)), (60, (.aload_n 0, 61, 0, 0, 0, .null)), (61, (.dup, 62, 0, 0, 0, .null)), (62, (.getfield 15, 65, 1, 1, 0, .null)), (65, (.iload_n 2, 66, 0, 0, 0, .null)), (66, (.iload_n 1, 67, 0, 0, 0, .null)), (67, (.isub, 68, 0, 0, 0, .null)), (68, (.isub, 69, 0, 0, 0, .null)), (69, (.putfield 15, 72, 1, 1, 0, .null)), (72, (.return_, 73, 0, 0, 0, .null))]
/-- AssertionGate$Page.copyIn(ILAssertionGate$Page;)V -/
def tb45 : mB := [(0, (.iload_n 1, 1, 0, 0, 0, .null)), (1, (.ifCond .lt 26, 4, 27, 0, 0, .null)), (4, (.iload_n 1, 5, 0, 0, 0, .null)), (5, (.aload_n 0, 6, 0, 0, 0, .null)), (6, (.getfield 15, 9, 1, 1, 0, .null)), (9, (.if_icmp .gt 18, 12, 27, 0, 0, .null)), (12, (.aload_n 0, 13, 0, 0, 0, .null)), (13, (.getfield 15, 16, 1, 1, 0, .null)), (16, (.aload_n 2, 17, 0, 0, 0, .null)), (17, (.getfield 15, 20, 1, 1, 0, .null)), (20, (.iadd, 21, 0, 0, 0, .null)), (21, (.sipush 400, 24, 0, 0, 0, .int 400)), (24, (.if_icmp .le 4, 27, 28, 0, 0, .null)), (27, (.return_, 28, 0, 0, 0, .null)), (28, (.aload_n 0, 29, 0, 0, 0, .null)), (29, (.getfield 9, 32, 1, 0, 0, .null)), (32, (.iload_n 1, 33, 0, 0, 0, .null)), (33, (.aload_n 0, 34, 0, 0, 0, .null)), (34, (.getfield 9, 37, 1, 0, 0, .null)), (37, (.iload_n 1, 38, 0, 0, 0, .null)), (38, (.aload_n 2, 39, 0, 0, 0, .null)), (39, (.getfield 15, 42, 1, 1, 0, .null)), (42, (.iadd, 43, 0, 0, 0, .null)), (43, (.aload_n 0, 44, 0, 0, 0, .null)), (44, (.getfield 15, 47, 1, 1, 0, .null)), (47, (.iload_n 1, 48, 0, 0, 0, .null)), (48, (.isub, 49, 0, 0, 0, .null)), (49, (.invokestatic 33, 52, 1002, 5, 99, .null)), (52, (.aload_n 2, 53, 0, 0, 0, .null)), (53, (.getfield 9, 56, 1, 0, 0, .null)), (56, (.iconst 0, 57, 0, 0, 0, .int 0)), (57, (.aload_n 0, 58, 0, 0, 0, .null)), (58, (.getfield 9, 61, 1, 0, 0, .null)), (61, (.iload_n 1, 62, 0, 0, 0, .null)), (62, (.aload_n 2, 63, 0, 0, 0, .null)), (63, (.getfield 15, 66, 1, 1, 0, .null)), (66, (.invokestatic 33, 69, 1002, 5, 99, .null)), (69, (.aload_n 0, 70, 0, 0, 0, .null)), (70, (.dup, 71, 0, 0, 0, .null)), (71, (.getfield 15, 74, 1, 1, 0, .null)), (74, (.aload_n 2, 75, 0, 0, 0, .null)), (75, (.getfield 15, 78, 1, 1, 0, .null)), (78, (.iadd, 79, 0, 0, 0, .null)), (79, (.putfield 15, 82, 1, 1, 0, .null)), (82, (.return_, 83, 0, 0, 0, .null))]
/-- AssertionGate$Page.afterLetters(I)I -/
def tb46 : mB := [(0, (.iload_n 1, 1, 0, 0, 0, .null)), (1, (.istore_n 2, 2, 0, 0, 0, .null)), (2, (.iload_n 2, 3, 0, 0, 0, .null)), (3, (.ifCond .lt 39, 6, 42, 0, 0, .null)), (6, (.iload_n 2, 7, 0, 0, 0, .null)), (7, (.aload_n 0, 8, 0, 0, 0, .null)), (8, (.getfield 15, 11, 1, 1, 0, .null)), (11, (.if_icmp .ge 31, 14, 42, 0, 0, .null)), (14, (.aload_n 0, 15, 0, 0, 0, .null)), (15, (.getfield 9, 18, 1, 0, 0, .null)), (18, (.iload_n 2, 19, 0, 0, 0, .null)), (19, (.caload, 20, 0, 0, 0, .null)), (20, (.bipush 97, 22, 0, 0, 0, .int 97)), (22, (.if_icmp .lt 20, 25, 42, 0, 0, .null)), (25, (.aload_n 0, 26, 0, 0, 0, .null)), (26, (.getfield 9, 29, 1, 0, 0, .null)), (29, (.iload_n 2, 30, 0, 0, 0, .null)), (30, (.caload, 31, 0, 0, 0, .null)), (31, (.bipush 122, 33, 0, 0, 0, .int 122)), (33, (.if_icmp .gt 9, 36, 42, 0, 0, .null)), (36, (.iinc 2 1, 39, 0, 0, 0, .int 1)), (39, (.goto (-37), 42, 2, 0, 0, .null)), (42, (.iload_n 2, 43, 0, 0, 0, .null)), (43, (.ireturn, 44, 0, 0, 0, .null))]
/-- AssertionGate$Page.afterSpaces(I)I -/
def tb47 : mB := [(0, (.iload_n 1, 1, 0, 0, 0, .null)), (1, (.istore_n 2, 2, 0, 0, 0, .null)), (2, (.iload_n 2, 3, 0, 0, 0, .null)), (3, (.aload_n 0, 4, 0, 0, 0, .null)), (4, (.getfield 15, 7, 1, 1, 0, .null)), (7, (.if_icmp .ge 19, 10, 26, 0, 0, .null)), (10, (.aload_n 0, 11, 0, 0, 0, .null)), (11, (.iload_n 2, 12, 0, 0, 0, .null)), (12, (.invokevirtual 39, 15, 39, 2, 1, .null)), (15, (.bipush 32, 17, 0, 0, 0, .int 32)), (17, (.if_icmp .ne 9, 20, 26, 0, 0, .null)), (20, (.iinc 2 1, 23, 0, 0, 0, .int 1)), (23, (.goto (-21), 26, 2, 0, 0, .null)), (26, (.iload_n 2, 27, 0, 0, 0, .null)), (27, (.ireturn, 28, 0, 0, 0, .null))]
/-- AssertionGate$Page.hasDashes(I)Z -/
def tb48 : mB := [(0, (.aload_n 0, 1, 0, 0, 0, .null)), (1, (.iload_n 1, 2, 0, 0, 0, .null)), (2, (.invokevirtual 39, 5, 39, 2, 1, .null)), (5, (.bipush 45, 7, 0, 0, 0, .int 45)), (7, (.if_icmp .ne 19, 10, 26, 0, 0, .null)), (10, (.aload_n 0, 11, 0, 0, 0, .null)), (11, (.iload_n 1, 12, 0, 0, 0, .null)), (12, (.iconst 1, 13, 0, 0, 0, .int 1)), (13, (.iadd, 14, 0, 0, 0, .null)), (14, (.invokevirtual 39, 17, 39, 2, 1, .null)), (17, (.bipush 45, 19, 0, 0, 0, .int 45)), (19, (.if_icmp .ne 7, 22, 26, 0, 0, .null)), (22, (.iconst 1, 23, 0, 0, 0, .int 1)), (23, (.goto 4, 26, 27, 0, 0, .null)), (26, (.iconst 0, 27, 0, 0, 0, .int 0)), (27, (.ireturn, 28, 0, 0, 0, .null))]
/-- AssertionGate$Page.afterComment(I)I -/
def tb49 : mB := [(0, (.iload_n 1, 1, 0, 0, 0, .null)), (1, (.iconst 4, 2, 0, 0, 0, .int 4)), (2, (.iadd, 3, 0, 0, 0, .null)), (3, (.istore_n 2, 4, 0, 0, 0, .null)), (4, (.iload_n 2, 5, 0, 0, 0, .null)), (5, (.aload_n 0, 6, 0, 0, 0, .null)), (6, (.getfield 15, 9, 1, 1, 0, .null)), (9, (.if_icmp .ge 17, 12, 26, 0, 0, .null)), (12, (.aload_n 0, 13, 0, 0, 0, .null)), (13, (.iload_n 2, 14, 0, 0, 0, .null)), (14, (.invokevirtual 43, 17, 48, 2, 1, .null)), (17, (.ifCond .ne 9, 20, 26, 0, 0, .null)), (20, (.iinc 2 1, 23, 0, 0, 0, .int 1)), (23, (.goto (-19), 26, 4, 0, 0, .null)), (26, (.aload_n 0, 27, 0, 0, 0, .null)), (27, (.iload_n 2, 28, 0, 0, 0, .null)), (28, (.iconst 2, 29, 0, 0, 0, .int 2)), (29, (.iadd, 30, 0, 0, 0, .null)), (30, (.invokevirtual 39, 33, 39, 2, 1, .null)), (33, (.bipush 62, 35, 0, 0, 0, .int 62)), (35, (.if_icmp .ne 9, 38, 44, 0, 0, .null)), (38, (.iload_n 2, 39, 0, 0, 0, .null)), (39, (.iconst 3, 40, 0, 0, 0, .int 3)), (40, (.iadd, 41, 0, 0, 0, .null)), (41, (.goto 4, 44, 45, 0, 0, .null)), (44, (.iconst (-1), 45, 0, 0, 0, .int (-1))), (45, (.ireturn, 46, 0, 0, 0, .null))]
/-- AssertionGate$Page.isWord(IILjava/lang/String;)Z -/
def tb50 : mB := [(0, (.iload_n 1, 1, 0, 0, 0, .null)), (1, (.ifCond .lt 21, 4, 22, 0, 0, .null)), (4, (.iload_n 2, 5, 0, 0, 0, .null)), (5, (.aload_n 0, 6, 0, 0, 0, .null)), (6, (.getfield 15, 9, 1, 1, 0, .null)), (9, (.if_icmp .gt 13, 12, 22, 0, 0, .null)), (12, (.iload_n 2, 13, 0, 0, 0, .null)), (13, (.iload_n 1, 14, 0, 0, 0, .null)), (14, (.isub, 15, 0, 0, 0, .null)), (15, (.aload_n 3, 16, 0, 0, 0, .null)), (16, (.invokevirtual 19, 19, 1003, 1, 99, .null)), (19, (.if_icmp .eq 5, 22, 24, 0, 0, .null)), (22, (.iconst 0, 23, 0, 0, 0, .int 0)), (23, (.ireturn, 24, 0, 0, 0, .null)), (24, (.iconst 0, 25, 0, 0, 0, .int 0)), (25, (.istore 4, 27, 0, 0, 0, .null)), (27, (.iload 4, 29, 0, 0, 0, .null)), (29, (.aload_n 3, 30, 0, 0, 0, .null)), (30, (.invokevirtual 19, 33, 1003, 1, 99, .null)), (33, (.if_icmp .ge 29, 36, 62, 0, 0, .null)), (36, (.aload_n 0, 37, 0, 0, 0, .null)), (37, (.getfield 9, 40, 1, 0, 0, .null)), (40, (.iload_n 1, 41, 0, 0, 0, .null)), (41, (.iload 4, 43, 0, 0, 0, .null)), (43, (.iadd, 44, 0, 0, 0, .null)), (44, (.caload, 45, 0, 0, 0, .null)), (45, (.aload_n 3, 46, 0, 0, 0, .null)), (46, (.iload 4, 48, 0, 0, 0, .null)), (48, (.invokevirtual 25, 51, 1004, 2, 99, .null)), (51, (.if_icmp .eq 5, 54, 56, 0, 0, .null)), (54, (.iconst 0, 55, 0, 0, 0, .int 0)), (55, (.ireturn, 56, 0, 0, 0, .null)), (56, (.iinc 4 1, 59, 0, 0, 0, .int 1)), (59, (.goto (-32), 62, 27, 0, 0, .null)), (62, (.iconst 1, 63, 0, 0, 0, .int 1)), (63, (.ireturn, 64, 0, 0, 0, .null))]
/-- AssertionGate$Page.order(IIII)I -/
def tb51 : mB := [(0, (.iload_n 2, 1, 0, 0, 0, .null)), (1, (.iload_n 1, 2, 0, 0, 0, .null)), (2, (.isub, 3, 0, 0, 0, .null)), (3, (.iload 4, 5, 0, 0, 0, .null)), (5, (.iload_n 3, 6, 0, 0, 0, .null)), (6, (.isub, 7, 0, 0, 0, .null)), (7, (.invokestatic 47, 10, 1001, 2, 99, .null)), (10, (.istore 5, 12, 0, 0, 0, .null)), (12, (.iconst 0, 13, 0, 0, 0, .int 0)), (13, (.istore 6, 15, 0, 0, 0, .null)), (15, (.iload 6, 17, 0, 0, 0, .null)), (17, (.iload 5, 19, 0, 0, 0, .null)), (19, (.if_icmp .ge 36, 22, 55, 0, 0, .null)), (22, (.aload_n 0, 23, 0, 0, 0, .null)), (23, (.iload_n 1, 24, 0, 0, 0, .null)), (24, (.iload 6, 26, 0, 0, 0, .null)), (26, (.iadd, 27, 0, 0, 0, .null)), (27, (.invokevirtual 39, 30, 39, 2, 1, .null)), (30, (.aload_n 0, 31, 0, 0, 0, .null)), (31, (.iload_n 3, 32, 0, 0, 0, .null)), (32, (.iload 6, 34, 0, 0, 0, .null)), (34, (.iadd, 35, 0, 0, 0, .null)), (35, (.invokevirtual 39, 38, 39, 2, 1, .null)), (38, (.isub, 39, 0, 0, 0, .null)), (39, (.istore 7, 41, 0, 0, 0, .null)), (41, (.iload 7, 43, 0, 0, 0, .null)), (43, (.ifCond .eq 6, 46, 49, 0, 0, .null)), (46, (.iload 7, 48, 0, 0, 0, .null)), (48, (.ireturn, 49, 0, 0, 0, .null)), (49, (.iinc 6 1, 52, 0, 0, 0, .int 1)), (52, (.goto (-37), 55, 15, 0, 0, .null)), (55, (.iload_n 2, 56, 0, 0, 0, .null)), (56, (.iload_n 1, 57, 0, 0, 0, .null)), (57, (.isub, 58, 0, 0, 0, .null)), (58, (.iload 4, 60, 0, 0, 0, .null)), (60, (.iload_n 3, 61, 0, 0, 0, .null)), (61, (.isub, 62, 0, 0, 0, .null)), (62, (.isub, 63, 0, 0, 0, .null)), (63, (.ireturn, 64, 0, 0, 0, .null))]
/-- AssertionGate$Message.<init>(LAssertionGate$Page;)V -/
def tb52 : mB := [(0, (.aload_n 0, 1, 0, 0, 0, .null)), (1, (.invokespecial 3, 4, 1000, 1, 99, .null)), (4, (.aload_n 0, 5, 0, 0, 0, .null)), (5, (.aload_n 1, 6, 0, 0, 0, .null)), (6, (.putfield 9, 9, 2, 0, 0, .null)), (9, (.aload_n 0, 10, 0, 0, 0, .null)), (10, (.iconst 0, 11, 0, 0, 0, .int 0)), (11, (.putfield 15, 14, 2, 1, 0, .null)), (14, (.aload_n 0, 15, 0, 0, 0, .null)), (15, (.bipush 20, 17, 0, 0, 0, .int 20)), (17, (.newarray .int, 19, 0, 0, 0, .null)), (19, (.putfield 19, 22, 2, 2, 0, .null)), (22, (.aload_n 0, 23, 0, 0, 0, .null)), (23, (.bipush 20, 25, 0, 0, 0, .int 20)), (25, (.newarray .int, 27, 0, 0, 0, .null)), (27, (.putfield 23, 30, 2, 3, 0, .null)), (30, (.aload_n 0, 31, 0, 0, 0, .null)), (31, (.bipush 20, 33, 0, 0, 0, .int 20)), (33, (.newarray .int, 35, 0, 0, 0, .null)), (35, (.putfield 26, 38, 2, 4, 0, .null)), (38, (.aload_n 0, 39, 0, 0, 0, .null)), (39, (.bipush 20, 41, 0, 0, 0, .int 20)), (41, (.newarray .int, 43, 0, 0, 0, .null)), (43, (.putfield 29, 46, 2, 5, 0, .null)), (46, (.aload_n 0, 47, 0, 0, 0, .null)), (47, (.bipush 20, 49, 0, 0, 0, .int 20)), (49, (.newarray .int, 51, 0, 0, 0, .null)), (51, (.putfield 32, 54, 2, 6, 0, .null)), (54, (.aload_n 0, 55, 0, 0, 0, .null)), (55, (.bipush 20, 57, 0, 0, 0, .int 20)), (57, (.newarray .int, 59, 0, 0, 0, .null)), (59, (.putfield 35, 62, 2, 7, 0, .null)), (62, (.aload_n 0, 63, 0, 0, 0, .null)), (63, (.bipush 20, 65, 0, 0, 0, .int 20)), (65, (.newarray .int, 67, 0, 0, 0, .null)), (67, (.putfield 38, 70, 2, 8, 0, .null)), (70, (.aload_n 0, 71, 0, 0, 0, .null)), (71, (.bipush 80, 73, 0, 0, 0, .int 80)), (73, (.newarray .int, 75, 0, 0, 0, .null)), (75, (.putfield 41, 78, 2, 9, 0, .null)), (78, (.aload_n 0, 79, 0, 0, 0, .null)), (79, (.bipush 80, 81, 0, 0, 0, .int 80)), (81, (.newarray .int, 83, 0, 0, 0, .null)), (83, (.putfield 44, 86, 2, 10, 0, .null)), (86, (.aload_n 0, 87, 0, 0, 0, .null)), (87, (.bipush 80, 89, 0, 0, 0, .int 80)), (89, (.newarray .int, 91, 0, 0, 0, .null)), (91, (.putfield 47, 94, 2, 11, 0, .null)), (94, (.return_, 95, 0, 0, 0, .null))]
/-- AssertionGate$Message.holds(I)Z -/
def tb53 : mB := [(0, (.iload_n 1, 1, 0, 0, 0, .null)), (1, (.ifCond .lt 15, 4, 16, 0, 0, .null)), (4, (.iload_n 1, 5, 0, 0, 0, .null)), (5, (.aload_n 0, 6, 0, 0, 0, .null)), (6, (.getfield 15, 9, 2, 1, 0, .null)), (9, (.if_icmp .ge 7, 12, 16, 0, 0, .null)), (12, (.iconst 1, 13, 0, 0, 0, .int 1)), (13, (.goto 4, 16, 17, 0, 0, .null)), (16, (.iconst 0, 17, 0, 0, 0, .int 0)), (17, (.ireturn, 18, 0, 0, 0, .null))]
/-- AssertionGate$Message.add(III)I -/
def tb54 : mB := [(0, (.aload_n 0, 1, 0, 0, 0, .null)), (1, (.getfield 15, 4, 2, 1, 0, .null)), (4, (.bipush 20, 6, 0, 0, 0, .int 20)), (6, (.if_icmp .lt 5, 9, 11, 0, 0, .null)), (9, (.iconst (-1), 10, 0, 0, 0, .int (-1))), (10, (.ireturn, 11, 0, 0, 0, .null)), (11, (.aload_n 0, 12, 0, 0, 0, .null)), (12, (.getfield 15, 15, 2, 1, 0, .null)), (15, (.istore 4, 17, 0, 0, 0, .null)), (17, (.aload_n 0, 18, 0, 0, 0, .null)), (18, (.dup, 19, 0, 0, 0, .null)), (19, (.getfield 15, 22, 2, 1, 0, .null)), (22, (.iconst 1, 23, 0, 0, 0, .int 1)), (23, (.iadd, 24, 0, 0, 0, .null)), (24, (.putfield 15, 27, 2, 1, 0, .null)), (27, (.aload_n 0, 28, 0, 0, 0, .null)), (28, (.getfield 19, 31, 2, 2, 0, .null)), (31, (.iload 4, 33, 0, 0, 0, .null)), (33, (.iload_n 1, 34, 0, 0, 0, .null)), (34, (.iastore, 35, 0, 0, 0, .null)), (35, (.aload_n 0, 36, 0, 0, 0, .null)), (36, (.getfield 23, 39, 2, 3, 0, .null)), (39, (.iload 4, 41, 0, 0, 0, .null)), (41, (.iload_n 2, 42, 0, 0, 0, .null)), (42, (.iastore, 43, 0, 0, 0, .null)), (43, (.aload_n 0, 44, 0, 0, 0, .null)), (44, (.getfield 26, 47, 2, 4, 0, .null)), (47, (.iload 4, 49, 0, 0, 0, .null)), (49, (.iload_n 3, 50, 0, 0, 0, .null)), (50, (.iastore, 51, 0, 0, 0, .null)), (51, (.aload_n 0, 52, 0, 0, 0, .null)), (52, (.getfield 38, 55, 2, 8, 0, .null)), (55, (.iload 4, 57, 0, 0, 0, .null)), (57, (.iconst 0, 58, 0, 0, 0, .int 0)), (58, (.iastore, 59, 0, 0, 0, .null)), (59, (.iload 4, 61, 0, 0, 0, .null)), (61, (.ireturn, 62, 0, 0, 0, .null))]
/-- AssertionGate$Message.keepAttribute(IIII)Z -/
def tb55 : mB := [(0, (.aload_n 0, 1, 0, 0, 0, .null)), (1, (.iload_n 1, 2, 0, 0, 0, .null)), (2, (.invokevirtual 50, 5, 53, 2, 2, .null)), (5, (.ifCond .eq 13, 8, 18, 0, 0, .null)), (8, (.aload_n 0, 9, 0, 0, 0, .null)), (9, (.getfield 38, 12, 2, 8, 0, .null)), (12, (.iload_n 1, 13, 0, 0, 0, .null)), (13, (.iaload, 14, 0, 0, 0, .null)), (14, (.iconst 4, 15, 0, 0, 0, .int 4)), (15, (.if_icmp .lt 5, 18, 20, 0, 0, .null)), (18, (.iconst 0, 19, 0, 0, 0, .int 0)), (19, (.ireturn, 20, 0, 0, 0, .null)), (20, (.iload_n 1, 21, 0, 0, 0, .null)), (21, (.iconst 4, 22, 0, 0, 0, .int 4)), (22, (.imul, 23, 0, 0, 0, .null)), (23, (.istore 5, 25, 0, 0, 0, .null)), (25, (.iload 5, 27, 0, 0, 0, .null)), (27, (.aload_n 0, 28, 0, 0, 0, .null)), (28, (.getfield 38, 31, 2, 8, 0, .null)), (31, (.iload_n 1, 32, 0, 0, 0, .null)), (32, (.iaload, 33, 0, 0, 0, .null)), (33, (.iadd, 34, 0, 0, 0, .null)), (34, (.istore 6, 36, 0, 0, 0, .null)), (36, (.iload 6, 38, 0, 0, 0, .null)), (38, (.iload 5, 40, 0, 0, 0, .null)), (40, (.if_icmp .le 103, 43, 143, 0, 0, .null)), (43, (.aload_n 0, 44, 0, 0, 0, .null)), (44, (.getfield 9, 47, 2, 0, 0, .null)), (47, (.iload_n 2, 48, 0, 0, 0, .null)), (48, (.iload_n 3, 49, 0, 0, 0, .null)), (49, (.aload_n 0, 50, 0, 0, 0, .null)), (50, (.getfield 41, 53, 2, 9, 0, .null)), (53, (.iload 6, 55, 0, 0, 0, .null)), (55, (.iconst 1, 56, 0, 0, 0, .int 1)), (56, (.isub, 57, 0, 0, 0, .null)), (57, (.iaload, 58, 0, 0, 0, .null)), (58, (.aload_n 0, 59, 0, 0, 0, .null)), (59, (.getfield 44, 62, 2, 10, 0, .null)), (62, (.iload 6, 64, 0, 0, 0, .null)), (64, (.iconst 1, 65, 0, 0, 0, .int 1)), (65, (.isub, 66, 0, 0, 0, .null)), (66, (.iaload, 67, 0, 0, 0, .null)), (67, (.iconst 2, 68, 0, 0, 0, .int 2)), (68, (.isub, 69, 0, 0, 0, .null)), (69, (.invokevirtual 54, 72, 51, 5, 1, .null)), (72, (.istore 7, 74, 0, 0, 0, .null)), (74, (.iload 7, 76, 0, 0, 0, .null)), (76, (.ifCond .ne 5, 79, 81, 0, 0, .null)), (79, (.iconst 0, 80, 0, 0, 0, .int 0)), (80, (.ireturn, 81, 0, 0, 0, .null)), (81, (.iload 7, 83, 0, 0, 0, .null)), (83, (.ifCond .le 6, 86, 89, 0, 0, .null)), (86, (.goto 57, 89, 143, 0, 0, .null)), (89, (.aload_n 0, 90, 0, 0, 0, .null)), (90, (.getfield 41, 93, 2, 9, 0, .null)), (93, (.iload 6, 95, 0, 0, 0, .null)), (95, (.aload_n 0, 96, 0, 0, 0, .null)), (96, (.getfield 41, 99, 2, 9, 0, .null)), (99, (.iload 6, 101, 0, 0, 0, .null)), (101, (.iconst 1, 102, 0, 0, 0, .int 1)), (102, (.isub, 103, 0, 0, 0, .null)), (103, (.iaload, 104, 0, 0, 0, .null)), (104, (.iastore, 105, 0, 0, 0, .null)), (105, (.aload_n 0, 106, 0, 0, 0, .null)), (106, (.getfield 44, 109, 2, 10, 0, .null)), (109, (.iload 6, 111, 0, 0, 0, .null)), (111, (.aload_n 0, 112, 0, 0, 0, .null)), (112, (.getfield 44, 115, 2, 10, 0, .null)), (115, (.iload 6, 117, 0, 0, 0, .null)), (117, (.iconst 1, 118, 0, 0, 0, .int 1)), (118, (.isub, 119, 0, 0, 0, .null)), (119, (.iaload, 120, 0, 0, 0, .null)), (120, (.iastore, 121, 0, 0, 0, .null)), (121, (.aload_n 0, 122, 0, 0, 0, .null)), (122, (.getfield 47, 125, 2, 11, 0, .null)), (125, (.iload 6, 127, 0, 0, 0, .null)), (127, (.aload_n 0, 128, 0, 0, 0, .null)), (128, (.getfield 47, 131, 2, 11, 0, .null)), (131, (.iload 6, 133, 0, 0, 0, .null)), (133, (.iconst 1, 134, 0, 0, 0, .int 1)), (134, (.isub, 135, 0, 0, 0, .null)), (135, (.iaload, 136, 0, 0, 0, .null)), (136, (.iastore, 137, 0, 0, 0, .null)), (137, (.iinc 6 (-1), 140, 0, 0, 0, .int (-1))), (140, (.goto (-104), 143, 36, 0, 0, .null)), (143, (.aload_n 0, 144, 0, 0, 0, .null)), (144, (.getfield 41, 147, 2, 9, 0, .null)), (147, (.iload 6, 149, 0, 0, 0, .null)), (149, (.iload_n 2, 150, 0, 0, 0, .null)), (150, (.iastore, 151, 0, 0, 0, .null)), (151, (.aload_n 0, 152, 0, 0, 0, .null)), (152, (.getfield 44, 155, 2, 10, 0, .null)), (155, (.iload 6, 157, 0, 0, 0, .null)), (157, (.iload_n 3, 158, 0, 0, 0, .null)), (158, (.iconst 2, 159, 0, 0, 0, .int 2)), (159, (.iadd, 160, 0, 0, 0, .null)), (160, (.iastore, 161, 0, 0, 0, .null)), (161, (.aload_n 0, 162, 0, 0, 0, .null)), (162, (.getfield 47, 165, 2, 11, 0, .null)), (165, (.iload 6, 167, 0, 0, 0, .null)), (167, (.iload 4, 169, 0, 0, 0, .null)), (169, (.iastore, 170, 0, 0, 0, .null)), (170, (.aload_n 0, 171, 0, 0, 0, .null)), (171, (.getfield 38, 174, 2, 8, 0, .null)), (174, (.iload_n 1, 175, 0, 0, 0, .null)), (175, (.dup2, 176, 0, 0, 0, .null)), (176, (.iaload, 177, 0, 0, 0, .null)), (177, (.iconst 1, 178, 0, 0, 0, .int 1)), (178, (.iadd, 179, 0, 0, 0, .null)), (179, (.iastore, 180, 0, 0, 0, .null)), (180, (.iconst 1, 181, 0, 0, 0, .int 1)), (181, (.ireturn, 182, 0, 0, 0, .null))]
/-- AssertionGate$Message.isNamed(ILjava/lang/String;)Z -/
def tb56 : mB := [(0, (.aload_n 0, 1, 0, 0, 0, .null)), (1, (.iload_n 1, 2, 0, 0, 0, .null)), (2, (.invokevirtual 50, 5, 53, 2, 2, .null)), (5, (.ifCond .eq 32, 8, 37, 0, 0, .null)), (8, (.aload_n 0, 9, 0, 0, 0, .null)), (9, (.getfield 9, 12, 2, 0, 0, .null)), (12, (.aload_n 0, 13, 0, 0, 0, .null)), (13, (.getfield 23, 16, 2, 3, 0, .null)), (16, (.iload_n 1, 17, 0, 0, 0, .null)), (17, (.iaload, 18, 0, 0, 0, .null)), (18, (.iconst 1, 19, 0, 0, 0, .int 1)), (19, (.iadd, 20, 0, 0, 0, .null)), (20, (.aload_n 0, 21, 0, 0, 0, .null)), (21, (.getfield 26, 24, 2, 4, 0, .null)), (24, (.iload_n 1, 25, 0, 0, 0, .null)), (25, (.iaload, 26, 0, 0, 0, .null)), (26, (.aload_n 2, 27, 0, 0, 0, .null)), (27, (.invokevirtual 60, 30, 50, 4, 1, .null)), (30, (.ifCond .eq 7, 33, 37, 0, 0, .null)), (33, (.iconst 1, 34, 0, 0, 0, .int 1)), (34, (.goto 4, 37, 38, 0, 0, .null)), (37, (.iconst 0, 38, 0, 0, 0, .int 0)), (38, (.ireturn, 39, 0, 0, 0, .null))]
/-- AssertionGate$Message.childCount(ILjava/lang/String;)I -/
def tb57 : mB := [(0, (.iconst 0, 1, 0, 0, 0, .int 0)), (1, (.istore_n 3, 2, 0, 0, 0, .null)), (2, (.iconst 0, 3, 0, 0, 0, .int 0)), (3, (.istore 4, 5, 0, 0, 0, .null)), (5, (.iload 4, 7, 0, 0, 0, .null)), (7, (.aload_n 0, 8, 0, 0, 0, .null)), (8, (.getfield 15, 11, 2, 1, 0, .null)), (11, (.if_icmp .ge 37, 14, 48, 0, 0, .null)), (14, (.iload_n 1, 15, 0, 0, 0, .null)), (15, (.ifCond .lt 33, 18, 48, 0, 0, .null)), (18, (.aload_n 0, 19, 0, 0, 0, .null)), (19, (.getfield 19, 22, 2, 2, 0, .null)), (22, (.iload 4, 24, 0, 0, 0, .null)), (24, (.iaload, 25, 0, 0, 0, .null)), (25, (.iload_n 1, 26, 0, 0, 0, .null)), (26, (.if_icmp .ne 16, 29, 42, 0, 0, .null)), (29, (.aload_n 0, 30, 0, 0, 0, .null)), (30, (.iload 4, 32, 0, 0, 0, .null)), (32, (.aload_n 2, 33, 0, 0, 0, .null)), (33, (.invokevirtual 64, 36, 56, 3, 2, .null)), (36, (.ifCond .eq 6, 39, 42, 0, 0, .null)), (39, (.iinc 3 1, 42, 0, 0, 0, .int 1)), (42, (.iinc 4 1, 45, 0, 0, 0, .int 1)), (45, (.goto (-40), 48, 5, 0, 0, .null)), (48, (.iload_n 3, 49, 0, 0, 0, .null)), (49, (.ireturn, 50, 0, 0, 0, .null))]
/-- AssertionGate$Message.lastChild(ILjava/lang/String;)I -/
def tb58 : mB := [(0, (.aload_n 0, 1, 0, 0, 0, .null)), (1, (.getfield 15, 4, 2, 1, 0, .null)), (4, (.iconst 1, 5, 0, 0, 0, .int 1)), (5, (.isub, 6, 0, 0, 0, .null)), (6, (.istore_n 3, 7, 0, 0, 0, .null)), (7, (.iload_n 3, 8, 0, 0, 0, .null)), (8, (.iload_n 1, 9, 0, 0, 0, .null)), (9, (.if_icmp .le 34, 12, 43, 0, 0, .null)), (12, (.iload_n 1, 13, 0, 0, 0, .null)), (13, (.ifCond .lt 30, 16, 43, 0, 0, .null)), (16, (.aload_n 0, 17, 0, 0, 0, .null)), (17, (.getfield 19, 20, 2, 2, 0, .null)), (20, (.iload_n 3, 21, 0, 0, 0, .null)), (21, (.iaload, 22, 0, 0, 0, .null)), (22, (.iload_n 1, 23, 0, 0, 0, .null)), (23, (.if_icmp .ne 14, 26, 37, 0, 0, .null)), (26, (.aload_n 0, 27, 0, 0, 0, .null)), (27, (.iload_n 3, 28, 0, 0, 0, .null)), (28, (.aload_n 2, 29, 0, 0, 0, .null)), (29, (.invokevirtual 64, 32, 56, 3, 2, .null)), (32, (.ifCond .eq 5, 35, 37, 0, 0, .null)), (35, (.iload_n 3, 36, 0, 0, 0, .null)), (36, (.ireturn, 37, 0, 0, 0, .null)), (37, (.iinc 3 (-1), 40, 0, 0, 0, .int (-1))), (40, (.goto (-33), 43, 7, 0, 0, .null)), (43, (.iconst (-1), 44, 0, 0, 0, .int (-1))), (44, (.ireturn, 45, 0, 0, 0, .null))]
/-- AssertionGate$Message.onlyChild(ILjava/lang/String;)I -/
def tb59 : mB := [(0, (.aload_n 0, 1, 0, 0, 0, .null)), (1, (.iload_n 1, 2, 0, 0, 0, .null)), (2, (.aload_n 2, 3, 0, 0, 0, .null)), (3, (.invokevirtual 68, 6, 57, 3, 2, .null)), (6, (.iconst 1, 7, 0, 0, 0, .int 1)), (7, (.if_icmp .ne 12, 10, 19, 0, 0, .null)), (10, (.aload_n 0, 11, 0, 0, 0, .null)), (11, (.iload_n 1, 12, 0, 0, 0, .null)), (12, (.aload_n 2, 13, 0, 0, 0, .null)), (13, (.invokevirtual 72, 16, 58, 3, 2, .null)), (16, (.goto 4, 19, 20, 0, 0, .null)), (19, (.iconst (-1), 20, 0, 0, 0, .int (-1))), (20, (.ireturn, 21, 0, 0, 0, .null))]
/-- AssertionGate$Message.bodyFrom(I)I -/
def tb60 : mB := [(0, (.aload_n 0, 1, 0, 0, 0, .null)), (1, (.iload_n 1, 2, 0, 0, 0, .null)), (2, (.invokevirtual 50, 5, 53, 2, 2, .null)), (5, (.ifCond .eq 12, 8, 17, 0, 0, .null)), (8, (.aload_n 0, 9, 0, 0, 0, .null)), (9, (.getfield 29, 12, 2, 5, 0, .null)), (12, (.iload_n 1, 13, 0, 0, 0, .null)), (13, (.iaload, 14, 0, 0, 0, .null)), (14, (.goto 4, 17, 18, 0, 0, .null)), (17, (.iconst 0, 18, 0, 0, 0, .int 0)), (18, (.ireturn, 19, 0, 0, 0, .null))]
/-- AssertionGate$Message.bodyTo(I)I -/
def tb61 : mB := [(0, (.aload_n 0, 1, 0, 0, 0, .null)), (1, (.iload_n 1, 2, 0, 0, 0, .null)), (2, (.invokevirtual 50, 5, 53, 2, 2, .null)), (5, (.ifCond .eq 12, 8, 17, 0, 0, .null)), (8, (.aload_n 0, 9, 0, 0, 0, .null)), (9, (.getfield 32, 12, 2, 6, 0, .null)), (12, (.iload_n 1, 13, 0, 0, 0, .null)), (13, (.iaload, 14, 0, 0, 0, .null)), (14, (.goto 4, 17, 18, 0, 0, .null)), (17, (.iconst 0, 18, 0, 0, 0, .int 0)), (18, (.ireturn, 19, 0, 0, 0, .null))]
/-- AssertionGate$Message.hasWord(I)Z -/
def tb62 : mB := [(0, (.aload_n 0, 1, 0, 0, 0, .null)), (1, (.iload_n 1, 2, 0, 0, 0, .null)), (2, (.invokevirtual 75, 5, 60, 2, 2, .null)), (5, (.istore_n 2, 6, 0, 0, 0, .null)), (6, (.aload_n 0, 7, 0, 0, 0, .null)), (7, (.iload_n 1, 8, 0, 0, 0, .null)), (8, (.invokevirtual 79, 11, 61, 2, 2, .null)), (11, (.istore_n 3, 12, 0, 0, 0, .null)), (12, (.iload_n 3, 13, 0, 0, 0, .null)), (13, (.iload_n 2, 14, 0, 0, 0, .null)), (14, (.isub, 15, 0, 0, 0, .null)), (15, (.iconst 1, 16, 0, 0, 0, .int 1)), (16, (.if_icmp .lt 11, 19, 27, 0, 0, .null)), (19, (.iload_n 3, 20, 0, 0, 0, .null)), (20, (.iload_n 2, 21, 0, 0, 0, .null)), (21, (.isub, 22, 0, 0, 0, .null)), (22, (.bipush 8, 24, 0, 0, 0, .int 8)), (24, (.if_icmp .le 5, 27, 29, 0, 0, .null)), (27, (.iconst 0, 28, 0, 0, 0, .int 0)), (28, (.ireturn, 29, 0, 0, 0, .null)), (29, (.iload_n 2, 30, 0, 0, 0, .null)), (30, (.istore 4, 32, 0, 0, 0, .null)), (32, (.iload 4, 34, 0, 0, 0, .null)), (34, (.iload_n 3, 35, 0, 0, 0, .null)), (35, (.if_icmp .ge 25, 38, 60, 0, 0, .null)), (38, (.aload_n 0, 39, 0, 0, 0, .null)), (39, (.getfield 9, 42, 2, 0, 0, .null)), (42, (.iload 4, 44, 0, 0, 0, .null)), (44, (.invokevirtual 82, 47, 39, 2, 1, .null)), (47, (.bipush 60, 49, 0, 0, 0, .int 60)), (49, (.if_icmp .ne 5, 52, 54, 0, 0, .null)), (52, (.iconst 0, 53, 0, 0, 0, .int 0)), (53, (.ireturn, 54, 0, 0, 0, .null)), (54, (.iinc 4 1, 57, 0, 0, 0, .int 1)), (57, (.goto (-25), 60, 32, 0, 0, .null)), (60, (.iconst 1, 61, 0, 0, 0, .int 1)), (61, (.ireturn, 62, 0, 0, 0, .null))]
/-- AssertionGate$Message.wordIs(ILjava/lang/String;)Z -/
def tb63 : mB := [(0, (.aload_n 0, 1, 0, 0, 0, .null)), (1, (.getfield 9, 4, 2, 0, 0, .null)), (4, (.aload_n 0, 5, 0, 0, 0, .null)), (5, (.iload_n 1, 6, 0, 0, 0, .null)), (6, (.invokevirtual 75, 9, 60, 2, 2, .null)), (9, (.aload_n 0, 10, 0, 0, 0, .null)), (10, (.iload_n 1, 11, 0, 0, 0, .null)), (11, (.invokevirtual 79, 14, 61, 2, 2, .null)), (14, (.aload_n 2, 15, 0, 0, 0, .null)), (15, (.invokevirtual 60, 18, 50, 4, 1, .null)), (18, (.ireturn, 19, 0, 0, 0, .null))]
/-- AssertionGate$Message.sameWord(II)Z -/
def tb64 : mB := [(0, (.aload_n 0, 1, 0, 0, 0, .null)), (1, (.getfield 9, 4, 2, 0, 0, .null)), (4, (.aload_n 0, 5, 0, 0, 0, .null)), (5, (.iload_n 1, 6, 0, 0, 0, .null)), (6, (.invokevirtual 75, 9, 60, 2, 2, .null)), (9, (.aload_n 0, 10, 0, 0, 0, .null)), (10, (.iload_n 1, 11, 0, 0, 0, .null)), (11, (.invokevirtual 79, 14, 61, 2, 2, .null)), (14, (.aload_n 0, 15, 0, 0, 0, .null)), (15, (.iload_n 2, 16, 0, 0, 0, .null)), (16, (.invokevirtual 75, 19, 60, 2, 2, .null)), (19, (.aload_n 0, 20, 0, 0, 0, .null)), (20, (.iload_n 2, 21, 0, 0, 0, .null)), (21, (.invokevirtual 79, 24, 61, 2, 2, .null)), (24, (.invokevirtual 54, 27, 51, 5, 1, .null)), (27, (.ifCond .ne 7, 30, 34, 0, 0, .null)), (30, (.iconst 1, 31, 0, 0, 0, .int 1)), (31, (.goto 4, 34, 35, 0, 0, .null)), (34, (.iconst 0, 35, 0, 0, 0, .int 0)), (35, (.ireturn, 36, 0, 0, 0, .null))]
/-- AssertionGate$Message.slotOf(ILjava/lang/String;)I -/
def tb65 : mB := [(0, (.aload_n 0, 1, 0, 0, 0, .null)), (1, (.iload_n 1, 2, 0, 0, 0, .null)), (2, (.invokevirtual 50, 5, 53, 2, 2, .null)), (5, (.ifCond .ne 5, 8, 10, 0, 0, .null)), (8, (.iconst (-1), 9, 0, 0, 0, .int (-1))), (9, (.ireturn, 10, 0, 0, 0, .null)), (10, (.iload_n 1, 11, 0, 0, 0, .null)), (11, (.iconst 4, 12, 0, 0, 0, .int 4)), (12, (.imul, 13, 0, 0, 0, .null)), (13, (.istore_n 3, 14, 0, 0, 0, .null)), (14, (.iload_n 3, 15, 0, 0, 0, .null)), (15, (.istore 4, 17, 0, 0, 0, .null)), (17, (.iload 4, 19, 0, 0, 0, .null)), (19, (.iload_n 3, 20, 0, 0, 0, .null)), (20, (.aload_n 0, 21, 0, 0, 0, .null)), (21, (.getfield 38, 24, 2, 8, 0, .null)), (24, (.iload_n 1, 25, 0, 0, 0, .null)), (25, (.iaload, 26, 0, 0, 0, .null)), (26, (.iadd, 27, 0, 0, 0, .null)), (27, (.if_icmp .ge 39, 30, 66, 0, 0, .null)), (30, (.aload_n 0, 31, 0, 0, 0, .null)), (31, (.getfield 9, 34, 2, 0, 0, .null)), (34, (.aload_n 0, 35, 0, 0, 0, .null)), (35, (.getfield 41, 38, 2, 9, 0, .null)), (38, (.iload 4, 40, 0, 0, 0, .null)), (40, (.iaload, 41, 0, 0, 0, .null)), (41, (.aload_n 0, 42, 0, 0, 0, .null)), (42, (.getfield 44, 45, 2, 10, 0, .null)), (45, (.iload 4, 47, 0, 0, 0, .null)), (47, (.iaload, 48, 0, 0, 0, .null)), (48, (.iconst 2, 49, 0, 0, 0, .int 2)), (49, (.isub, 50, 0, 0, 0, .null)), (50, (.aload_n 2, 51, 0, 0, 0, .null)), (51, (.invokevirtual 60, 54, 50, 4, 1, .null)), (54, (.ifCond .eq 6, 57, 60, 0, 0, .null)), (57, (.iload 4, 59, 0, 0, 0, .null)), (59, (.ireturn, 60, 0, 0, 0, .null)), (60, (.iinc 4 1, 63, 0, 0, 0, .int 1)), (63, (.goto (-46), 66, 17, 0, 0, .null)), (66, (.iconst (-1), 67, 0, 0, 0, .int (-1))), (67, (.ireturn, 68, 0, 0, 0, .null))]
/-- AssertionGate$Message.has(ILjava/lang/String;)Z -/
def tb66 : mB := [(0, (.aload_n 0, 1, 0, 0, 0, .null)), (1, (.iload_n 1, 2, 0, 0, 0, .null)), (2, (.aload_n 2, 3, 0, 0, 0, .null)), (3, (.invokevirtual 85, 6, 65, 3, 2, .null)), (6, (.iconst (-1), 7, 0, 0, 0, .int (-1))), (7, (.if_icmp .eq 7, 10, 14, 0, 0, .null)), (10, (.iconst 1, 11, 0, 0, 0, .int 1)), (11, (.goto 4, 14, 15, 0, 0, .null)), (14, (.iconst 0, 15, 0, 0, 0, .int 0)), (15, (.ireturn, 16, 0, 0, 0, .null))]
/-- AssertionGate$Message.valueFrom(I)I -/
def tb67 : mB := [(0, (.iload_n 1, 1, 0, 0, 0, .null)), (1, (.ifCond .lt 21, 4, 22, 0, 0, .null)), (4, (.iload_n 1, 5, 0, 0, 0, .null)), (5, (.aload_n 0, 6, 0, 0, 0, .null)), (6, (.getfield 44, 9, 2, 10, 0, .null)), (9, (.arraylength, 10, 0, 0, 0, .null)), (10, (.if_icmp .ge 12, 13, 22, 0, 0, .null)), (13, (.aload_n 0, 14, 0, 0, 0, .null)), (14, (.getfield 44, 17, 2, 10, 0, .null)), (17, (.iload_n 1, 18, 0, 0, 0, .null)), (18, (.iaload, 19, 0, 0, 0, .null)), (19, (.goto 4, 22, 23, 0, 0, .null)), (22, (.iconst 0, 23, 0, 0, 0, .int 0)), (23, (.ireturn, 24, 0, 0, 0, .null))]
/-- AssertionGate$Message.valueTo(I)I -/
def tb68 : mB := [(0, (.iload_n 1, 1, 0, 0, 0, .null)), (1, (.ifCond .lt 21, 4, 22, 0, 0, .null)), (4, (.iload_n 1, 5, 0, 0, 0, .null)), (5, (.aload_n 0, 6, 0, 0, 0, .null)), (6, (.getfield 47, 9, 2, 11, 0, .null)), (9, (.arraylength, 10, 0, 0, 0, .null)), (10, (.if_icmp .ge 12, 13, 22, 0, 0, .null)), (13, (.aload_n 0, 14, 0, 0, 0, .null)), (14, (.getfield 47, 17, 2, 11, 0, .null)), (17, (.iload_n 1, 18, 0, 0, 0, .null)), (18, (.iaload, 19, 0, 0, 0, .null)), (19, (.goto 4, 22, 23, 0, 0, .null)), (22, (.iconst 0, 23, 0, 0, 0, .int 0)), (23, (.ireturn, 24, 0, 0, 0, .null))]
/-- AssertionGate$Message.valueIs(ILjava/lang/String;Ljava/lang/String;)Z -/
def tb69 : mB := [(0, (.aload_n 0, 1, 0, 0, 0, .null)), (1, (.iload_n 1, 2, 0, 0, 0, .null)), (2, (.aload_n 2, 3, 0, 0, 0, .null)), (3, (.invokevirtual 85, 6, 65, 3, 2, .null)), (6, (.istore 4, 8, 0, 0, 0, .null)), (8, (.iload 4, 10, 0, 0, 0, .null)), (10, (.iconst (-1), 11, 0, 0, 0, .int (-1))), (11, (.if_icmp .eq 30, 14, 41, 0, 0, .null)), (14, (.aload_n 0, 15, 0, 0, 0, .null)), (15, (.getfield 9, 18, 2, 0, 0, .null)), (18, (.aload_n 0, 19, 0, 0, 0, .null)), (19, (.iload 4, 21, 0, 0, 0, .null)), (21, (.invokevirtual 88, 24, 67, 2, 2, .null)), (24, (.aload_n 0, 25, 0, 0, 0, .null)), (25, (.iload 4, 27, 0, 0, 0, .null)), (27, (.invokevirtual 91, 30, 68, 2, 2, .null)), (30, (.aload_n 3, 31, 0, 0, 0, .null)), (31, (.invokevirtual 60, 34, 50, 4, 1, .null)), (34, (.ifCond .eq 7, 37, 41, 0, 0, .null)), (37, (.iconst 1, 38, 0, 0, 0, .int 1)), (38, (.goto 4, 41, 42, 0, 0, .null)), (41, (.iconst 0, 42, 0, 0, 0, .int 0)), (42, (.ireturn, 43, 0, 0, 0, .null))]
/-- AssertionGate$Message.sameText(II)Z -/
def tb70 : mB := [(0, (.iload_n 1, 1, 0, 0, 0, .null)), (1, (.iconst (-1), 2, 0, 0, 0, .int (-1))), (2, (.if_icmp .eq 42, 5, 44, 0, 0, .null)), (5, (.iload_n 2, 6, 0, 0, 0, .null)), (6, (.iconst (-1), 7, 0, 0, 0, .int (-1))), (7, (.if_icmp .eq 37, 10, 44, 0, 0, .null)), (10, (.aload_n 0, 11, 0, 0, 0, .null)), (11, (.getfield 9, 14, 2, 0, 0, .null)), (14, (.aload_n 0, 15, 0, 0, 0, .null)), (15, (.iload_n 1, 16, 0, 0, 0, .null)), (16, (.invokevirtual 88, 19, 67, 2, 2, .null)), (19, (.aload_n 0, 20, 0, 0, 0, .null)), (20, (.iload_n 1, 21, 0, 0, 0, .null)), (21, (.invokevirtual 91, 24, 68, 2, 2, .null)), (24, (.aload_n 0, 25, 0, 0, 0, .null)), (25, (.iload_n 2, 26, 0, 0, 0, .null)), (26, (.invokevirtual 88, 29, 67, 2, 2, .null)), (29, (.aload_n 0, 30, 0, 0, 0, .null)), (30, (.iload_n 2, 31, 0, 0, 0, .null)), (31, (.invokevirtual 91, 34, 68, 2, 2, .null)), (34, (.invokevirtual 54, 37, 51, 5, 1, .null)), (37, (.ifCond .ne 7, 40, 44, 0, 0, .null)), (40, (.iconst 1, 41, 0, 0, 0, .int 1)), (41, (.goto 4, 44, 45, 0, 0, .null)), (44, (.iconst 0, 45, 0, 0, 0, .int 0)), (45, (.ireturn, 46, 0, 0, 0, .null))]
/-- AssertionGate$Message.sameValue(IILjava/lang/String;)Z -/
def tb71 : mB := [(0, (.aload_n 0, 1, 0, 0, 0, .null)), (1, (.aload_n 0, 2, 0, 0, 0, .null)), (2, (.iload_n 1, 3, 0, 0, 0, .null)), (3, (.aload_n 3, 4, 0, 0, 0, .null)), (4, (.invokevirtual 85, 7, 65, 3, 2, .null)), (7, (.aload_n 0, 8, 0, 0, 0, .null)), (8, (.iload_n 2, 9, 0, 0, 0, .null)), (9, (.aload_n 3, 10, 0, 0, 0, .null)), (10, (.invokevirtual 85, 13, 65, 3, 2, .null)), (13, (.invokevirtual 94, 16, 70, 3, 2, .null)), (16, (.ireturn, 17, 0, 0, 0, .null))]
/-- AssertionGate$Message.hasKey(ILjava/lang/String;)Z -/
def tb72 : mB := [(0, (.aload_n 0, 1, 0, 0, 0, .null)), (1, (.iload_n 1, 2, 0, 0, 0, .null)), (2, (.aload_n 2, 3, 0, 0, 0, .null)), (3, (.invokevirtual 85, 6, 65, 3, 2, .null)), (6, (.istore_n 3, 7, 0, 0, 0, .null)), (7, (.aload_n 0, 8, 0, 0, 0, .null)), (8, (.iload_n 3, 9, 0, 0, 0, .null)), (9, (.invokevirtual 91, 12, 68, 2, 2, .null)), (12, (.aload_n 0, 13, 0, 0, 0, .null)), (13, (.iload_n 3, 14, 0, 0, 0, .null)), (14, (.invokevirtual 88, 17, 67, 2, 2, .null)), (17, (.isub, 18, 0, 0, 0, .null)), (18, (.istore 4, 20, 0, 0, 0, .null)), (20, (.iload 4, 22, 0, 0, 0, .null)), (22, (.iconst 1, 23, 0, 0, 0, .int 1)), (23, (.if_icmp .lt 14, 26, 37, 0, 0, .null)), (26, (.iload 4, 28, 0, 0, 0, .null)), (28, (.bipush 8, 30, 0, 0, 0, .int 8)), (30, (.if_icmp .gt 7, 33, 37, 0, 0, .null)), (33, (.iconst 1, 34, 0, 0, 0, .int 1)), (34, (.goto 4, 37, 38, 0, 0, .null)), (37, (.iconst 0, 38, 0, 0, 0, .int 0)), (38, (.ireturn, 39, 0, 0, 0, .null))]
/-- AssertionGate$Message.hasNumber(ILjava/lang/String;)Z -/
def tb73 : mB := [(0, (.aload_n 0, 1, 0, 0, 0, .null)), (1, (.iload_n 1, 2, 0, 0, 0, .null)), (2, (.aload_n 2, 3, 0, 0, 0, .null)), (3, (.invokevirtual 98, 6, 74, 3, 2, .null)), (6, (.iconst (-1), 7, 0, 0, 0, .int (-1))), (7, (.if_icmp .eq 7, 10, 14, 0, 0, .null)), (10, (.iconst 1, 11, 0, 0, 0, .int 1)), (11, (.goto 4, 14, 15, 0, 0, .null)), (14, (.iconst 0, 15, 0, 0, 0, .int 0)), (15, (.ireturn, 16, 0, 0, 0, .null))]
/-- AssertionGate$Message.number(ILjava/lang/String;)I -/
def tb74 : mB := [(0, (.aload_n 0, 1, 0, 0, 0, .null)), (1, (.iload_n 1, 2, 0, 0, 0, .null)), (2, (.aload_n 2, 3, 0, 0, 0, .null)), (3, (.invokevirtual 85, 6, 65, 3, 2, .null)), (6, (.istore_n 3, 7, 0, 0, 0, .null)), (7, (.aload_n 0, 8, 0, 0, 0, .null)), (8, (.iload_n 3, 9, 0, 0, 0, .null)), (9, (.invokevirtual 88, 12, 67, 2, 2, .null)), (12, (.istore 4, 14, 0, 0, 0, .null)), (14, (.aload_n 0, 15, 0, 0, 0, .null)), (15, (.iload_n 3, 16, 0, 0, 0, .null)), (16, (.invokevirtual 91, 19, 68, 2, 2, .null)), (19, (.istore 5, 21, 0, 0, 0, .null)), (21, (.iload 5, 23, 0, 0, 0, .null)), (23, (.iload 4, 25, 0, 0, 0, .null)), (25, (.isub, 26, 0, 0, 0, .null)), (26, (.iconst 1, 27, 0, 0, 0, .int 1)), (27, (.if_icmp .lt 13, 30, 40, 0, 0, .null)), (30, (.iload 5, 32, 0, 0, 0, .null)), (32, (.iload 4, 34, 0, 0, 0, .null)), (34, (.isub, 35, 0, 0, 0, .null)), (35, (.bipush 9, 37, 0, 0, 0, .int 9)), (37, (.if_icmp .le 5, 40, 42, 0, 0, .null)), (40, (.iconst (-1), 41, 0, 0, 0, .int (-1))), (41, (.ireturn, 42, 0, 0, 0, .null)), (42, (.iconst 0, 43, 0, 0, 0, .int 0)), (43, (.istore 6, 45, 0, 0, 0, .null)), (45, (.iload 4, 47, 0, 0, 0, .null)), (47, (.istore 7, 49, 0, 0, 0, .null)), (49, (.iload 7, 51, 0, 0, 0, .null)), (51, (.iload 5, 53, 0, 0, 0, .null)), (53, (.if_icmp .ge 47, 56, 100, 0, 0, .null)), (56, (.aload_n 0, 57, 0, 0, 0, .null)), (57, (.getfield 9, 60, 2, 0, 0, .null)), (60, (.iload 7, 62, 0, 0, 0, .null)), (62, (.invokevirtual 82, 65, 39, 2, 1, .null)), (65, (.bipush 48, 67, 0, 0, 0, .int 48)), (67, (.isub, 68, 0, 0, 0, .null)), (68, (.istore 8, 70, 0, 0, 0, .null)), (70, (.iload 8, 72, 0, 0, 0, .null)), (72, (.ifCond .lt 10, 75, 82, 0, 0, .null)), (75, (.iload 8, 77, 0, 0, 0, .null)), (77, (.bipush 9, 79, 0, 0, 0, .int 9)), (79, (.if_icmp .le 5, 82, 84, 0, 0, .null)), (82, (.iconst (-1), 83, 0, 0, 0, .int (-1))), (83, (.ireturn, 84, 0, 0, 0, .null)), (84, (.iload 6, 86, 0, 0, 0, .null)), (86, (.bipush 10, 88, 0, 0, 0, .int 10)), (88, (.imul, 89, 0, 0, 0, .null)), (89, (.iload 8, 91, 0, 0, 0, .null)), (91, (.iadd, 92, 0, 0, 0, .null)), (92, (.istore 6, 94, 0, 0, 0, .null)), (94, (.iinc 7 1, 97, 0, 0, 0, .int 1)), (97, (.goto (-48), 100, 49, 0, 0, .null)), (100, (.iload 6, 102, 0, 0, 0, .null)), (102, (.ireturn, 103, 0, 0, 0, .null))]
/-- AssertionGate$Message.repeatsAnId()Z -/
def tb75 : mB := [(0, (.iconst 0, 1, 0, 0, 0, .int 0)), (1, (.istore_n 1, 2, 0, 0, 0, .null)), (2, (.iload_n 1, 3, 0, 0, 0, .null)), (3, (.aload_n 0, 4, 0, 0, 0, .null)), (4, (.getfield 15, 7, 2, 1, 0, .null)), (7, (.if_icmp .ge 52, 10, 59, 0, 0, .null)), (10, (.aload_n 0, 11, 0, 0, 0, .null)), (11, (.iload_n 1, 12, 0, 0, 0, .null)), (12, (.ldc 101, 14, 0, 0, 0, .ref 1023)), (14, (.invokevirtual 85, 17, 65, 3, 2, .null)), (17, (.istore_n 2, 18, 0, 0, 0, .null)), (18, (.iconst 0, 19, 0, 0, 0, .int 0)), (19, (.istore_n 3, 20, 0, 0, 0, .null)), (20, (.iload_n 3, 21, 0, 0, 0, .null)), (21, (.iload_n 1, 22, 0, 0, 0, .null)), (22, (.if_icmp .ge 31, 25, 53, 0, 0, .null)), (25, (.iload_n 2, 26, 0, 0, 0, .null)), (26, (.iconst (-1), 27, 0, 0, 0, .int (-1))), (27, (.if_icmp .eq 26, 30, 53, 0, 0, .null)), (30, (.aload_n 0, 31, 0, 0, 0, .null)), (31, (.iload_n 2, 32, 0, 0, 0, .null)), (32, (.aload_n 0, 33, 0, 0, 0, .null)), (33, (.iload_n 3, 34, 0, 0, 0, .null)), (34, (.ldc 101, 36, 0, 0, 0, .ref 1023)), (36, (.invokevirtual 85, 39, 65, 3, 2, .null)), (39, (.invokevirtual 94, 42, 70, 3, 2, .null)), (42, (.ifCond .eq 5, 45, 47, 0, 0, .null)), (45, (.iconst 1, 46, 0, 0, 0, .int 1)), (46, (.ireturn, 47, 0, 0, 0, .null)), (47, (.iinc 3 1, 50, 0, 0, 0, .int 1)), (50, (.goto (-30), 53, 20, 0, 0, .null)), (53, (.iinc 1 1, 56, 0, 0, 0, .int 1)), (56, (.goto (-54), 59, 2, 0, 0, .null)), (59, (.iconst 0, 60, 0, 0, 0, .int 0)), (60, (.ireturn, 61, 0, 0, 0, .null))]
/-- AssertionGate$Message.hasSoundSigs(I)Z -/
def tb76 : mB := [(0, (.aload_n 0, 1, 0, 0, 0, .null)), (1, (.iload_n 1, 2, 0, 0, 0, .null)), (2, (.ldc 103, 4, 0, 0, 0, .ref 1016)), (4, (.invokevirtual 68, 7, 57, 3, 2, .null)), (7, (.istore_n 2, 8, 0, 0, 0, .null)), (8, (.aload_n 0, 9, 0, 0, 0, .null)), (9, (.iload_n 1, 10, 0, 0, 0, .null)), (10, (.ldc 103, 12, 0, 0, 0, .ref 1016)), (12, (.invokevirtual 72, 15, 58, 3, 2, .null)), (15, (.istore_n 3, 16, 0, 0, 0, .null)), (16, (.iload_n 2, 17, 0, 0, 0, .null)), (17, (.ifCond .eq 29, 20, 46, 0, 0, .null)), (20, (.iload_n 2, 21, 0, 0, 0, .null)), (21, (.iconst 1, 22, 0, 0, 0, .int 1)), (22, (.if_icmp .ne 28, 25, 50, 0, 0, .null)), (25, (.aload_n 0, 26, 0, 0, 0, .null)), (26, (.iload_n 3, 27, 0, 0, 0, .null)), (27, (.ldc 105, 29, 0, 0, 0, .ref 1034)), (29, (.invokevirtual 107, 32, 66, 3, 2, .null)), (32, (.ifCond .eq 18, 35, 50, 0, 0, .null)), (35, (.aload_n 0, 36, 0, 0, 0, .null)), (36, (.iload_n 3, 37, 0, 0, 0, .null)), (37, (.ldc 110, 39, 0, 0, 0, .ref 1035)), (39, (.invokevirtual 98, 42, 74, 3, 2, .null)), (42, (.iconst (-1), 43, 0, 0, 0, .int (-1))), (43, (.if_icmp .eq 7, 46, 50, 0, 0, .null)), (46, (.iconst 1, 47, 0, 0, 0, .int 1)), (47, (.goto 4, 50, 51, 0, 0, .null)), (50, (.iconst 0, 51, 0, 0, 0, .int 0)), (51, (.ireturn, 52, 0, 0, 0, .null))]
/-- AssertionGate$Reader.<init>(LAssertionGate$Page;LAssertionGate$Message;)V -/
def tb77 : mB := [(0, (.aload_n 0, 1, 0, 0, 0, .null)), (1, (.invokespecial 3, 4, 1000, 1, 99, .null)), (4, (.aload_n 0, 5, 0, 0, 0, .null)), (5, (.aload_n 1, 6, 0, 0, 0, .null)), (6, (.putfield 9, 9, 3, 0, 0, .null)), (9, (.aload_n 0, 10, 0, 0, 0, .null)), (10, (.aload_n 2, 11, 0, 0, 0, .null)), (11, (.putfield 15, 14, 3, 1, 0, .null)), (14, (.aload_n 0, 15, 0, 0, 0, .null)), (15, (.iconst (-1), 16, 0, 0, 0, .int (-1))), (16, (.putfield 19, 19, 3, 2, 0, .null)), (19, (.aload_n 0, 20, 0, 0, 0, .null)), (20, (.iconst 0, 21, 0, 0, 0, .int 0)), (21, (.putfield 23, 24, 3, 3, 0, .null)), (24, (.return_, 25, 0, 0, 0, .null))]
/-- AssertionGate$Reader.read()I -/
def tb78 : mB := [(0, (.aload_n 0, 1, 0, 0, 0, .null)), (1, (.getfield 15, 4, 3, 1, 0, .null)), (4, (.iconst 0, 5, 0, 0, 0, .int 0)), (5, (.putfield 26, 8, 2, 1, 0, .null)), (8, (.aload_n 0, 9, 0, 0, 0, .null)), (9, (.iconst (-1), 10, 0, 0, 0, .int (-1))), (10, (.putfield 19, 13, 3, 2, 0, .null)), (13, (.aload_n 0, 14, 0, 0, 0, .null)), (14, (.iconst 0, 15, 0, 0, 0, .int 0)), (15, (.putfield 23, 18, 3, 3, 0, .null)), (18, (.aload_n 0, 19, 0, 0, 0, .null)), (19, (.invokevirtual 31, 22, 79, 1, 3, .null)), (22, (.ifCond .eq 5, 25, 27, 0, 0, .null)), (25, (.iconst (-1), 26, 0, 0, 0, .int (-1))), (26, (.ireturn, 27, 0, 0, 0, .null)), (27, (.aload_n 0, 28, 0, 0, 0, .null)), (28, (.iconst 0, 29, 0, 0, 0, .int 0)), (29, (.invokevirtual 35, 32, 81, 2, 3, .null)), (32, (.istore_n 1, 33, 0, 0, 0, .null)), (33, (.iconst 0, 34, 0, 0, 0, .int 0)), (34, (.istore_n 2, 35, 0, 0, 0, .null)), (35, (.iload_n 2, 36, 0, 0, 0, .null)), (36, (.sipush 400, 39, 0, 0, 0, .int 400)), (39, (.if_icmp .ge 123, 42, 162, 0, 0, .null)), (42, (.iload_n 1, 43, 0, 0, 0, .null)), (43, (.iconst (-1), 44, 0, 0, 0, .int (-1))), (44, (.if_icmp .eq 118, 47, 162, 0, 0, .null)), (47, (.aload_n 0, 48, 0, 0, 0, .null)), (48, (.getfield 19, 51, 3, 2, 0, .null)), (51, (.iconst (-1), 52, 0, 0, 0, .int (-1))), (52, (.if_icmp .eq 110, 55, 162, 0, 0, .null)), (55, (.aload_n 0, 56, 0, 0, 0, .null)), (56, (.getfield 9, 59, 3, 0, 0, .null)), (59, (.iload_n 1, 60, 0, 0, 0, .null)), (60, (.invokevirtual 39, 63, 39, 2, 1, .null)), (63, (.bipush 60, 65, 0, 0, 0, .int 60)), (65, (.if_icmp .ne 16, 68, 81, 0, 0, .null)), (68, (.aload_n 0, 69, 0, 0, 0, .null)), (69, (.getfield 9, 72, 3, 0, 0, .null)), (72, (.iload_n 1, 73, 0, 0, 0, .null)), (73, (.iconst 1, 74, 0, 0, 0, .int 1)), (74, (.iadd, 75, 0, 0, 0, .null)), (75, (.invokevirtual 39, 78, 39, 2, 1, .null)), (78, (.goto 4, 81, 82, 0, 0, .null)), (81, (.iconst (-1), 82, 0, 0, 0, .int (-1))), (82, (.istore_n 3, 83, 0, 0, 0, .null)), (83, (.aload_n 0, 84, 0, 0, 0, .null)), (84, (.getfield 9, 87, 3, 0, 0, .null)), (87, (.iload_n 1, 88, 0, 0, 0, .null)), (88, (.invokevirtual 39, 91, 39, 2, 1, .null)), (91, (.bipush 60, 93, 0, 0, 0, .int 60)), (93, (.if_icmp .eq 25, 96, 118, 0, 0, .null)), (96, (.iload_n 1, 97, 0, 0, 0, .null)), (97, (.aload_n 0, 98, 0, 0, 0, .null)), (98, (.getfield 9, 101, 3, 0, 0, .null)), (101, (.getfield 44, 104, 1, 1, 0, .null)), (104, (.if_icmp .ge 9, 107, 113, 0, 0, .null)), (107, (.iload_n 1, 108, 0, 0, 0, .null)), (108, (.iconst 1, 109, 0, 0, 0, .int 1)), (109, (.iadd, 110, 0, 0, 0, .null)), (110, (.goto 4, 113, 114, 0, 0, .null)), (113, (.iconst (-1), 114, 0, 0, 0, .int (-1))), (114, (.istore_n 1, 115, 0, 0, 0, .null)), (115, (.goto 41, 118, 156, 0, 0, .null)), (118, (.iload_n 3, 119, 0, 0, 0, .null)), (119, (.bipush 33, 121, 0, 0, 0, .int 33)), (121, (.if_icmp .ne 15, 124, 136, 0, 0, .null)), (124, (.aload_n 0, 125, 0, 0, 0, .null)), (125, (.getfield 9, 128, 3, 0, 0, .null)), (128, (.iload_n 1, 129, 0, 0, 0, .null)), (129, (.invokevirtual 47, 132, 49, 2, 1, .null)), (132, (.istore_n 1, 133, 0, 0, 0, .null)), (133, (.goto 23, 136, 156, 0, 0, .null)), (136, (.iload_n 3, 137, 0, 0, 0, .null)), (137, (.bipush 47, 139, 0, 0, 0, .int 47)), (139, (.if_icmp .ne 11, 142, 150, 0, 0, .null)), (142, (.aload_n 0, 143, 0, 0, 0, .null)), (143, (.iload_n 1, 144, 0, 0, 0, .null)), (144, (.invokevirtual 50, 147, 84, 2, 3, .null)), (147, (.goto 8, 150, 155, 0, 0, .null)), (150, (.aload_n 0, 151, 0, 0, 0, .null)), (151, (.iload_n 1, 152, 0, 0, 0, .null)), (152, (.invokevirtual 35, 155, 81, 2, 3, .null)), (155, (.istore_n 1, 156, 0, 0, 0, .null)), (156, (.iinc 2 1, 159, 0, 0, 0, .int 1)), (159, (.goto (-124), 162, 35, 0, 0, .null)), (162, (.iload_n 1, 163, 0, 0, 0, .null)), (163, (.aload_n 0, 164, 0, 0, 0, .null)), (164, (.getfield 9, 167, 3, 0, 0, .null)), (167, (.getfield 44, 170, 1, 1, 0, .null)), (170, (.if_icmp .ne 11, 173, 181, 0, 0, .null)), (173, (.aload_n 0, 174, 0, 0, 0, .null)), (174, (.getfield 19, 177, 3, 2, 0, .null)), (177, (.iconst (-1), 178, 0, 0, 0, .int (-1))), (178, (.if_icmp .eq 14, 181, 192, 0, 0, .null)), (181, (.aload_n 0, 182, 0, 0, 0, .null)), (182, (.getfield 15, 185, 3, 1, 0, .null)), (185, (.iconst 0, 186, 0, 0, 0, .int 0)), (186, (.putfield 26, 189, 2, 1, 0, .null)), (189, (.bipush (-2), 191, 0, 0, 0, .int (-2))), (191, (.ireturn, 192, 0, 0, 0, .null)), (192, (.aload_n 0, 193, 0, 0, 0, .null)), (193, (.getfield 15, 196, 3, 1, 0, .null)), (196, (.getfield 26, 199, 2, 1, 0, .null)), (199, (.ireturn, 200, 0, 0, 0, .null))]
/-- AssertionGate$Reader.isBanned()Z -/
def tb79 : mB := [(0, (.iconst 0, 1, 0, 0, 0, .int 0)), (1, (.istore_n 1, 2, 0, 0, 0, .null)), (2, (.iload_n 1, 3, 0, 0, 0, .null)), (3, (.aload_n 0, 4, 0, 0, 0, .null)), (4, (.getfield 9, 7, 3, 0, 0, .null)), (7, (.getfield 44, 10, 1, 1, 0, .null)), (10, (.if_icmp .ge 74, 13, 84, 0, 0, .null)), (13, (.aload_n 0, 14, 0, 0, 0, .null)), (14, (.getfield 9, 17, 3, 0, 0, .null)), (17, (.iload_n 1, 18, 0, 0, 0, .null)), (18, (.invokevirtual 39, 21, 39, 2, 1, .null)), (21, (.istore_n 2, 22, 0, 0, 0, .null)), (22, (.iload_n 2, 23, 0, 0, 0, .null)), (23, (.bipush 38, 25, 0, 0, 0, .int 38)), (25, (.if_icmp .ne 5, 28, 30, 0, 0, .null)), (28, (.iconst 1, 29, 0, 0, 0, .int 1)), (29, (.ireturn, 30, 0, 0, 0, .null)), (30, (.iload_n 2, 31, 0, 0, 0, .null)), (31, (.bipush 60, 33, 0, 0, 0, .int 60)), (33, (.if_icmp .ne 16, 36, 49, 0, 0, .null)), (36, (.aload_n 0, 37, 0, 0, 0, .null)), (37, (.getfield 9, 40, 3, 0, 0, .null)), (40, (.iload_n 1, 41, 0, 0, 0, .null)), (41, (.iconst 1, 42, 0, 0, 0, .int 1)), (42, (.iadd, 43, 0, 0, 0, .null)), (43, (.invokevirtual 39, 46, 39, 2, 1, .null)), (46, (.goto 4, 49, 50, 0, 0, .null)), (49, (.iconst (-1), 50, 0, 0, 0, .int (-1))), (50, (.istore_n 3, 51, 0, 0, 0, .null)), (51, (.iload_n 3, 52, 0, 0, 0, .null)), (52, (.bipush 63, 54, 0, 0, 0, .int 63)), (54, (.if_icmp .eq 22, 57, 76, 0, 0, .null)), (57, (.iload_n 3, 58, 0, 0, 0, .null)), (58, (.bipush 33, 60, 0, 0, 0, .int 33)), (60, (.if_icmp .ne 18, 63, 78, 0, 0, .null)), (63, (.aload_n 0, 64, 0, 0, 0, .null)), (64, (.getfield 9, 67, 3, 0, 0, .null)), (67, (.iload_n 1, 68, 0, 0, 0, .null)), (68, (.iconst 2, 69, 0, 0, 0, .int 2)), (69, (.iadd, 70, 0, 0, 0, .null)), (70, (.invokevirtual 53, 73, 48, 2, 1, .null)), (73, (.ifCond .ne 5, 76, 78, 0, 0, .null)), (76, (.iconst 1, 77, 0, 0, 0, .int 1)), (77, (.ireturn, 78, 0, 0, 0, .null)), (78, (.iinc 1 1, 81, 0, 0, 0, .int 1)), (81, (.goto (-79), 84, 2, 0, 0, .null)), (84, (.iconst 0, 85, 0, 0, 0, .int 0)), (85, (.ireturn, 86, 0, 0, 0, .null))]
/-- AssertionGate$Reader.afterName(I)I -/
def tb80 : mB := [(0, (.aload_n 0, 1, 0, 0, 0, .null)), (1, (.getfield 9, 4, 3, 0, 0, .null)), (4, (.iload_n 1, 5, 0, 0, 0, .null)), (5, (.invokevirtual 57, 8, 46, 2, 1, .null)), (8, (.istore_n 2, 9, 0, 0, 0, .null)), (9, (.iload_n 2, 10, 0, 0, 0, .null)), (10, (.iload_n 1, 11, 0, 0, 0, .null)), (11, (.isub, 12, 0, 0, 0, .null)), (12, (.iconst 1, 13, 0, 0, 0, .int 1)), (13, (.if_icmp .lt 15, 16, 28, 0, 0, .null)), (16, (.iload_n 2, 17, 0, 0, 0, .null)), (17, (.iload_n 1, 18, 0, 0, 0, .null)), (18, (.isub, 19, 0, 0, 0, .null)), (19, (.bipush 6, 21, 0, 0, 0, .int 6)), (21, (.if_icmp .gt 7, 24, 28, 0, 0, .null)), (24, (.iload_n 2, 25, 0, 0, 0, .null)), (25, (.goto 4, 28, 29, 0, 0, .null)), (28, (.iconst (-1), 29, 0, 0, 0, .int (-1))), (29, (.ireturn, 30, 0, 0, 0, .null))]
/-- AssertionGate$Reader.afterStartTag(I)I -/
def tb81 : mB := [(0, (.aload_n 0, 1, 0, 0, 0, .null)), (1, (.iload_n 1, 2, 0, 0, 0, .null)), (2, (.iconst 1, 3, 0, 0, 0, .int 1)), (3, (.iadd, 4, 0, 0, 0, .null)), (4, (.invokevirtual 60, 7, 80, 2, 3, .null)), (7, (.istore_n 2, 8, 0, 0, 0, .null)), (8, (.aload_n 0, 9, 0, 0, 0, .null)), (9, (.getfield 9, 12, 3, 0, 0, .null)), (12, (.iload_n 1, 13, 0, 0, 0, .null)), (13, (.invokevirtual 39, 16, 39, 2, 1, .null)), (16, (.bipush 60, 18, 0, 0, 0, .int 60)), (18, (.if_icmp .ne 17, 21, 35, 0, 0, .null)), (21, (.iload_n 2, 22, 0, 0, 0, .null)), (22, (.iconst (-1), 23, 0, 0, 0, .int (-1))), (23, (.if_icmp .eq 12, 26, 35, 0, 0, .null)), (26, (.aload_n 0, 27, 0, 0, 0, .null)), (27, (.getfield 23, 30, 3, 3, 0, .null)), (30, (.bipush 6, 32, 0, 0, 0, .int 6)), (32, (.if_icmp .lt 5, 35, 37, 0, 0, .null)), (35, (.iconst (-1), 36, 0, 0, 0, .int (-1))), (36, (.ireturn, 37, 0, 0, 0, .null)), (37, (.aload_n 0, 38, 0, 0, 0, .null)), (38, (.getfield 15, 41, 3, 1, 0, .null)), (41, (.aload_n 0, 42, 0, 0, 0, .null)), (42, (.getfield 19, 45, 3, 2, 0, .null)), (45, (.iload_n 1, 46, 0, 0, 0, .null)), (46, (.iload_n 2, 47, 0, 0, 0, .null)), (47, (.invokevirtual 63, 50, 54, 4, 2, .null)), (50, (.istore_n 3, 51, 0, 0, 0, .null)), (51, (.iload_n 3, 52, 0, 0, 0, .null)), (52, (.iconst (-1), 53, 0, 0, 0, .int (-1))), (53, (.if_icmp .ne 5, 56, 58, 0, 0, .null)), (56, (.iconst (-1), 57, 0, 0, 0, .int (-1))), (57, (.ireturn, 58, 0, 0, 0, .null)), (58, (.aload_n 0, 59, 0, 0, 0, .null)), (59, (.iload_n 3, 60, 0, 0, 0, .null)), (60, (.iload_n 2, 61, 0, 0, 0, .null)), (61, (.invokevirtual 67, 64, 82, 3, 3, .null)), (64, (.istore 4, 66, 0, 0, 0, .null)), (66, (.aload_n 0, 67, 0, 0, 0, .null)), (67, (.getfield 9, 70, 3, 0, 0, .null)), (70, (.iload 4, 72, 0, 0, 0, .null)), (72, (.invokevirtual 39, 75, 39, 2, 1, .null)), (75, (.bipush 47, 77, 0, 0, 0, .int 47)), (77, (.if_icmp .ne 23, 80, 100, 0, 0, .null)), (80, (.aload_n 0, 81, 0, 0, 0, .null)), (81, (.getfield 9, 84, 3, 0, 0, .null)), (84, (.iload 4, 86, 0, 0, 0, .null)), (86, (.iconst 1, 87, 0, 0, 0, .int 1)), (87, (.iadd, 88, 0, 0, 0, .null)), (88, (.invokevirtual 39, 91, 39, 2, 1, .null)), (91, (.bipush 62, 93, 0, 0, 0, .int 62)), (93, (.if_icmp .ne 7, 96, 100, 0, 0, .null)), (96, (.iconst 1, 97, 0, 0, 0, .int 1)), (97, (.goto 4, 100, 101, 0, 0, .null)), (100, (.iconst 0, 101, 0, 0, 0, .int 0)), (101, (.istore 5, 103, 0, 0, 0, .null)), (103, (.iload 5, 105, 0, 0, 0, .null)), (105, (.ifCond .ne 19, 108, 124, 0, 0, .null)), (108, (.aload_n 0, 109, 0, 0, 0, .null)), (109, (.getfield 9, 112, 3, 0, 0, .null)), (112, (.iload 4, 114, 0, 0, 0, .null)), (114, (.invokevirtual 39, 117, 39, 2, 1, .null)), (117, (.bipush 62, 119, 0, 0, 0, .int 62)), (119, (.if_icmp .eq 5, 122, 124, 0, 0, .null)), (122, (.iconst (-1), 123, 0, 0, 0, .int (-1))), (123, (.ireturn, 124, 0, 0, 0, .null)), (124, (.iload 5, 126, 0, 0, 0, .null)), (126, (.ifCond .eq 10, 129, 136, 0, 0, .null)), (129, (.iload 4, 131, 0, 0, 0, .null)), (131, (.iconst 2, 132, 0, 0, 0, .int 2)), (132, (.iadd, 133, 0, 0, 0, .null)), (133, (.goto 7, 136, 140, 0, 0, .null)), (136, (.iload 4, 138, 0, 0, 0, .null)), (138, (.iconst 1, 139, 0, 0, 0, .int 1)), (139, (.iadd, 140, 0, 0, 0, .null)), (140, (.istore 6, 142, 0, 0, 0, .null)), (142, (.aload_n 0, 143, 0, 0, 0, .null)), (143, (.getfield 15, 146, 3, 1, 0, .null)), (146, (.getfield 71, 149, 2, 5, 0, .null)), (149, (.iload_n 3, 150, 0, 0, 0, .null)), (150, (.iload 6, 152, 0, 0, 0, .null)), (152, (.iastore, 153, 0, 0, 0, .null)), (153, (.aload_n 0, 154, 0, 0, 0, .null)), (154, (.getfield 15, 157, 3, 1, 0, .null)), (157, (.getfield 75, 160, 2, 6, 0, .null)), (160, (.iload_n 3, 161, 0, 0, 0, .null)), (161, (.iload 6, 163, 0, 0, 0, .null)), (163, (.iastore, 164, 0, 0, 0, .null)), (164, (.aload_n 0, 165, 0, 0, 0, .null)), (165, (.getfield 15, 168, 3, 1, 0, .null)), (168, (.getfield 78, 171, 2, 7, 0, .null)), (171, (.iload_n 3, 172, 0, 0, 0, .null)), (172, (.iload 6, 174, 0, 0, 0, .null)), (174, (.iastore, 175, 0, 0, 0, .null)), (175, (.iload 5, 177, 0, 0, 0, .null)), (177, (.ifCond .ne 18, 180, 195, 0, 0, .null)), (180, (.aload_n 0, 181, 0, 0, 0, .null)), (181, (.iload_n 3, 182, 0, 0, 0, .null)), (182, (.putfield 19, 185, 3, 2, 0, .null)), (185, (.aload_n 0, 186, 0, 0, 0, .null)), (186, (.dup, 187, 0, 0, 0, .null)), (187, (.getfield 23, 190, 3, 3, 0, .null)), (190, (.iconst 1, 191, 0, 0, 0, .int 1)), (191, (.iadd, 192, 0, 0, 0, .null)), (192, (.putfield 23, 195, 3, 3, 0, .null)), (195, (.iload 6, 197, 0, 0, 0, .null)), (197, (.ireturn, 198, 0, 0, 0, .null))]
/-- AssertionGate$Reader.afterAttributes(II)I -/
def tb82 : mB := [(0, (.iload_n 2, 1, 0, 0, 0, .null)), (1, (.istore_n 3, 2, 0, 0, 0, .null)), (2, (.iconst 0, 3, 0, 0, 0, .int 0)), (3, (.istore 4, 5, 0, 0, 0, .null)), (5, (.iload 4, 7, 0, 0, 0, .null)), (7, (.iconst 4, 8, 0, 0, 0, .int 4)), (8, (.if_icmp .gt 88, 11, 96, 0, 0, .null)), (11, (.aload_n 0, 12, 0, 0, 0, .null)), (12, (.getfield 9, 15, 3, 0, 0, .null)), (15, (.iload_n 3, 16, 0, 0, 0, .null)), (16, (.invokevirtual 81, 19, 47, 2, 1, .null)), (19, (.istore 5, 21, 0, 0, 0, .null)), (21, (.iload 5, 23, 0, 0, 0, .null)), (23, (.iload_n 3, 24, 0, 0, 0, .null)), (24, (.if_icmp .eq 17, 27, 41, 0, 0, .null)), (27, (.aload_n 0, 28, 0, 0, 0, .null)), (28, (.getfield 9, 31, 3, 0, 0, .null)), (31, (.iload 5, 33, 0, 0, 0, .null)), (33, (.invokevirtual 57, 36, 46, 2, 1, .null)), (36, (.iload 5, 38, 0, 0, 0, .null)), (38, (.if_icmp .ne 6, 41, 44, 0, 0, .null)), (41, (.iload 5, 43, 0, 0, 0, .null)), (43, (.ireturn, 44, 0, 0, 0, .null)), (44, (.aload_n 0, 45, 0, 0, 0, .null)), (45, (.iload 5, 47, 0, 0, 0, .null)), (47, (.invokevirtual 60, 50, 80, 2, 3, .null)), (50, (.istore 6, 52, 0, 0, 0, .null)), (52, (.aload_n 0, 53, 0, 0, 0, .null)), (53, (.iload 6, 55, 0, 0, 0, .null)), (55, (.invokevirtual 84, 58, 83, 2, 3, .null)), (58, (.istore 7, 60, 0, 0, 0, .null)), (60, (.iload 7, 62, 0, 0, 0, .null)), (62, (.iconst (-1), 63, 0, 0, 0, .int (-1))), (63, (.if_icmp .eq 20, 66, 83, 0, 0, .null)), (66, (.aload_n 0, 67, 0, 0, 0, .null)), (67, (.getfield 15, 70, 3, 1, 0, .null)), (70, (.iload_n 1, 71, 0, 0, 0, .null)), (71, (.iload 5, 73, 0, 0, 0, .null)), (73, (.iload 6, 75, 0, 0, 0, .null)), (75, (.iload 7, 77, 0, 0, 0, .null)), (77, (.invokevirtual 87, 80, 55, 5, 2, .null)), (80, (.ifCond .ne 5, 83, 85, 0, 0, .null)), (83, (.iconst (-1), 84, 0, 0, 0, .int (-1))), (84, (.ireturn, 85, 0, 0, 0, .null)), (85, (.iload 7, 87, 0, 0, 0, .null)), (87, (.iconst 1, 88, 0, 0, 0, .int 1)), (88, (.iadd, 89, 0, 0, 0, .null)), (89, (.istore_n 3, 90, 0, 0, 0, .null)), (90, (.iinc 4 1, 93, 0, 0, 0, .int 1)), (93, (.goto (-88), 96, 5, 0, 0, .null)), (96, (.iconst (-1), 97, 0, 0, 0, .int (-1))), (97, (.ireturn, 98, 0, 0, 0, .null))]
/-- AssertionGate$Reader.closingQuote(I)I -/
def tb83 : mB := [(0, (.aload_n 0, 1, 0, 0, 0, .null)), (1, (.getfield 9, 4, 3, 0, 0, .null)), (4, (.iload_n 1, 5, 0, 0, 0, .null)), (5, (.invokevirtual 39, 8, 39, 2, 1, .null)), (8, (.bipush 61, 10, 0, 0, 0, .int 61)), (10, (.if_icmp .ne 18, 13, 28, 0, 0, .null)), (13, (.aload_n 0, 14, 0, 0, 0, .null)), (14, (.getfield 9, 17, 3, 0, 0, .null)), (17, (.iload_n 1, 18, 0, 0, 0, .null)), (18, (.iconst 1, 19, 0, 0, 0, .int 1)), (19, (.iadd, 20, 0, 0, 0, .null)), (20, (.invokevirtual 39, 23, 39, 2, 1, .null)), (23, (.bipush 34, 25, 0, 0, 0, .int 34)), (25, (.if_icmp .eq 5, 28, 30, 0, 0, .null)), (28, (.iconst (-1), 29, 0, 0, 0, .int (-1))), (29, (.ireturn, 30, 0, 0, 0, .null)), (30, (.iload_n 1, 31, 0, 0, 0, .null)), (31, (.iconst 2, 32, 0, 0, 0, .int 2)), (32, (.iadd, 33, 0, 0, 0, .null)), (33, (.istore_n 2, 34, 0, 0, 0, .null)), (34, (.iload_n 2, 35, 0, 0, 0, .null)), (35, (.aload_n 0, 36, 0, 0, 0, .null)), (36, (.getfield 9, 39, 3, 0, 0, .null)), (39, (.getfield 44, 42, 1, 1, 0, .null)), (42, (.if_icmp .ge 35, 45, 77, 0, 0, .null)), (45, (.aload_n 0, 46, 0, 0, 0, .null)), (46, (.getfield 9, 49, 3, 0, 0, .null)), (49, (.iload_n 2, 50, 0, 0, 0, .null)), (50, (.invokevirtual 39, 53, 39, 2, 1, .null)), (53, (.bipush 34, 55, 0, 0, 0, .int 34)), (55, (.if_icmp .eq 22, 58, 77, 0, 0, .null)), (58, (.aload_n 0, 59, 0, 0, 0, .null)), (59, (.getfield 9, 62, 3, 0, 0, .null)), (62, (.iload_n 2, 63, 0, 0, 0, .null)), (63, (.invokevirtual 39, 66, 39, 2, 1, .null)), (66, (.bipush 60, 68, 0, 0, 0, .int 60)), (68, (.if_icmp .eq 9, 71, 77, 0, 0, .null)), (71, (.iinc 2 1, 74, 0, 0, 0, .int 1)), (74, (.goto (-40), 77, 34, 0, 0, .null)), (77, (.aload_n 0, 78, 0, 0, 0, .null)), (78, (.getfield 9, 81, 3, 0, 0, .null)), (81, (.iload_n 2, 82, 0, 0, 0, .null)), (82, (.invokevirtual 39, 85, 39, 2, 1, .null)), (85, (.bipush 34, 87, 0, 0, 0, .int 34)), (87, (.if_icmp .ne 7, 90, 94, 0, 0, .null)), (90, (.iload_n 2, 91, 0, 0, 0, .null)), (91, (.goto 4, 94, 95, 0, 0, .null)), (94, (.iconst (-1), 95, 0, 0, 0, .int (-1))), (95, (.ireturn, 96, 0, 0, 0, .null))]
/-- AssertionGate$Reader.afterEndTag(I)I -/
def tb84 : mB := [(0, (.aload_n 0, 1, 0, 0, 0, .null)), (1, (.iload_n 1, 2, 0, 0, 0, .null)), (2, (.iconst 2, 3, 0, 0, 0, .int 2)), (3, (.iadd, 4, 0, 0, 0, .null)), (4, (.invokevirtual 60, 7, 80, 2, 3, .null)), (7, (.istore_n 2, 8, 0, 0, 0, .null)), (8, (.iload_n 2, 9, 0, 0, 0, .null)), (9, (.iconst (-1), 10, 0, 0, 0, .int (-1))), (10, (.if_icmp .eq 17, 13, 27, 0, 0, .null)), (13, (.aload_n 0, 14, 0, 0, 0, .null)), (14, (.getfield 15, 17, 3, 1, 0, .null)), (17, (.aload_n 0, 18, 0, 0, 0, .null)), (18, (.getfield 19, 21, 3, 2, 0, .null)), (21, (.invokevirtual 91, 24, 53, 2, 2, .null)), (24, (.ifCond .ne 5, 27, 29, 0, 0, .null)), (27, (.iconst (-1), 28, 0, 0, 0, .int (-1))), (28, (.ireturn, 29, 0, 0, 0, .null)), (29, (.aload_n 0, 30, 0, 0, 0, .null)), (30, (.getfield 9, 33, 3, 0, 0, .null)), (33, (.iload_n 1, 34, 0, 0, 0, .null)), (34, (.iconst 2, 35, 0, 0, 0, .int 2)), (35, (.iadd, 36, 0, 0, 0, .null)), (36, (.iload_n 2, 37, 0, 0, 0, .null)), (37, (.aload_n 0, 38, 0, 0, 0, .null)), (38, (.getfield 15, 41, 3, 1, 0, .null)), (41, (.getfield 94, 44, 2, 3, 0, .null)), (44, (.aload_n 0, 45, 0, 0, 0, .null)), (45, (.getfield 19, 48, 3, 2, 0, .null)), (48, (.iaload, 49, 0, 0, 0, .null)), (49, (.iconst 1, 50, 0, 0, 0, .int 1)), (50, (.iadd, 51, 0, 0, 0, .null)), (51, (.aload_n 0, 52, 0, 0, 0, .null)), (52, (.getfield 15, 55, 3, 1, 0, .null)), (55, (.getfield 97, 58, 2, 4, 0, .null)), (58, (.aload_n 0, 59, 0, 0, 0, .null)), (59, (.getfield 19, 62, 3, 2, 0, .null)), (62, (.iaload, 63, 0, 0, 0, .null)), (63, (.invokevirtual 100, 66, 51, 5, 1, .null)), (66, (.ifCond .eq 5, 69, 71, 0, 0, .null)), (69, (.iconst (-1), 70, 0, 0, 0, .int (-1))), (70, (.ireturn, 71, 0, 0, 0, .null)), (71, (.aload_n 0, 72, 0, 0, 0, .null)), (72, (.getfield 9, 75, 3, 0, 0, .null)), (75, (.iload_n 2, 76, 0, 0, 0, .null)), (76, (.invokevirtual 81, 79, 47, 2, 1, .null)), (79, (.istore_n 3, 80, 0, 0, 0, .null)), (80, (.aload_n 0, 81, 0, 0, 0, .null)), (81, (.getfield 9, 84, 3, 0, 0, .null)), (84, (.iload_n 3, 85, 0, 0, 0, .null)), (85, (.invokevirtual 39, 88, 39, 2, 1, .null)), (88, (.bipush 62, 90, 0, 0, 0, .int 62)), (90, (.if_icmp .eq 5, 93, 95, 0, 0, .null)), (93, (.iconst (-1), 94, 0, 0, 0, .int (-1))), (94, (.ireturn, 95, 0, 0, 0, .null)), (95, (.aload_n 0, 96, 0, 0, 0, .null)), (96, (.getfield 15, 99, 3, 1, 0, .null)), (99, (.getfield 75, 102, 2, 6, 0, .null)), (102, (.aload_n 0, 103, 0, 0, 0, .null)), (103, (.getfield 19, 106, 3, 2, 0, .null)), (106, (.iload_n 1, 107, 0, 0, 0, .null)), (107, (.iastore, 108, 0, 0, 0, .null)), (108, (.aload_n 0, 109, 0, 0, 0, .null)), (109, (.getfield 15, 112, 3, 1, 0, .null)), (112, (.getfield 78, 115, 2, 7, 0, .null)), (115, (.aload_n 0, 116, 0, 0, 0, .null)), (116, (.getfield 19, 119, 3, 2, 0, .null)), (119, (.iload_n 3, 120, 0, 0, 0, .null)), (120, (.iconst 1, 121, 0, 0, 0, .int 1)), (121, (.iadd, 122, 0, 0, 0, .null)), (122, (.iastore, 123, 0, 0, 0, .null)), (123, (.aload_n 0, 124, 0, 0, 0, .null)), (124, (.aload_n 0, 125, 0, 0, 0, .null)), (125, (.getfield 15, 128, 3, 1, 0, .null)), (128, (.getfield 104, 131, 2, 2, 0, .null)), (131, (.aload_n 0, 132, 0, 0, 0, .null)), (132, (.getfield 19, 135, 3, 2, 0, .null)), (135, (.iaload, 136, 0, 0, 0, .null)), (136, (.putfield 19, 139, 3, 2, 0, .null)), (139, (.aload_n 0, 140, 0, 0, 0, .null)), (140, (.dup, 141, 0, 0, 0, .null)), (141, (.getfield 23, 144, 3, 3, 0, .null)), (144, (.iconst 1, 145, 0, 0, 0, .int 1)), (145, (.isub, 146, 0, 0, 0, .null)), (146, (.putfield 23, 149, 3, 3, 0, .null)), (149, (.iload_n 3, 150, 0, 0, 0, .null)), (150, (.iconst 1, 151, 0, 0, 0, .int 1)), (151, (.iadd, 152, 0, 0, 0, .null)), (152, (.ireturn, 153, 0, 0, 0, .null))]
/-- AssertionGate$Digester.<init>(LAssertionGate$Page;LAssertionGate$Message;)V -/
def tb85 : mB := [(0, (.aload_n 0, 1, 0, 0, 0, .null)), (1, (.invokespecial 3, 4, 1000, 1, 99, .null)), (4, (.aload_n 0, 5, 0, 0, 0, .null)), (5, (.aload_n 1, 6, 0, 0, 0, .null)), (6, (.putfield 9, 9, 4, 0, 0, .null)), (9, (.aload_n 0, 10, 0, 0, 0, .null)), (10, (.aload_n 2, 11, 0, 0, 0, .null)), (11, (.putfield 15, 14, 4, 1, 0, .null)), (14, (.aload_n 0, 15, 0, 0, 0, .null)), (15, (.iconst 0, 16, 0, 0, 0, .int 0)), (16, (.putfield 19, 19, 4, 2, 0, .null)), (19, (.aload_n 0, 20, 0, 0, 0, .null)), (20, (.iconst 0, 21, 0, 0, 0, .int 0)), (21, (.putfield 23, 24, 4, 3, 0, .null)), (24, (.return_, 25, 0, 0, 0, .null))]
/-- AssertionGate$Digester.digestOf(I)I -/
def tb86 : mB := [(0, (.aload_n 0, 1, 0, 0, 0, .null)), (1, (.iconst 0, 2, 0, 0, 0, .int 0)), (2, (.putfield 19, 5, 4, 2, 0, .null)), (5, (.aload_n 0, 6, 0, 0, 0, .null)), (6, (.iload_n 1, 7, 0, 0, 0, .null)), (7, (.putfield 23, 10, 4, 3, 0, .null)), (10, (.aload_n 0, 11, 0, 0, 0, .null)), (11, (.getfield 15, 14, 4, 1, 0, .null)), (14, (.iload_n 1, 15, 0, 0, 0, .null)), (15, (.invokevirtual 26, 18, 53, 2, 2, .null)), (18, (.ifCond .ne 8, 21, 26, 0, 0, .null)), (21, (.aload_n 0, 22, 0, 0, 0, .null)), (22, (.getfield 19, 25, 4, 2, 0, .null)), (25, (.ireturn, 26, 0, 0, 0, .null)), (26, (.aload_n 0, 27, 0, 0, 0, .null)), (27, (.getfield 15, 30, 4, 1, 0, .null)), (30, (.getfield 32, 33, 2, 3, 0, .null)), (33, (.iload_n 1, 34, 0, 0, 0, .null)), (34, (.iaload, 35, 0, 0, 0, .null)), (35, (.istore_n 2, 36, 0, 0, 0, .null)), (36, (.iconst 0, 37, 0, 0, 0, .int 0)), (37, (.istore_n 3, 38, 0, 0, 0, .null)), (38, (.iload_n 3, 39, 0, 0, 0, .null)), (39, (.sipush 400, 42, 0, 0, 0, .int 400)), (42, (.if_icmp .ge 127, 45, 169, 0, 0, .null)), (45, (.iload_n 2, 46, 0, 0, 0, .null)), (46, (.iconst (-1), 47, 0, 0, 0, .int (-1))), (47, (.if_icmp .eq 122, 50, 169, 0, 0, .null)), (50, (.iload_n 2, 51, 0, 0, 0, .null)), (51, (.aload_n 0, 52, 0, 0, 0, .null)), (52, (.getfield 15, 55, 4, 1, 0, .null)), (55, (.getfield 36, 58, 2, 7, 0, .null)), (58, (.iload_n 1, 59, 0, 0, 0, .null)), (59, (.iaload, 60, 0, 0, 0, .null)), (60, (.if_icmp .ge 109, 63, 169, 0, 0, .null)), (63, (.aload_n 0, 64, 0, 0, 0, .null)), (64, (.getfield 9, 67, 4, 0, 0, .null)), (67, (.iload_n 2, 68, 0, 0, 0, .null)), (68, (.invokevirtual 39, 71, 39, 2, 1, .null)), (71, (.bipush 60, 73, 0, 0, 0, .int 60)), (73, (.if_icmp .ne 16, 76, 89, 0, 0, .null)), (76, (.aload_n 0, 77, 0, 0, 0, .null)), (77, (.getfield 9, 80, 4, 0, 0, .null)), (80, (.iload_n 2, 81, 0, 0, 0, .null)), (81, (.iconst 1, 82, 0, 0, 0, .int 1)), (82, (.iadd, 83, 0, 0, 0, .null)), (83, (.invokevirtual 39, 86, 39, 2, 1, .null)), (86, (.goto 4, 89, 90, 0, 0, .null)), (89, (.iconst (-1), 90, 0, 0, 0, .int (-1))), (90, (.istore 4, 92, 0, 0, 0, .null)), (92, (.aload_n 0, 93, 0, 0, 0, .null)), (93, (.getfield 9, 96, 4, 0, 0, .null)), (96, (.iload_n 2, 97, 0, 0, 0, .null)), (97, (.invokevirtual 39, 100, 39, 2, 1, .null)), (100, (.bipush 60, 102, 0, 0, 0, .int 60)), (102, (.if_icmp .eq 21, 105, 123, 0, 0, .null)), (105, (.aload_n 0, 106, 0, 0, 0, .null)), (106, (.aload_n 0, 107, 0, 0, 0, .null)), (107, (.getfield 9, 110, 4, 0, 0, .null)), (110, (.iload_n 2, 111, 0, 0, 0, .null)), (111, (.invokevirtual 39, 114, 39, 2, 1, .null)), (114, (.invokevirtual 45, 117, 92, 2, 4, .null)), (117, (.iinc 2 1, 120, 0, 0, 0, .int 1)), (120, (.goto 43, 123, 163, 0, 0, .null)), (123, (.iload 4, 125, 0, 0, 0, .null)), (125, (.bipush 33, 127, 0, 0, 0, .int 33)), (127, (.if_icmp .ne 15, 130, 142, 0, 0, .null)), (130, (.aload_n 0, 131, 0, 0, 0, .null)), (131, (.getfield 9, 134, 4, 0, 0, .null)), (134, (.iload_n 2, 135, 0, 0, 0, .null)), (135, (.invokevirtual 49, 138, 49, 2, 1, .null)), (138, (.istore_n 2, 139, 0, 0, 0, .null)), (139, (.goto 24, 142, 163, 0, 0, .null)), (142, (.iload 4, 144, 0, 0, 0, .null)), (144, (.bipush 47, 146, 0, 0, 0, .int 47)), (146, (.if_icmp .ne 11, 149, 157, 0, 0, .null)), (149, (.aload_n 0, 150, 0, 0, 0, .null)), (150, (.iload_n 2, 151, 0, 0, 0, .null)), (151, (.invokevirtual 52, 154, 87, 2, 4, .null)), (154, (.goto 8, 157, 162, 0, 0, .null)), (157, (.aload_n 0, 158, 0, 0, 0, .null)), (158, (.iload_n 1, 159, 0, 0, 0, .null)), (159, (.invokevirtual 55, 162, 88, 2, 4, .null)), (162, (.istore_n 2, 163, 0, 0, 0, .null)), (163, (.iinc 3 1, 166, 0, 0, 0, .int 1)), (166, (.goto (-128), 169, 38, 0, 0, .null)), (169, (.aload_n 0, 170, 0, 0, 0, .null)), (170, (.getfield 19, 173, 4, 2, 0, .null)), (173, (.ireturn, 174, 0, 0, 0, .null))]
/-- AssertionGate$Digester.foldEndTag(I)I -/
def tb87 : mB := [(0, (.aload_n 0, 1, 0, 0, 0, .null)), (1, (.getfield 9, 4, 4, 0, 0, .null)), (4, (.iload_n 1, 5, 0, 0, 0, .null)), (5, (.iconst 2, 6, 0, 0, 0, .int 2)), (6, (.iadd, 7, 0, 0, 0, .null)), (7, (.invokevirtual 58, 10, 46, 2, 1, .null)), (10, (.istore_n 2, 11, 0, 0, 0, .null)), (11, (.aload_n 0, 12, 0, 0, 0, .null)), (12, (.iload_n 1, 13, 0, 0, 0, .null)), (13, (.iconst 2, 14, 0, 0, 0, .int 2)), (14, (.iadd, 15, 0, 0, 0, .null)), (15, (.iload_n 2, 16, 0, 0, 0, .null)), (16, (.invokevirtual 61, 19, 90, 3, 4, .null)), (19, (.aload_n 0, 20, 0, 0, 0, .null)), (20, (.getfield 9, 23, 4, 0, 0, .null)), (23, (.iload_n 2, 24, 0, 0, 0, .null)), (24, (.invokevirtual 65, 27, 47, 2, 1, .null)), (27, (.iconst 1, 28, 0, 0, 0, .int 1)), (28, (.iadd, 29, 0, 0, 0, .null)), (29, (.ireturn, 30, 0, 0, 0, .null))]
/-- AssertionGate$Digester.foldStartTag(I)I -/
def tb88 : mB := [(0, (.aload_n 0, 1, 0, 0, 0, .null)), (1, (.getfield 23, 4, 4, 3, 0, .null)), (4, (.istore_n 2, 5, 0, 0, 0, .null)), (5, (.aload_n 0, 6, 0, 0, 0, .null)), (6, (.getfield 15, 9, 4, 1, 0, .null)), (9, (.iload_n 2, 10, 0, 0, 0, .null)), (10, (.invokevirtual 26, 13, 53, 2, 2, .null)), (13, (.ifCond .ne 5, 16, 18, 0, 0, .null)), (16, (.iconst (-1), 17, 0, 0, 0, .int (-1))), (17, (.ireturn, 18, 0, 0, 0, .null)), (18, (.aload_n 0, 19, 0, 0, 0, .null)), (19, (.getfield 15, 22, 4, 1, 0, .null)), (22, (.getfield 68, 25, 2, 2, 0, .null)), (25, (.iload_n 2, 26, 0, 0, 0, .null)), (26, (.iaload, 27, 0, 0, 0, .null)), (27, (.iload_n 1, 28, 0, 0, 0, .null)), (28, (.if_icmp .ne 31, 31, 59, 0, 0, .null)), (31, (.aload_n 0, 32, 0, 0, 0, .null)), (32, (.getfield 15, 35, 4, 1, 0, .null)), (35, (.iload_n 2, 36, 0, 0, 0, .null)), (36, (.ldc 71, 38, 0, 0, 0, .ref 1016)), (38, (.invokevirtual 73, 41, 56, 3, 2, .null)), (41, (.ifCond .eq 18, 44, 59, 0, 0, .null)), (44, (.aload_n 0, 45, 0, 0, 0, .null)), (45, (.iload_n 2, 46, 0, 0, 0, .null)), (46, (.invokevirtual 77, 49, 89, 2, 4, .null)), (49, (.aload_n 0, 50, 0, 0, 0, .null)), (50, (.getfield 15, 53, 4, 1, 0, .null)), (53, (.getfield 36, 56, 2, 7, 0, .null)), (56, (.iload_n 2, 57, 0, 0, 0, .null)), (57, (.iaload, 58, 0, 0, 0, .null)), (58, (.ireturn, 59, 0, 0, 0, .null)), (59, (.aload_n 0, 60, 0, 0, 0, .null)), (60, (.dup, 61, 0, 0, 0, .null)), (61, (.getfield 23, 64, 4, 3, 0, .null)), (64, (.iconst 1, 65, 0, 0, 0, .int 1)), (65, (.iadd, 66, 0, 0, 0, .null)), (66, (.putfield 23, 69, 4, 3, 0, .null)), (69, (.aload_n 0, 70, 0, 0, 0, .null)), (70, (.bipush 60, 72, 0, 0, 0, .int 60)), (72, (.invokevirtual 45, 75, 92, 2, 4, .null)), (75, (.aload_n 0, 76, 0, 0, 0, .null)), (76, (.aload_n 0, 77, 0, 0, 0, .null)), (77, (.getfield 15, 80, 4, 1, 0, .null)), (80, (.getfield 32, 83, 2, 3, 0, .null)), (83, (.iload_n 2, 84, 0, 0, 0, .null)), (84, (.iaload, 85, 0, 0, 0, .null)), (85, (.iconst 1, 86, 0, 0, 0, .int 1)), (86, (.iadd, 87, 0, 0, 0, .null)), (87, (.aload_n 0, 88, 0, 0, 0, .null)), (88, (.getfield 15, 91, 4, 1, 0, .null)), (91, (.getfield 80, 94, 2, 4, 0, .null)), (94, (.iload_n 2, 95, 0, 0, 0, .null)), (95, (.iaload, 96, 0, 0, 0, .null)), (96, (.invokevirtual 83, 99, 91, 3, 4, .null)), (99, (.iload_n 2, 100, 0, 0, 0, .null)), (100, (.iconst 4, 101, 0, 0, 0, .int 4)), (101, (.imul, 102, 0, 0, 0, .null)), (102, (.istore_n 3, 103, 0, 0, 0, .null)), (103, (.iload_n 3, 104, 0, 0, 0, .null)), (104, (.istore 4, 106, 0, 0, 0, .null)), (106, (.iload 4, 108, 0, 0, 0, .null)), (108, (.iload_n 3, 109, 0, 0, 0, .null)), (109, (.aload_n 0, 110, 0, 0, 0, .null)), (110, (.getfield 15, 113, 4, 1, 0, .null)), (113, (.getfield 86, 116, 2, 8, 0, .null)), (116, (.iload_n 2, 117, 0, 0, 0, .null)), (117, (.iaload, 118, 0, 0, 0, .null)), (118, (.iadd, 119, 0, 0, 0, .null)), (119, (.if_icmp .ge 41, 122, 160, 0, 0, .null)), (122, (.aload_n 0, 123, 0, 0, 0, .null)), (123, (.bipush 32, 125, 0, 0, 0, .int 32)), (125, (.invokevirtual 45, 128, 92, 2, 4, .null)), (128, (.aload_n 0, 129, 0, 0, 0, .null)), (129, (.aload_n 0, 130, 0, 0, 0, .null)), (130, (.getfield 15, 133, 4, 1, 0, .null)), (133, (.getfield 89, 136, 2, 9, 0, .null)), (136, (.iload 4, 138, 0, 0, 0, .null)), (138, (.iaload, 139, 0, 0, 0, .null)), (139, (.aload_n 0, 140, 0, 0, 0, .null)), (140, (.getfield 15, 143, 4, 1, 0, .null)), (143, (.getfield 92, 146, 2, 11, 0, .null)), (146, (.iload 4, 148, 0, 0, 0, .null)), (148, (.iaload, 149, 0, 0, 0, .null)), (149, (.iconst 1, 150, 0, 0, 0, .int 1)), (150, (.iadd, 151, 0, 0, 0, .null)), (151, (.invokevirtual 83, 154, 91, 3, 4, .null)), (154, (.iinc 4 1, 157, 0, 0, 0, .int 1)), (157, (.goto (-51), 160, 106, 0, 0, .null)), (160, (.aload_n 0, 161, 0, 0, 0, .null)), (161, (.bipush 62, 163, 0, 0, 0, .int 62)), (163, (.invokevirtual 45, 166, 92, 2, 4, .null)), (166, (.aload_n 0, 167, 0, 0, 0, .null)), (167, (.getfield 15, 170, 4, 1, 0, .null)), (170, (.getfield 95, 173, 2, 5, 0, .null)), (173, (.iload_n 2, 174, 0, 0, 0, .null)), (174, (.iaload, 175, 0, 0, 0, .null)), (175, (.aload_n 0, 176, 0, 0, 0, .null)), (176, (.getfield 15, 179, 4, 1, 0, .null)), (179, (.getfield 36, 182, 2, 7, 0, .null)), (182, (.iload_n 2, 183, 0, 0, 0, .null)), (183, (.iaload, 184, 0, 0, 0, .null)), (184, (.if_icmp .ne 27, 187, 211, 0, 0, .null)), (187, (.aload_n 0, 188, 0, 0, 0, .null)), (188, (.aload_n 0, 189, 0, 0, 0, .null)), (189, (.getfield 15, 192, 4, 1, 0, .null)), (192, (.getfield 32, 195, 2, 3, 0, .null)), (195, (.iload_n 2, 196, 0, 0, 0, .null)), (196, (.iaload, 197, 0, 0, 0, .null)), (197, (.iconst 1, 198, 0, 0, 0, .int 1)), (198, (.iadd, 199, 0, 0, 0, .null)), (199, (.aload_n 0, 200, 0, 0, 0, .null)), (200, (.getfield 15, 203, 4, 1, 0, .null)), (203, (.getfield 80, 206, 2, 4, 0, .null)), (206, (.iload_n 2, 207, 0, 0, 0, .null)), (207, (.iaload, 208, 0, 0, 0, .null)), (208, (.invokevirtual 61, 211, 90, 3, 4, .null)), (211, (.aload_n 0, 212, 0, 0, 0, .null)), (212, (.getfield 15, 215, 4, 1, 0, .null)), (215, (.getfield 95, 218, 2, 5, 0, .null)), (218, (.iload_n 2, 219, 0, 0, 0, .null)), (219, (.iaload, 220, 0, 0, 0, .null)), (220, (.ireturn, 221, 0, 0, 0, .null))]
/-- AssertionGate$Digester.passOver(I)V -/
def tb89 : mB := [(0, (.aload_n 0, 1, 0, 0, 0, .null)), (1, (.getfield 15, 4, 4, 1, 0, .null)), (4, (.getfield 36, 7, 2, 7, 0, .null)), (7, (.iload_n 1, 8, 0, 0, 0, .null)), (8, (.iaload, 9, 0, 0, 0, .null)), (9, (.istore_n 2, 10, 0, 0, 0, .null)), (10, (.aload_n 0, 11, 0, 0, 0, .null)), (11, (.getfield 23, 14, 4, 3, 0, .null)), (14, (.aload_n 0, 15, 0, 0, 0, .null)), (15, (.getfield 15, 18, 4, 1, 0, .null)), (18, (.getfield 98, 21, 2, 1, 0, .null)), (21, (.if_icmp .ge 32, 24, 53, 0, 0, .null)), (24, (.aload_n 0, 25, 0, 0, 0, .null)), (25, (.getfield 15, 28, 4, 1, 0, .null)), (28, (.getfield 32, 31, 2, 3, 0, .null)), (31, (.aload_n 0, 32, 0, 0, 0, .null)), (32, (.getfield 23, 35, 4, 3, 0, .null)), (35, (.iaload, 36, 0, 0, 0, .null)), (36, (.iload_n 2, 37, 0, 0, 0, .null)), (37, (.if_icmp .ge 16, 40, 53, 0, 0, .null)), (40, (.aload_n 0, 41, 0, 0, 0, .null)), (41, (.dup, 42, 0, 0, 0, .null)), (42, (.getfield 23, 45, 4, 3, 0, .null)), (45, (.iconst 1, 46, 0, 0, 0, .int 1)), (46, (.iadd, 47, 0, 0, 0, .null)), (47, (.putfield 23, 50, 4, 3, 0, .null)), (50, (.goto (-40), 53, 10, 0, 0, .null)), (53, (.return_, 54, 0, 0, 0, .null))]
/-- AssertionGate$Digester.foldEnd(II)V -/
def tb90 : mB := [(0, (.aload_n 0, 1, 0, 0, 0, .null)), (1, (.bipush 60, 3, 0, 0, 0, .int 60)), (3, (.invokevirtual 45, 6, 92, 2, 4, .null)), (6, (.aload_n 0, 7, 0, 0, 0, .null)), (7, (.bipush 47, 9, 0, 0, 0, .int 47)), (9, (.invokevirtual 45, 12, 92, 2, 4, .null)), (12, (.aload_n 0, 13, 0, 0, 0, .null)), (13, (.iload_n 1, 14, 0, 0, 0, .null)), (14, (.iload_n 2, 15, 0, 0, 0, .null)), (15, (.invokevirtual 83, 18, 91, 3, 4, .null)), (18, (.aload_n 0, 19, 0, 0, 0, .null)), (19, (.bipush 62, 21, 0, 0, 0, .int 62)), (21, (.invokevirtual 45, 24, 92, 2, 4, .null)), (24, (.return_, 25, 0, 0, 0, .null))]
/-- AssertionGate$Digester.foldSpan(II)V -/
def tb91 : mB := [(0, (.iload_n 1, 1, 0, 0, 0, .null)), (1, (.istore_n 3, 2, 0, 0, 0, .null)), (2, (.iload_n 3, 3, 0, 0, 0, .null)), (3, (.iload_n 2, 4, 0, 0, 0, .null)), (4, (.if_icmp .ge 21, 7, 25, 0, 0, .null)), (7, (.aload_n 0, 8, 0, 0, 0, .null)), (8, (.aload_n 0, 9, 0, 0, 0, .null)), (9, (.getfield 9, 12, 4, 0, 0, .null)), (12, (.iload_n 3, 13, 0, 0, 0, .null)), (13, (.invokevirtual 39, 16, 39, 2, 1, .null)), (16, (.invokevirtual 45, 19, 92, 2, 4, .null)), (19, (.iinc 3 1, 22, 0, 0, 0, .int 1)), (22, (.goto (-20), 25, 2, 0, 0, .null)), (25, (.return_, 26, 0, 0, 0, .null))]
/-- AssertionGate$Digester.fold(I)V -/
def tb92 : mB := [(0, (.aload_n 0, 1, 0, 0, 0, .null)), (1, (.aload_n 0, 2, 0, 0, 0, .null)), (2, (.getfield 19, 5, 4, 2, 0, .null)), (5, (.sipush 257, 8, 0, 0, 0, .int 257)), (8, (.imul, 9, 0, 0, 0, .null)), (9, (.iload_n 1, 10, 0, 0, 0, .null)), (10, (.iadd, 11, 0, 0, 0, .null)), (11, (.ldc 101, 13, 0, 0, 0, .int 65521)), (13, (.irem, 14, 0, 0, 0, .null)), (14, (.putfield 19, 17, 4, 2, 0, .null)), (17, (.return_, 18, 0, 0, 0, .null))]
/-- AssertionGate$Issuers.<init>()V -/
def tb93 : mB := [(0, (.aload_n 0, 1, 0, 0, 0, .null)), (1, (.invokespecial 3, 4, 1000, 1, 99, .null)), (4, (.aload_n 0, 5, 0, 0, 0, .null)), (5, (.iconst 4, 6, 0, 0, 0, .int 4)), (6, (.newarray .int, 8, 0, 0, 0, .null)), (8, (.putfield 9, 11, 5, 0, 0, .null)), (11, (.aload_n 0, 12, 0, 0, 0, .null)), (12, (.iconst 4, 13, 0, 0, 0, .int 4)), (13, (.newarray .int, 15, 0, 0, 0, .null)), (15, (.putfield 15, 18, 5, 1, 0, .null)), (18, (.aload_n 0, 19, 0, 0, 0, .null)), (19, (.iconst 4, 20, 0, 0, 0, .int 4)), (20, (.newarray .int, 22, 0, 0, 0, .null)), (22, (.putfield 18, 25, 5, 2, 0, .null)), (25, (.aload_n 0, 26, 0, 0, 0, .null)), (26, (.iconst 4, 27, 0, 0, 0, .int 4)), (27, (.newarray .int, 29, 0, 0, 0, .null)), (29, (.putfield 21, 32, 5, 3, 0, .null)), (32, (.return_, 33, 0, 0, 0, .null))]
/-- AssertionGate$Issuers.isTrusted(I)Z -/
def tb94 : mB := [(0, (.iload_n 1, 1, 0, 0, 0, .null)), (1, (.ifCond .lt 21, 4, 22, 0, 0, .null)), (4, (.iload_n 1, 5, 0, 0, 0, .null)), (5, (.iconst 4, 6, 0, 0, 0, .int 4)), (6, (.if_icmp .ge 16, 9, 22, 0, 0, .null)), (9, (.aload_n 0, 10, 0, 0, 0, .null)), (10, (.getfield 9, 13, 5, 0, 0, .null)), (13, (.iload_n 1, 14, 0, 0, 0, .null)), (14, (.iaload, 15, 0, 0, 0, .null)), (15, (.ifCond .eq 7, 18, 22, 0, 0, .null)), (18, (.iconst 1, 19, 0, 0, 0, .int 1)), (19, (.goto 4, 22, 23, 0, 0, .null)), (22, (.iconst 0, 23, 0, 0, 0, .int 0)), (23, (.ireturn, 24, 0, 0, 0, .null))]
/-- AssertionGate$Issuers.canSeal(I)Z -/
def tb95 : mB := [(0, (.iload_n 1, 1, 0, 0, 0, .null)), (1, (.ifCond .lt 21, 4, 22, 0, 0, .null)), (4, (.iload_n 1, 5, 0, 0, 0, .null)), (5, (.iconst 4, 6, 0, 0, 0, .int 4)), (6, (.if_icmp .ge 16, 9, 22, 0, 0, .null)), (9, (.aload_n 0, 10, 0, 0, 0, .null)), (10, (.getfield 18, 13, 5, 2, 0, .null)), (13, (.iload_n 1, 14, 0, 0, 0, .null)), (14, (.iaload, 15, 0, 0, 0, .null)), (15, (.ifCond .eq 7, 18, 22, 0, 0, .null)), (18, (.iconst 1, 19, 0, 0, 0, .int 1)), (19, (.goto 4, 22, 23, 0, 0, .null)), (22, (.iconst 0, 23, 0, 0, 0, .int 0)), (23, (.ireturn, 24, 0, 0, 0, .null))]
/-- AssertionGate$Issuers.sealOf(II)I -/
def tb96 : mB := [(0, (.aload_n 0, 1, 0, 0, 0, .null)), (1, (.iload_n 1, 2, 0, 0, 0, .null)), (2, (.invokevirtual 24, 5, 95, 2, 5, .null)), (5, (.ifCond .eq 22, 8, 27, 0, 0, .null)), (8, (.iload_n 2, 9, 0, 0, 0, .null)), (9, (.aload_n 0, 10, 0, 0, 0, .null)), (10, (.getfield 21, 13, 5, 3, 0, .null)), (13, (.iload_n 1, 14, 0, 0, 0, .null)), (14, (.iaload, 15, 0, 0, 0, .null)), (15, (.aload_n 0, 16, 0, 0, 0, .null)), (16, (.getfield 18, 19, 5, 2, 0, .null)), (19, (.iload_n 1, 20, 0, 0, 0, .null)), (20, (.iaload, 21, 0, 0, 0, .null)), (21, (.invokestatic 28, 24, 98, 3, 99, .null)), (24, (.goto 4, 27, 28, 0, 0, .null)), (27, (.iconst (-1), 28, 0, 0, 0, .int (-1))), (28, (.ireturn, 29, 0, 0, 0, .null))]
/-- AssertionGate$Issuers.verifies(III)Z -/
def tb97 : mB := [(0, (.aload_n 0, 1, 0, 0, 0, .null)), (1, (.iload_n 1, 2, 0, 0, 0, .null)), (2, (.invokevirtual 32, 5, 94, 2, 5, .null)), (5, (.ifCond .eq 41, 8, 46, 0, 0, .null)), (8, (.iload_n 2, 9, 0, 0, 0, .null)), (9, (.ifCond .lt 37, 12, 46, 0, 0, .null)), (12, (.iload_n 2, 13, 0, 0, 0, .null)), (13, (.aload_n 0, 14, 0, 0, 0, .null)), (14, (.getfield 9, 17, 5, 0, 0, .null)), (17, (.iload_n 1, 18, 0, 0, 0, .null)), (18, (.iaload, 19, 0, 0, 0, .null)), (19, (.if_icmp .ge 27, 22, 46, 0, 0, .null)), (22, (.iload_n 2, 23, 0, 0, 0, .null)), (23, (.aload_n 0, 24, 0, 0, 0, .null)), (24, (.getfield 15, 27, 5, 1, 0, .null)), (27, (.iload_n 1, 28, 0, 0, 0, .null)), (28, (.iaload, 29, 0, 0, 0, .null)), (29, (.aload_n 0, 30, 0, 0, 0, .null)), (30, (.getfield 9, 33, 5, 0, 0, .null)), (33, (.iload_n 1, 34, 0, 0, 0, .null)), (34, (.iaload, 35, 0, 0, 0, .null)), (35, (.invokestatic 28, 38, 98, 3, 99, .null)), (38, (.iload_n 3, 39, 0, 0, 0, .null)), (39, (.if_icmp .ne 7, 42, 46, 0, 0, .null)), (42, (.iconst 1, 43, 0, 0, 0, .int 1)), (43, (.goto 4, 46, 47, 0, 0, .null)), (46, (.iconst 0, 47, 0, 0, 0, .int 0)), (47, (.ireturn, 48, 0, 0, 0, .null))]
/-- AssertionGate$Issuers.power(III)I -/
def tb98 : mB := [(0, (.iload_n 2, 1, 0, 0, 0, .null)), (1, (.ifCond .gt 5, 4, 6, 0, 0, .null)), (4, (.iconst (-1), 5, 0, 0, 0, .int (-1))), (5, (.ireturn, 6, 0, 0, 0, .null)), (6, (.iload_n 0, 7, 0, 0, 0, .null)), (7, (.iload_n 2, 8, 0, 0, 0, .null)), (8, (.irem, 9, 0, 0, 0, .null)), (9, (.i2l, 10, 0, 0, 0, .null)), (10, (.lstore_n 3, 11, 0, 0, 0, .null)), (11, (.iconst 1, 12, 0, 0, 0, .int 1)), (12, (.iload_n 2, 13, 0, 0, 0, .null)), (13, (.irem, 14, 0, 0, 0, .null)), (14, (.i2l, 15, 0, 0, 0, .null)), (15, (.lstore 5, 17, 0, 0, 0, .null)), (17, (.iload_n 1, 18, 0, 0, 0, .null)), (18, (.istore 7, 20, 0, 0, 0, .null)), (20, (.iload 7, 22, 0, 0, 0, .null)), (22, (.ifCond .le 36, 25, 58, 0, 0, .null)), (25, (.iload 7, 27, 0, 0, 0, .null)), (27, (.iconst 1, 28, 0, 0, 0, .int 1)), (28, (.iand, 29, 0, 0, 0, .null)), (29, (.iconst 1, 30, 0, 0, 0, .int 1)), (30, (.if_icmp .ne 12, 33, 42, 0, 0, .null)), (33, (.lload 5, 35, 0, 0, 0, .null)), (35, (.lload_n 3, 36, 0, 0, 0, .null)), (36, (.lmul, 37, 0, 0, 0, .null)), (37, (.iload_n 2, 38, 0, 0, 0, .null)), (38, (.i2l, 39, 0, 0, 0, .null)), (39, (.lrem, 40, 0, 0, 0, .null)), (40, (.lstore 5, 42, 0, 0, 0, .null)), (42, (.lload_n 3, 43, 0, 0, 0, .null)), (43, (.lload_n 3, 44, 0, 0, 0, .null)), (44, (.lmul, 45, 0, 0, 0, .null)), (45, (.iload_n 2, 46, 0, 0, 0, .null)), (46, (.i2l, 47, 0, 0, 0, .null)), (47, (.lrem, 48, 0, 0, 0, .null)), (48, (.lstore_n 3, 49, 0, 0, 0, .null)), (49, (.iload 7, 51, 0, 0, 0, .null)), (51, (.iconst 1, 52, 0, 0, 0, .int 1)), (52, (.ishr, 53, 0, 0, 0, .null)), (53, (.istore 7, 55, 0, 0, 0, .null)), (55, (.goto (-35), 58, 20, 0, 0, .null)), (58, (.lload 5, 60, 0, 0, 0, .null)), (60, (.l2i, 61, 0, 0, 0, .null)), (61, (.ireturn, 62, 0, 0, 0, .null))]
/-- AssertionGate$Requests.<init>(I)V -/
def tb99 : mB := [(0, (.aload_n 0, 1, 0, 0, 0, .null)), (1, (.invokespecial 3, 4, 1000, 1, 99, .null)), (4, (.aload_n 0, 5, 0, 0, 0, .null)), (5, (.iload_n 1, 6, 0, 0, 0, .null)), (6, (.putfield 9, 9, 6, 0, 0, .null)), (9, (.aload_n 0, 10, 0, 0, 0, .null)), (10, (.bipush 30, 12, 0, 0, 0, .int 30)), (12, (.newarray .int, 14, 0, 0, 0, .null)), (14, (.putfield 15, 17, 6, 1, 0, .null)), (17, (.aload_n 0, 18, 0, 0, 0, .null)), (18, (.bipush 30, 20, 0, 0, 0, .int 30)), (20, (.newarray .int, 22, 0, 0, 0, .null)), (22, (.putfield 19, 25, 6, 2, 0, .null)), (25, (.aload_n 0, 26, 0, 0, 0, .null)), (26, (.bipush 30, 28, 0, 0, 0, .int 30)), (28, (.newarray .boolean, 30, 2, 0, 0, .null)), (30, (.putfield 22, 33, 6, 3, 0, .null)), (33, (.aload_n 0, 34, 0, 0, 0, .null)), (34, (.iconst 0, 35, 0, 0, 0, .int 0)), (35, (.putfield 26, 38, 6, 4, 0, .null)), (38, (.return_, 39, 0, 0, 0, .null))]
/-- AssertionGate$Requests.open(II)I -/
def tb100 : mB := [(0, (.aload_n 0, 1, 0, 0, 0, .null)), (1, (.getfield 26, 4, 6, 4, 0, .null)), (4, (.bipush 30, 6, 0, 0, 0, .int 30)), (6, (.if_icmp .lt 5, 9, 11, 0, 0, .null)), (9, (.iconst (-1), 10, 0, 0, 0, .int (-1))), (10, (.ireturn, 11, 0, 0, 0, .null)), (11, (.aload_n 0, 12, 0, 0, 0, .null)), (12, (.getfield 15, 15, 6, 1, 0, .null)), (15, (.aload_n 0, 16, 0, 0, 0, .null)), (16, (.getfield 26, 19, 6, 4, 0, .null)), (19, (.iload_n 1, 20, 0, 0, 0, .null)), (20, (.iastore, 21, 0, 0, 0, .null)), (21, (.aload_n 0, 22, 0, 0, 0, .null)), (22, (.getfield 19, 25, 6, 2, 0, .null)), (25, (.aload_n 0, 26, 0, 0, 0, .null)), (26, (.getfield 26, 29, 6, 4, 0, .null)), (29, (.iload_n 2, 30, 0, 0, 0, .null)), (30, (.iastore, 31, 0, 0, 0, .null)), (31, (.aload_n 0, 32, 0, 0, 0, .null)), (32, (.dup, 33, 0, 0, 0, .null)), (33, (.getfield 26, 36, 6, 4, 0, .null)), (36, (.iconst 1, 37, 0, 0, 0, .int 1)), (37, (.iadd, 38, 0, 0, 0, .null)), (38, (.putfield 26, 41, 6, 4, 0, .null)), (41, (.aload_n 0, 42, 0, 0, 0, .null)), (42, (.getfield 26, 45, 6, 4, 0, .null)), (45, (.iconst 1, 46, 0, 0, 0, .int 1)), (46, (.isub, 47, 0, 0, 0, .null)), (47, (.ireturn, 48, 0, 0, 0, .null))]
/-- AssertionGate$Requests.isOpen(II)Z -/
def tb101 : mB := [(0, (.iload_n 1, 1, 0, 0, 0, .null)), (1, (.ifCond .lt 39, 4, 40, 0, 0, .null)), (4, (.iload_n 1, 5, 0, 0, 0, .null)), (5, (.aload_n 0, 6, 0, 0, 0, .null)), (6, (.getfield 26, 9, 6, 4, 0, .null)), (9, (.if_icmp .ge 31, 12, 40, 0, 0, .null)), (12, (.aload_n 0, 13, 0, 0, 0, .null)), (13, (.getfield 22, 16, 6, 3, 0, .null)), (16, (.iload_n 1, 17, 0, 0, 0, .null)), (17, (.baload, 18, 0, 0, 0, .null)), (18, (.ifCond .ne 22, 21, 40, 0, 0, .null)), (21, (.iload_n 2, 22, 0, 0, 0, .null)), (22, (.aload_n 0, 23, 0, 0, 0, .null)), (23, (.getfield 19, 26, 6, 2, 0, .null)), (26, (.iload_n 1, 27, 0, 0, 0, .null)), (27, (.iaload, 28, 0, 0, 0, .null)), (28, (.aload_n 0, 29, 0, 0, 0, .null)), (29, (.getfield 9, 32, 6, 0, 0, .null)), (32, (.iadd, 33, 0, 0, 0, .null)), (33, (.if_icmp .ge 7, 36, 40, 0, 0, .null)), (36, (.iconst 1, 37, 0, 0, 0, .int 1)), (37, (.goto 4, 40, 41, 0, 0, .null)), (40, (.iconst 0, 41, 0, 0, 0, .int 0)), (41, (.ireturn, 42, 0, 0, 0, .null))]
/-- AssertionGate$Requests.awaits(III)Z -/
def tb102 : mB := [(0, (.aload_n 0, 1, 0, 0, 0, .null)), (1, (.iload_n 1, 2, 0, 0, 0, .null)), (2, (.iload_n 3, 3, 0, 0, 0, .null)), (3, (.invokevirtual 29, 6, 101, 3, 6, .null)), (6, (.ifCond .eq 17, 9, 23, 0, 0, .null)), (9, (.aload_n 0, 10, 0, 0, 0, .null)), (10, (.getfield 15, 13, 6, 1, 0, .null)), (13, (.iload_n 1, 14, 0, 0, 0, .null)), (14, (.iaload, 15, 0, 0, 0, .null)), (15, (.iload_n 2, 16, 0, 0, 0, .null)), (16, (.if_icmp .ne 7, 19, 23, 0, 0, .null)), (19, (.iconst 1, 20, 0, 0, 0, .int 1)), (20, (.goto 4, 23, 24, 0, 0, .null)), (23, (.iconst 0, 24, 0, 0, 0, .int 0)), (24, (.ireturn, 25, 0, 0, 0, .null))]
/-- AssertionGate$Requests.answer(I)V -/
def tb103 : mB := [(0, (.iload_n 1, 1, 0, 0, 0, .null)), (1, (.ifCond .lt 18, 4, 19, 0, 0, .null)), (4, (.iload_n 1, 5, 0, 0, 0, .null)), (5, (.aload_n 0, 6, 0, 0, 0, .null)), (6, (.getfield 26, 9, 6, 4, 0, .null)), (9, (.if_icmp .ge 10, 12, 19, 0, 0, .null)), (12, (.aload_n 0, 13, 0, 0, 0, .null)), (13, (.getfield 22, 16, 6, 3, 0, .null)), (16, (.iload_n 1, 17, 0, 0, 0, .null)), (17, (.iconst 1, 18, 0, 0, 0, .int 1)), (18, (.bastore, 19, 0, 0, 0, .null)), (19, (.return_, 20, 0, 0, 0, .null))]
/-- AssertionGate$Requests.openCount(I)I -/
def tb104 : mB := [(0, (.iconst 0, 1, 0, 0, 0, .int 0)), (1, (.istore_n 2, 2, 0, 0, 0, .null)), (2, (.iconst 0, 3, 0, 0, 0, .int 0)), (3, (.istore_n 3, 4, 0, 0, 0, .null)), (4, (.iload_n 3, 5, 0, 0, 0, .null)), (5, (.aload_n 0, 6, 0, 0, 0, .null)), (6, (.getfield 26, 9, 6, 4, 0, .null)), (9, (.if_icmp .ge 21, 12, 30, 0, 0, .null)), (12, (.aload_n 0, 13, 0, 0, 0, .null)), (13, (.iload_n 3, 14, 0, 0, 0, .null)), (14, (.iload_n 1, 15, 0, 0, 0, .null)), (15, (.invokevirtual 29, 18, 101, 3, 6, .null)), (18, (.ifCond .eq 6, 21, 24, 0, 0, .null)), (21, (.iinc 2 1, 24, 0, 0, 0, .int 1)), (24, (.iinc 3 1, 27, 0, 0, 0, .int 1)), (27, (.goto (-23), 30, 4, 0, 0, .null)), (30, (.iload_n 2, 31, 0, 0, 0, .null)), (31, (.ireturn, 32, 0, 0, 0, .null))]
/-- AssertionGate$Sessions.<init>()V -/
def tb105 : mB := [(0, (.aload_n 0, 1, 0, 0, 0, .null)), (1, (.invokespecial 3, 4, 1000, 1, 99, .null)), (4, (.aload_n 0, 5, 0, 0, 0, .null)), (5, (.bipush 20, 7, 0, 0, 0, .int 20)), (7, (.newarray .int, 9, 0, 0, 0, .null)), (9, (.putfield 11, 12, 7, 0, 0, .null)), (12, (.aload_n 0, 13, 0, 0, 0, .null)), (13, (.bipush 20, 15, 0, 0, 0, .int 20)), (15, (.newarray .boolean, 17, 2, 0, 0, .null)), (17, (.putfield 15, 20, 7, 1, 0, .null)), (20, (.aload_n 0, 21, 0, 0, 0, .null)), (21, (.new 19, 24, 8, 0, 0, .null)), (24, (.dup, 25, 0, 0, 0, .null)), (25, (.bipush 20, 27, 0, 0, 0, .int 20)), (27, (.invokespecial 21, 30, 110, 2, 98, .null)), (30, (.putfield 24, 33, 7, 2, 0, .null)), (33, (.return_, 34, 0, 0, 0, .null))]
/-- AssertionGate$Sessions.isFull()Z -/
def tb106 : mB := [(0, (.aload_n 0, 1, 0, 0, 0, .null)), (1, (.getfield 24, 4, 7, 2, 0, .null)), (4, (.invokevirtual 28, 7, 111, 1, 8, .null)), (7, (.ireturn, 8, 0, 0, 0, .null))]
/-- AssertionGate$Sessions.open(ILAssertionGate$Page;II)I -/
def tb107 : mB := [(0, (.aload_n 0, 1, 0, 0, 0, .null)), (1, (.invokevirtual 32, 4, 106, 1, 7, .null)), (4, (.ifCond .eq 5, 7, 9, 0, 0, .null)), (7, (.iconst (-1), 8, 0, 0, 0, .int (-1))), (8, (.ireturn, 9, 0, 0, 0, .null)), (9, (.aload_n 0, 10, 0, 0, 0, .null)), (10, (.getfield 24, 13, 7, 2, 0, .null)), (13, (.getfield 33, 16, 8, 3, 0, .null)), (16, (.istore 5, 18, 0, 0, 0, .null)), (18, (.aload_n 0, 19, 0, 0, 0, .null)), (19, (.getfield 24, 22, 7, 2, 0, .null)), (22, (.aload_n 2, 23, 0, 0, 0, .null)), (23, (.iload_n 3, 24, 0, 0, 0, .null)), (24, (.iload 4, 26, 0, 0, 0, .null)), (26, (.invokevirtual 37, 29, 112, 4, 8, .null)), (29, (.aload_n 0, 30, 0, 0, 0, .null)), (30, (.getfield 11, 33, 7, 0, 0, .null)), (33, (.iload 5, 35, 0, 0, 0, .null)), (35, (.iload_n 1, 36, 0, 0, 0, .null)), (36, (.iastore, 37, 0, 0, 0, .null)), (37, (.aload_n 0, 38, 0, 0, 0, .null)), (38, (.getfield 15, 41, 7, 1, 0, .null)), (41, (.iload 5, 43, 0, 0, 0, .null)), (43, (.iconst 1, 44, 0, 0, 0, .int 1)), (44, (.bastore, 45, 0, 0, 0, .null)), (45, (.iload 5, 47, 0, 0, 0, .null)), (47, (.ireturn, 48, 0, 0, 0, .null))]
/-- AssertionGate$Sessions.end(ILAssertionGate$Page;II)I -/
def tb108 : mB := [(0, (.iconst 0, 1, 0, 0, 0, .int 0)), (1, (.istore 5, 3, 0, 0, 0, .null)), (3, (.iconst 0, 4, 0, 0, 0, .int 0)), (4, (.istore 6, 6, 0, 0, 0, .null)), (6, (.iload 6, 8, 0, 0, 0, .null)), (8, (.aload_n 0, 9, 0, 0, 0, .null)), (9, (.getfield 24, 12, 7, 2, 0, .null)), (12, (.getfield 33, 15, 8, 3, 0, .null)), (15, (.if_icmp .ge 64, 18, 79, 0, 0, .null)), (18, (.iload 6, 20, 0, 0, 0, .null)), (20, (.bipush 20, 22, 0, 0, 0, .int 20)), (22, (.if_icmp .ge 57, 25, 79, 0, 0, .null)), (25, (.aload_n 0, 26, 0, 0, 0, .null)), (26, (.getfield 15, 29, 7, 1, 0, .null)), (29, (.iload 6, 31, 0, 0, 0, .null)), (31, (.baload, 32, 0, 0, 0, .null)), (32, (.ifCond .eq 41, 35, 73, 0, 0, .null)), (35, (.aload_n 0, 36, 0, 0, 0, .null)), (36, (.getfield 11, 39, 7, 0, 0, .null)), (39, (.iload 6, 41, 0, 0, 0, .null)), (41, (.iaload, 42, 0, 0, 0, .null)), (42, (.iload_n 1, 43, 0, 0, 0, .null)), (43, (.if_icmp .ne 30, 46, 73, 0, 0, .null)), (46, (.aload_n 0, 47, 0, 0, 0, .null)), (47, (.getfield 24, 50, 7, 2, 0, .null)), (50, (.iload 6, 52, 0, 0, 0, .null)), (52, (.aload_n 2, 53, 0, 0, 0, .null)), (53, (.iload_n 3, 54, 0, 0, 0, .null)), (54, (.iload 4, 56, 0, 0, 0, .null)), (56, (.invokevirtual 41, 59, 114, 5, 8, .null)), (59, (.ifCond .eq 14, 62, 73, 0, 0, .null)), (62, (.aload_n 0, 63, 0, 0, 0, .null)), (63, (.getfield 15, 66, 7, 1, 0, .null)), (66, (.iload 6, 68, 0, 0, 0, .null)), (68, (.iconst 0, 69, 0, 0, 0, .int 0)), (69, (.bastore, 70, 0, 0, 0, .null)), (70, (.iinc 5 1, 73, 0, 0, 0, .int 1)), (73, (.iinc 6 1, 76, 0, 0, 0, .int 1)), (76, (.goto (-70), 79, 6, 0, 0, .null)), (79, (.iload 5, 81, 0, 0, 0, .null)), (81, (.ireturn, 82, 0, 0, 0, .null))]
/-- AssertionGate$Sessions.stateOf(I)I -/
def tb109 : mB := [(0, (.iload_n 1, 1, 0, 0, 0, .null)), (1, (.ifCond .lt 20, 4, 21, 0, 0, .null)), (4, (.iload_n 1, 5, 0, 0, 0, .null)), (5, (.aload_n 0, 6, 0, 0, 0, .null)), (6, (.getfield 24, 9, 7, 2, 0, .null)), (9, (.getfield 33, 12, 8, 3, 0, .null)), (12, (.if_icmp .ge 9, 15, 21, 0, 0, .null)), (15, (.iload_n 1, 16, 0, 0, 0, .null)), (16, (.bipush 20, 18, 0, 0, 0, .int 20)), (18, (.if_icmp .lt 5, 21, 23, 0, 0, .null)), (21, (.iconst (-1), 22, 0, 0, 0, .int (-1))), (22, (.ireturn, 23, 0, 0, 0, .null)), (23, (.aload_n 0, 24, 0, 0, 0, .null)), (24, (.getfield 15, 27, 7, 1, 0, .null)), (27, (.iload_n 1, 28, 0, 0, 0, .null)), (28, (.baload, 29, 0, 0, 0, .null)), (29, (.ifCond .eq 14, 32, 43, 0, 0, .null)), (32, (.iconst 1, 33, 0, 0, 0, .int 1)), (33, (.aload_n 0, 34, 0, 0, 0, .null)), (34, (.getfield 11, 37, 7, 0, 0, .null)), (37, (.iload_n 1, 38, 0, 0, 0, .null)), (38, (.iaload, 39, 0, 0, 0, .null)), (39, (.iadd, 40, 0, 0, 0, .null)), (40, (.goto 4, 43, 44, 0, 0, .null)), (43, (.iconst 0, 44, 0, 0, 0, .int 0)), (44, (.ireturn, 45, 0, 0, 0, .null))]
/-- AssertionGate$Labels.<init>(I)V -/
def tb110 : mB := [(0, (.aload_n 0, 1, 0, 0, 0, .null)), (1, (.invokespecial 3, 4, 1000, 1, 99, .null)), (4, (.aload_n 0, 5, 0, 0, 0, .null)), (5, (.iload_n 1, 6, 0, 0, 0, .null)), (6, (.putfield 9, 9, 8, 0, 0, .null)), (9, (.aload_n 0, 10, 0, 0, 0, .null)), (10, (.iload_n 1, 11, 0, 0, 0, .null)), (11, (.bipush 8, 13, 0, 0, 0, .int 8)), (13, (.imul, 14, 0, 0, 0, .null)), (14, (.newarray .char, 16, 1, 0, 0, .null)), (16, (.putfield 15, 19, 8, 1, 0, .null)), (19, (.aload_n 0, 20, 0, 0, 0, .null)), (20, (.iload_n 1, 21, 0, 0, 0, .null)), (21, (.newarray .int, 23, 0, 0, 0, .null)), (23, (.putfield 19, 26, 8, 2, 0, .null)), (26, (.aload_n 0, 27, 0, 0, 0, .null)), (27, (.iconst 0, 28, 0, 0, 0, .int 0)), (28, (.putfield 23, 31, 8, 3, 0, .null)), (31, (.return_, 32, 0, 0, 0, .null))]
/-- AssertionGate$Labels.isFull()Z -/
def tb111 : mB := [(0, (.aload_n 0, 1, 0, 0, 0, .null)), (1, (.getfield 23, 4, 8, 3, 0, .null)), (4, (.aload_n 0, 5, 0, 0, 0, .null)), (5, (.getfield 9, 8, 8, 0, 0, .null)), (8, (.if_icmp .lt 7, 11, 15, 0, 0, .null)), (11, (.iconst 1, 12, 0, 0, 0, .int 1)), (12, (.goto 4, 15, 16, 0, 0, .null)), (15, (.iconst 0, 16, 0, 0, 0, .int 0)), (16, (.ireturn, 17, 0, 0, 0, .null))]
/-- AssertionGate$Labels.keep(LAssertionGate$Page;II)V -/
def tb112 : mB := [(0, (.aload_n 0, 1, 0, 0, 0, .null)), (1, (.invokevirtual 26, 4, 111, 1, 8, .null)), (4, (.ifCond .ne 11, 7, 15, 0, 0, .null)), (7, (.iload_n 3, 8, 0, 0, 0, .null)), (8, (.iload_n 2, 9, 0, 0, 0, .null)), (9, (.isub, 10, 0, 0, 0, .null)), (10, (.bipush 8, 12, 0, 0, 0, .int 8)), (12, (.if_icmp .le 4, 15, 16, 0, 0, .null)), (15, (.return_, 16, 0, 0, 0, .null)), (16, (.iload_n 2, 17, 0, 0, 0, .null)), (17, (.istore 4, 19, 0, 0, 0, .null)), (19, (.iload 4, 21, 0, 0, 0, .null)), (21, (.iload_n 3, 22, 0, 0, 0, .null)), (22, (.if_icmp .ge 33, 25, 55, 0, 0, .null)), (25, (.aload_n 0, 26, 0, 0, 0, .null)), (26, (.getfield 15, 29, 8, 1, 0, .null)), (29, (.aload_n 0, 30, 0, 0, 0, .null)), (30, (.getfield 23, 33, 8, 3, 0, .null)), (33, (.bipush 8, 35, 0, 0, 0, .int 8)), (35, (.imul, 36, 0, 0, 0, .null)), (36, (.iload 4, 38, 0, 0, 0, .null)), (38, (.iadd, 39, 0, 0, 0, .null)), (39, (.iload_n 2, 40, 0, 0, 0, .null)), (40, (.isub, 41, 0, 0, 0, .null)), (41, (.aload_n 1, 42, 0, 0, 0, .null)), (42, (.iload 4, 44, 0, 0, 0, .null)), (44, (.invokevirtual 30, 47, 39, 2, 1, .null)), (47, (.i2c, 48, 0, 0, 0, .null)), (48, (.castore, 49, 0, 0, 0, .null)), (49, (.iinc 4 1, 52, 0, 0, 0, .int 1)), (52, (.goto (-33), 55, 19, 0, 0, .null)), (55, (.aload_n 0, 56, 0, 0, 0, .null)), (56, (.getfield 19, 59, 8, 2, 0, .null)), (59, (.aload_n 0, 60, 0, 0, 0, .null)), (60, (.getfield 23, 63, 8, 3, 0, .null)), (63, (.iload_n 3, 64, 0, 0, 0, .null)), (64, (.iload_n 2, 65, 0, 0, 0, .null)), (65, (.isub, 66, 0, 0, 0, .null)), (66, (.iastore, 67, 0, 0, 0, .null)), (67, (.aload_n 0, 68, 0, 0, 0, .null)), (68, (.dup, 69, 0, 0, 0, .null)), (69, (.getfield 23, 72, 8, 3, 0, .null)), (72, (.iconst 1, 73, 0, 0, 0, .int 1)), (73, (.iadd, 74, 0, 0, 0, .null)), (74, (.putfield 23, 77, 8, 3, 0, .null)), (77, (.return_, 78, 0, 0, 0, .null))]
/-- AssertionGate$Labels.codeAt(II)I -/
def tb113 : mB := [(0, (.iload_n 1, 1, 0, 0, 0, .null)), (1, (.ifCond .lt 29, 4, 30, 0, 0, .null)), (4, (.iload_n 1, 5, 0, 0, 0, .null)), (5, (.aload_n 0, 6, 0, 0, 0, .null)), (6, (.getfield 23, 9, 8, 3, 0, .null)), (9, (.if_icmp .ge 21, 12, 30, 0, 0, .null)), (12, (.iload_n 2, 13, 0, 0, 0, .null)), (13, (.ifCond .lt 17, 16, 30, 0, 0, .null)), (16, (.iload_n 2, 17, 0, 0, 0, .null)), (17, (.aload_n 0, 18, 0, 0, 0, .null)), (18, (.getfield 19, 21, 8, 2, 0, .null)), (21, (.iload_n 1, 22, 0, 0, 0, .null)), (22, (.iaload, 23, 0, 0, 0, .null)), (23, (.if_icmp .ge 7, 26, 30, 0, 0, .null)), (26, (.iconst 1, 27, 0, 0, 0, .int 1)), (27, (.goto 4, 30, 31, 0, 0, .null)), (30, (.iconst 0, 31, 0, 0, 0, .int 0)), (31, (.istore_n 3, 32, 0, 0, 0, .null)), (32, (.iload_n 3, 33, 0, 0, 0, .null)), (33, (.ifCond .eq 17, 36, 50, 0, 0, .null)), (36, (.aload_n 0, 37, 0, 0, 0, .null)), (37, (.getfield 15, 40, 8, 1, 0, .null)), (40, (.iload_n 1, 41, 0, 0, 0, .null)), (41, (.bipush 8, 43, 0, 0, 0, .int 8)), (43, (.imul, 44, 0, 0, 0, .null)), (44, (.iload_n 2, 45, 0, 0, 0, .null)), (45, (.iadd, 46, 0, 0, 0, .null)), (46, (.caload, 47, 0, 0, 0, .null)), (47, (.goto 4, 50, 51, 0, 0, .null)), (50, (.iconst (-1), 51, 0, 0, 0, .int (-1))), (51, (.ireturn, 52, 0, 0, 0, .null))]
/-- AssertionGate$Labels.isLabel(ILAssertionGate$Page;II)Z -/
def tb114 : mB := [(0, (.iload_n 1, 1, 0, 0, 0, .null)), (1, (.ifCond .lt 24, 4, 25, 0, 0, .null)), (4, (.iload_n 1, 5, 0, 0, 0, .null)), (5, (.aload_n 0, 6, 0, 0, 0, .null)), (6, (.getfield 23, 9, 8, 3, 0, .null)), (9, (.if_icmp .ge 16, 12, 25, 0, 0, .null)), (12, (.aload_n 0, 13, 0, 0, 0, .null)), (13, (.getfield 19, 16, 8, 2, 0, .null)), (16, (.iload_n 1, 17, 0, 0, 0, .null)), (17, (.iaload, 18, 0, 0, 0, .null)), (18, (.iload 4, 20, 0, 0, 0, .null)), (20, (.iload_n 3, 21, 0, 0, 0, .null)), (21, (.isub, 22, 0, 0, 0, .null)), (22, (.if_icmp .eq 5, 25, 27, 0, 0, .null)), (25, (.iconst 0, 26, 0, 0, 0, .int 0)), (26, (.ireturn, 27, 0, 0, 0, .null)), (27, (.iload_n 3, 28, 0, 0, 0, .null)), (28, (.istore 5, 30, 0, 0, 0, .null)), (30, (.iload 5, 32, 0, 0, 0, .null)), (32, (.iload 4, 34, 0, 0, 0, .null)), (34, (.if_icmp .ge 29, 37, 63, 0, 0, .null)), (37, (.aload_n 0, 38, 0, 0, 0, .null)), (38, (.iload_n 1, 39, 0, 0, 0, .null)), (39, (.iload 5, 41, 0, 0, 0, .null)), (41, (.iload_n 3, 42, 0, 0, 0, .null)), (42, (.isub, 43, 0, 0, 0, .null)), (43, (.invokevirtual 36, 46, 113, 3, 8, .null)), (46, (.aload_n 2, 47, 0, 0, 0, .null)), (47, (.iload 5, 49, 0, 0, 0, .null)), (49, (.invokevirtual 30, 52, 39, 2, 1, .null)), (52, (.if_icmp .eq 5, 55, 57, 0, 0, .null)), (55, (.iconst 0, 56, 0, 0, 0, .int 0)), (56, (.ireturn, 57, 0, 0, 0, .null)), (57, (.iinc 5 1, 60, 0, 0, 0, .int 1)), (60, (.goto (-30), 63, 30, 0, 0, .null)), (63, (.iconst 1, 64, 0, 0, 0, .int 1)), (64, (.ireturn, 65, 0, 0, 0, .null))]
/-- AssertionGate$Labels.find(LAssertionGate$Page;II)I -/
def tb115 : mB := [(0, (.iconst 0, 1, 0, 0, 0, .int 0)), (1, (.istore 4, 3, 0, 0, 0, .null)), (3, (.iload 4, 5, 0, 0, 0, .null)), (5, (.aload_n 0, 6, 0, 0, 0, .null)), (6, (.getfield 23, 9, 8, 3, 0, .null)), (9, (.if_icmp .ge 24, 12, 33, 0, 0, .null)), (12, (.aload_n 0, 13, 0, 0, 0, .null)), (13, (.iload 4, 15, 0, 0, 0, .null)), (15, (.aload_n 1, 16, 0, 0, 0, .null)), (16, (.iload_n 2, 17, 0, 0, 0, .null)), (17, (.iload_n 3, 18, 0, 0, 0, .null)), (18, (.invokevirtual 39, 21, 114, 5, 8, .null)), (21, (.ifCond .eq 6, 24, 27, 0, 0, .null)), (24, (.iload 4, 26, 0, 0, 0, .null)), (26, (.ireturn, 27, 0, 0, 0, .null)), (27, (.iinc 4 1, 30, 0, 0, 0, .int 1)), (30, (.goto (-27), 33, 3, 0, 0, .null)), (33, (.iconst (-1), 34, 0, 0, 0, .int (-1))), (34, (.ireturn, 35, 0, 0, 0, .null))]
/-- AssertionGate$Response.<init>(LAssertionGate$Message;)V -/
def tb116 : mB := [(0, (.aload_n 0, 1, 0, 0, 0, .null)), (1, (.invokespecial 3, 4, 1000, 1, 99, .null)), (4, (.aload_n 0, 5, 0, 0, 0, .null)), (5, (.aload_n 1, 6, 0, 0, 0, .null)), (6, (.putfield 9, 9, 9, 0, 0, .null)), (9, (.return_, 10, 0, 0, 0, .null))]
/-- AssertionGate$Response.isFound()Z -/
def tb117 : mB := [(0, (.aload_n 0, 1, 0, 0, 0, .null)), (1, (.invokevirtual 15, 4, 118, 1, 9, .null)), (4, (.aload_n 0, 5, 0, 0, 0, .null)), (5, (.getfield 9, 8, 9, 0, 0, .null)), (8, (.iconst 0, 9, 0, 0, 0, .int 0)), (9, (.ldc 18, 11, 0, 0, 0, .ref 1031)), (11, (.invokevirtual 20, 14, 56, 3, 2, .null)), (14, (.ifCond .eq 28, 17, 42, 0, 0, .null)), (17, (.aload_n 0, 18, 0, 0, 0, .null)), (18, (.invokevirtual 26, 21, 119, 1, 9, .null)), (21, (.ifCond .eq 21, 24, 42, 0, 0, .null)), (24, (.aload_n 0, 25, 0, 0, 0, .null)), (25, (.invokevirtual 30, 28, 120, 1, 9, .null)), (28, (.ifCond .eq 14, 31, 42, 0, 0, .null)), (31, (.aload_n 0, 32, 0, 0, 0, .null)), (32, (.invokevirtual 33, 35, 121, 1, 9, .null)), (35, (.ifCond .eq 7, 38, 42, 0, 0, .null)), (38, (.iconst 1, 39, 0, 0, 0, .int 1)), (39, (.goto 4, 42, 43, 0, 0, .null)), (42, (.iconst 0, 43, 0, 0, 0, .int 0)), (43, (.ireturn, 44, 0, 0, 0, .null))]
/-- AssertionGate$Response.findParts()V -/
def tb118 : mB := [(0, (.aload_n 0, 1, 0, 0, 0, .null)), (1, (.aload_n 0, 2, 0, 0, 0, .null)), (2, (.getfield 9, 5, 9, 0, 0, .null)), (5, (.iconst 0, 6, 0, 0, 0, .int 0)), (6, (.ldc 36, 8, 0, 0, 0, .ref 1024)), (8, (.invokevirtual 38, 11, 59, 3, 2, .null)), (11, (.putfield 42, 14, 9, 1, 0, .null)), (14, (.aload_n 0, 15, 0, 0, 0, .null)), (15, (.aload_n 0, 16, 0, 0, 0, .null)), (16, (.getfield 9, 19, 9, 0, 0, .null)), (19, (.iconst 0, 20, 0, 0, 0, .int 0)), (20, (.ldc 45, 22, 0, 0, 0, .ref 1025)), (22, (.invokevirtual 38, 25, 59, 3, 2, .null)), (25, (.putfield 47, 28, 9, 2, 0, .null)), (28, (.aload_n 0, 29, 0, 0, 0, .null)), (29, (.aload_n 0, 30, 0, 0, 0, .null)), (30, (.getfield 9, 33, 9, 0, 0, .null)), (33, (.iconst 0, 34, 0, 0, 0, .int 0)), (34, (.ldc 49, 36, 0, 0, 0, .ref 1026)), (36, (.invokevirtual 38, 39, 59, 3, 2, .null)), (39, (.putfield 51, 42, 9, 3, 0, .null)), (42, (.aload_n 0, 43, 0, 0, 0, .null)), (43, (.aload_n 0, 44, 0, 0, 0, .null)), (44, (.getfield 9, 47, 9, 0, 0, .null)), (47, (.iconst 0, 48, 0, 0, 0, .int 0)), (48, (.ldc 53, 50, 0, 0, 0, .ref 1016)), (50, (.invokevirtual 55, 53, 58, 3, 2, .null)), (53, (.putfield 58, 56, 9, 4, 0, .null)), (56, (.aload_n 0, 57, 0, 0, 0, .null)), (57, (.aload_n 0, 58, 0, 0, 0, .null)), (58, (.getfield 9, 61, 9, 0, 0, .null)), (61, (.aload_n 0, 62, 0, 0, 0, .null)), (62, (.getfield 51, 65, 9, 3, 0, .null)), (65, (.ldc 36, 67, 0, 0, 0, .ref 1024)), (67, (.invokevirtual 38, 70, 59, 3, 2, .null)), (70, (.putfield 60, 73, 9, 5, 0, .null)), (73, (.aload_n 0, 74, 0, 0, 0, .null)), (74, (.aload_n 0, 75, 0, 0, 0, .null)), (75, (.getfield 9, 78, 9, 0, 0, .null)), (78, (.aload_n 0, 79, 0, 0, 0, .null)), (79, (.getfield 51, 82, 9, 3, 0, .null)), (82, (.ldc 63, 84, 0, 0, 0, .ref 1027)), (84, (.invokevirtual 38, 87, 59, 3, 2, .null)), (87, (.putfield 65, 90, 9, 6, 0, .null)), (90, (.aload_n 0, 91, 0, 0, 0, .null)), (91, (.aload_n 0, 92, 0, 0, 0, .null)), (92, (.getfield 9, 95, 9, 0, 0, .null)), (95, (.aload_n 0, 96, 0, 0, 0, .null)), (96, (.getfield 51, 99, 9, 3, 0, .null)), (99, (.ldc 67, 101, 0, 0, 0, .ref 1028)), (101, (.invokevirtual 38, 104, 59, 3, 2, .null)), (104, (.putfield 69, 107, 9, 7, 0, .null)), (107, (.aload_n 0, 108, 0, 0, 0, .null)), (108, (.aload_n 0, 109, 0, 0, 0, .null)), (109, (.getfield 9, 112, 9, 0, 0, .null)), (112, (.aload_n 0, 113, 0, 0, 0, .null)), (113, (.getfield 51, 116, 9, 3, 0, .null)), (116, (.ldc 53, 118, 0, 0, 0, .ref 1016)), (118, (.invokevirtual 55, 121, 58, 3, 2, .null)), (121, (.putfield 71, 124, 9, 8, 0, .null)), (124, (.aload_n 0, 125, 0, 0, 0, .null)), (125, (.aload_n 0, 126, 0, 0, 0, .null)), (126, (.getfield 9, 129, 9, 0, 0, .null)), (129, (.aload_n 0, 130, 0, 0, 0, .null)), (130, (.getfield 69, 133, 9, 7, 0, .null)), (133, (.ldc 74, 135, 0, 0, 0, .ref 1029)), (135, (.invokevirtual 38, 138, 59, 3, 2, .null)), (138, (.putfield 76, 141, 9, 9, 0, .null)), (141, (.aload_n 0, 142, 0, 0, 0, .null)), (142, (.aload_n 0, 143, 0, 0, 0, .null)), (143, (.getfield 9, 146, 9, 0, 0, .null)), (146, (.aload_n 0, 147, 0, 0, 0, .null)), (147, (.getfield 69, 150, 9, 7, 0, .null)), (150, (.ldc 78, 152, 0, 0, 0, .ref 1030)), (152, (.invokevirtual 38, 155, 59, 3, 2, .null)), (155, (.putfield 80, 158, 9, 10, 0, .null)), (158, (.return_, 159, 0, 0, 0, .null))]
/-- AssertionGate$Response.isHeadSound()Z -/
def tb119 : mB := [(0, (.aload_n 0, 1, 0, 0, 0, .null)), (1, (.getfield 9, 4, 9, 0, 0, .null)), (4, (.iconst 0, 5, 0, 0, 0, .int 0)), (5, (.ldc 82, 7, 0, 0, 0, .ref 1023)), (7, (.invokevirtual 84, 10, 72, 3, 2, .null)), (10, (.ifCond .eq 72, 13, 82, 0, 0, .null)), (13, (.aload_n 0, 14, 0, 0, 0, .null)), (14, (.getfield 9, 17, 9, 0, 0, .null)), (17, (.iconst 0, 18, 0, 0, 0, .int 0)), (18, (.ldc 87, 20, 0, 0, 0, .ref 1032)), (20, (.invokevirtual 89, 23, 66, 3, 2, .null)), (23, (.ifCond .eq 59, 26, 82, 0, 0, .null)), (26, (.aload_n 0, 27, 0, 0, 0, .null)), (27, (.getfield 9, 30, 9, 0, 0, .null)), (30, (.iconst 0, 31, 0, 0, 0, .int 0)), (31, (.ldc 92, 33, 0, 0, 0, .ref 1033)), (33, (.invokevirtual 89, 36, 66, 3, 2, .null)), (36, (.ifCond .eq 46, 39, 82, 0, 0, .null)), (39, (.aload_n 0, 40, 0, 0, 0, .null)), (40, (.getfield 9, 43, 9, 0, 0, .null)), (43, (.aload_n 0, 44, 0, 0, 0, .null)), (44, (.getfield 42, 47, 9, 1, 0, .null)), (47, (.invokevirtual 94, 50, 62, 2, 2, .null)), (50, (.ifCond .eq 32, 53, 82, 0, 0, .null)), (53, (.aload_n 0, 54, 0, 0, 0, .null)), (54, (.getfield 9, 57, 9, 0, 0, .null)), (57, (.aload_n 0, 58, 0, 0, 0, .null)), (58, (.getfield 47, 61, 9, 2, 0, .null)), (61, (.invokevirtual 94, 64, 62, 2, 2, .null)), (64, (.ifCond .eq 18, 67, 82, 0, 0, .null)), (67, (.aload_n 0, 68, 0, 0, 0, .null)), (68, (.getfield 9, 71, 9, 0, 0, .null)), (71, (.iconst 0, 72, 0, 0, 0, .int 0)), (72, (.invokevirtual 98, 75, 76, 2, 2, .null)), (75, (.ifCond .eq 7, 78, 82, 0, 0, .null)), (78, (.iconst 1, 79, 0, 0, 0, .int 1)), (79, (.goto 4, 82, 83, 0, 0, .null)), (82, (.iconst 0, 83, 0, 0, 0, .int 0)), (83, (.ireturn, 84, 0, 0, 0, .null))]
/-- AssertionGate$Response.isAssnSound()Z -/
def tb120 : mB := [(0, (.aload_n 0, 1, 0, 0, 0, .null)), (1, (.getfield 9, 4, 9, 0, 0, .null)), (4, (.aload_n 0, 5, 0, 0, 0, .null)), (5, (.getfield 51, 8, 9, 3, 0, .null)), (8, (.ldc 82, 10, 0, 0, 0, .ref 1023)), (10, (.invokevirtual 84, 13, 72, 3, 2, .null)), (13, (.ifCond .eq 83, 16, 96, 0, 0, .null)), (16, (.aload_n 0, 17, 0, 0, 0, .null)), (17, (.getfield 9, 20, 9, 0, 0, .null)), (20, (.aload_n 0, 21, 0, 0, 0, .null)), (21, (.getfield 60, 24, 9, 5, 0, .null)), (24, (.invokevirtual 94, 27, 62, 2, 2, .null)), (27, (.ifCond .eq 69, 30, 96, 0, 0, .null)), (30, (.aload_n 0, 31, 0, 0, 0, .null)), (31, (.getfield 9, 34, 9, 0, 0, .null)), (34, (.aload_n 0, 35, 0, 0, 0, .null)), (35, (.getfield 51, 38, 9, 3, 0, .null)), (38, (.invokevirtual 98, 41, 76, 2, 2, .null)), (41, (.ifCond .eq 55, 44, 96, 0, 0, .null)), (44, (.aload_n 0, 45, 0, 0, 0, .null)), (45, (.getfield 9, 48, 9, 0, 0, .null)), (48, (.aload_n 0, 49, 0, 0, 0, .null)), (49, (.getfield 65, 52, 9, 6, 0, .null)), (52, (.ldc 101, 54, 0, 0, 0, .ref 1036)), (54, (.invokevirtual 89, 57, 66, 3, 2, .null)), (57, (.ifCond .eq 39, 60, 96, 0, 0, .null)), (60, (.aload_n 0, 61, 0, 0, 0, .null)), (61, (.getfield 9, 64, 9, 0, 0, .null)), (64, (.aload_n 0, 65, 0, 0, 0, .null)), (65, (.getfield 65, 68, 9, 6, 0, .null)), (68, (.ldc 103, 70, 0, 0, 0, .ref 1037)), (70, (.invokevirtual 105, 73, 73, 3, 2, .null)), (73, (.ifCond .eq 23, 76, 96, 0, 0, .null)), (76, (.aload_n 0, 77, 0, 0, 0, .null)), (77, (.getfield 9, 80, 9, 0, 0, .null)), (80, (.aload_n 0, 81, 0, 0, 0, .null)), (81, (.getfield 65, 84, 9, 6, 0, .null)), (84, (.ldc 108, 86, 0, 0, 0, .ref 1038)), (86, (.invokevirtual 105, 89, 73, 3, 2, .null)), (89, (.ifCond .eq 7, 92, 96, 0, 0, .null)), (92, (.iconst 1, 93, 0, 0, 0, .int 1)), (93, (.goto 4, 96, 97, 0, 0, .null)), (96, (.iconst 0, 97, 0, 0, 0, .int 0)), (97, (.ireturn, 98, 0, 0, 0, .null))]
/-- AssertionGate$Response.isSubjSound()Z -/
def tb121 : mB := [(0, (.aload_n 0, 1, 0, 0, 0, .null)), (1, (.getfield 9, 4, 9, 0, 0, .null)), (4, (.aload_n 0, 5, 0, 0, 0, .null)), (5, (.getfield 76, 8, 9, 9, 0, .null)), (8, (.invokevirtual 94, 11, 62, 2, 2, .null)), (11, (.ifCond .eq 55, 14, 66, 0, 0, .null)), (14, (.aload_n 0, 15, 0, 0, 0, .null)), (15, (.getfield 9, 18, 9, 0, 0, .null)), (18, (.aload_n 0, 19, 0, 0, 0, .null)), (19, (.getfield 80, 22, 9, 10, 0, .null)), (22, (.ldc 92, 24, 0, 0, 0, .ref 1033)), (24, (.invokevirtual 89, 27, 66, 3, 2, .null)), (27, (.ifCond .eq 39, 30, 66, 0, 0, .null)), (30, (.aload_n 0, 31, 0, 0, 0, .null)), (31, (.getfield 9, 34, 9, 0, 0, .null)), (34, (.aload_n 0, 35, 0, 0, 0, .null)), (35, (.getfield 80, 38, 9, 10, 0, .null)), (38, (.ldc 110, 40, 0, 0, 0, .ref 1039)), (40, (.invokevirtual 89, 43, 66, 3, 2, .null)), (43, (.ifCond .eq 23, 46, 66, 0, 0, .null)), (46, (.aload_n 0, 47, 0, 0, 0, .null)), (47, (.getfield 9, 50, 9, 0, 0, .null)), (50, (.aload_n 0, 51, 0, 0, 0, .null)), (51, (.getfield 80, 54, 9, 10, 0, .null)), (54, (.ldc 108, 56, 0, 0, 0, .ref 1038)), (56, (.invokevirtual 105, 59, 73, 3, 2, .null)), (59, (.ifCond .eq 7, 62, 66, 0, 0, .null)), (62, (.iconst 1, 63, 0, 0, 0, .int 1)), (63, (.goto 4, 66, 67, 0, 0, .null)), (66, (.iconst 0, 67, 0, 0, 0, .int 0)), (67, (.ireturn, 68, 0, 0, 0, .null))]
/-- AssertionGate$Logout.<init>(LAssertionGate$Message;)V -/
def tb122 : mB := [(0, (.aload_n 0, 1, 0, 0, 0, .null)), (1, (.invokespecial 3, 4, 1000, 1, 99, .null)), (4, (.aload_n 0, 5, 0, 0, 0, .null)), (5, (.aload_n 1, 6, 0, 0, 0, .null)), (6, (.putfield 9, 9, 10, 0, 0, .null)), (9, (.return_, 10, 0, 0, 0, .null))]
/-- AssertionGate$Logout.isFound()Z -/
def tb123 : mB := [(0, (.aload_n 0, 1, 0, 0, 0, .null)), (1, (.aload_n 0, 2, 0, 0, 0, .null)), (2, (.getfield 9, 5, 10, 0, 0, .null)), (5, (.iconst 0, 6, 0, 0, 0, .int 0)), (6, (.ldc 15, 8, 0, 0, 0, .ref 1024)), (8, (.invokevirtual 17, 11, 59, 3, 2, .null)), (11, (.putfield 23, 14, 10, 1, 0, .null)), (14, (.aload_n 0, 15, 0, 0, 0, .null)), (15, (.aload_n 0, 16, 0, 0, 0, .null)), (16, (.getfield 9, 19, 10, 0, 0, .null)), (19, (.iconst 0, 20, 0, 0, 0, .int 0)), (20, (.ldc 26, 22, 0, 0, 0, .ref 1029)), (22, (.invokevirtual 17, 25, 59, 3, 2, .null)), (25, (.putfield 28, 28, 10, 2, 0, .null)), (28, (.aload_n 0, 29, 0, 0, 0, .null)), (29, (.aload_n 0, 30, 0, 0, 0, .null)), (30, (.getfield 9, 33, 10, 0, 0, .null)), (33, (.iconst 0, 34, 0, 0, 0, .int 0)), (34, (.ldc 30, 36, 0, 0, 0, .ref 1016)), (36, (.invokevirtual 32, 39, 58, 3, 2, .null)), (39, (.putfield 35, 42, 10, 3, 0, .null)), (42, (.aload_n 0, 43, 0, 0, 0, .null)), (43, (.getfield 9, 46, 10, 0, 0, .null)), (46, (.iconst 0, 47, 0, 0, 0, .int 0)), (47, (.ldc 37, 49, 0, 0, 0, .ref 1043)), (49, (.invokevirtual 39, 52, 56, 3, 2, .null)), (52, (.ifCond .eq 72, 55, 124, 0, 0, .null)), (55, (.aload_n 0, 56, 0, 0, 0, .null)), (56, (.getfield 9, 59, 10, 0, 0, .null)), (59, (.iconst 0, 60, 0, 0, 0, .int 0)), (60, (.ldc 43, 62, 0, 0, 0, .ref 1023)), (62, (.invokevirtual 45, 65, 72, 3, 2, .null)), (65, (.ifCond .eq 59, 68, 124, 0, 0, .null)), (68, (.aload_n 0, 69, 0, 0, 0, .null)), (69, (.getfield 9, 72, 10, 0, 0, .null)), (72, (.iconst 0, 73, 0, 0, 0, .int 0)), (73, (.ldc 48, 75, 0, 0, 0, .ref 1032)), (75, (.invokevirtual 50, 78, 66, 3, 2, .null)), (78, (.ifCond .eq 46, 81, 124, 0, 0, .null)), (81, (.aload_n 0, 82, 0, 0, 0, .null)), (82, (.getfield 9, 85, 10, 0, 0, .null)), (85, (.aload_n 0, 86, 0, 0, 0, .null)), (86, (.getfield 23, 89, 10, 1, 0, .null)), (89, (.invokevirtual 53, 92, 62, 2, 2, .null)), (92, (.ifCond .eq 32, 95, 124, 0, 0, .null)), (95, (.aload_n 0, 96, 0, 0, 0, .null)), (96, (.getfield 9, 99, 10, 0, 0, .null)), (99, (.aload_n 0, 100, 0, 0, 0, .null)), (100, (.getfield 28, 103, 10, 2, 0, .null)), (103, (.invokevirtual 53, 106, 62, 2, 2, .null)), (106, (.ifCond .eq 18, 109, 124, 0, 0, .null)), (109, (.aload_n 0, 110, 0, 0, 0, .null)), (110, (.getfield 9, 113, 10, 0, 0, .null)), (113, (.iconst 0, 114, 0, 0, 0, .int 0)), (114, (.invokevirtual 57, 117, 76, 2, 2, .null)), (117, (.ifCond .eq 7, 120, 124, 0, 0, .null)), (120, (.iconst 1, 121, 0, 0, 0, .int 1)), (121, (.goto 4, 124, 125, 0, 0, .null)), (124, (.iconst 0, 125, 0, 0, 0, .int 0)), (125, (.ireturn, 126, 0, 0, 0, .null))]
/-- AssertionGateModel.<init>(II)V -/
def tb124 : mB := [(0, (.aload_n 0, 1, 0, 0, 0, .null)), (1, (.invokespecial 1, 4, 1000, 1, 99, .null)), (4, (.aload_n 0, 5, 0, 0, 0, .null)), (5, (.sipush 400, 8, 0, 0, 0, .int 400)), (8, (.newarray .int, 10, 0, 0, 0, .null)), (10, (.putfield 7, 13, 11, 3, 0, .null)), (13, (.aload_n 0, 14, 0, 0, 0, .null)), (14, (.sipush 400, 17, 0, 0, 0, .int 400)), (17, (.newarray .int, 19, 0, 0, 0, .null)), (19, (.putfield 13, 22, 11, 5, 0, .null)), (22, (.aload_n 0, 23, 0, 0, 0, .null)), (23, (.iconst 4, 24, 0, 0, 0, .int 4)), (24, (.newarray .int, 26, 0, 0, 0, .null)), (26, (.putfield 16, 29, 11, 7, 0, .null)), (29, (.aload_n 0, 30, 0, 0, 0, .null)), (30, (.iconst 4, 31, 0, 0, 0, .int 4)), (31, (.newarray .int, 33, 0, 0, 0, .null)), (33, (.putfield 19, 36, 11, 8, 0, .null)), (36, (.aload_n 0, 37, 0, 0, 0, .null)), (37, (.iconst 4, 38, 0, 0, 0, .int 4)), (38, (.newarray .int, 40, 0, 0, 0, .null)), (40, (.putfield 22, 43, 11, 9, 0, .null)), (43, (.aload_n 0, 44, 0, 0, 0, .null)), (44, (.iconst 4, 45, 0, 0, 0, .int 4)), (45, (.newarray .int, 47, 0, 0, 0, .null)), (47, (.putfield 25, 50, 11, 10, 0, .null)), (50, (.aload_n 0, 51, 0, 0, 0, .null)), (51, (.bipush 30, 53, 0, 0, 0, .int 30)), (53, (.newarray .int, 55, 0, 0, 0, .null)), (55, (.putfield 28, 58, 11, 12, 0, .null)), (58, (.aload_n 0, 59, 0, 0, 0, .null)), (59, (.bipush 30, 61, 0, 0, 0, .int 30)), (61, (.newarray .int, 63, 0, 0, 0, .null)), (63, (.putfield 31, 66, 11, 13, 0, .null)), (66, (.aload_n 0, 67, 0, 0, 0, .null)), (67, (.bipush 30, 69, 0, 0, 0, .int 30)), (69, (.newarray .boolean, 71, 2, 0, 0, .null)), (71, (.putfield 34, 74, 11, 14, 0, .null)), (74, (.aload_n 0, 75, 0, 0, 0, .null)), (75, (.bipush 20, 77, 0, 0, 0, .int 20)), (77, (.newarray .int, 79, 0, 0, 0, .null)), (79, (.putfield 38, 82, 11, 16, 0, .null)), (82, (.aload_n 0, 83, 0, 0, 0, .null)), (83, (.bipush 20, 85, 0, 0, 0, .int 20)), (85, (.newarray .long, 87, 3, 0, 0, .null)), (87, (.putfield 41, 90, 11, 17, 0, .null)), (90, (.aload_n 0, 91, 0, 0, 0, .null)), (91, (.bipush 20, 93, 0, 0, 0, .int 20)), (93, (.newarray .boolean, 95, 2, 0, 0, .null)), (95, (.putfield 45, 98, 11, 18, 0, .null)), (98, (.aload_n 0, 99, 0, 0, 0, .null)), (99, (.bipush 40, 101, 0, 0, 0, .int 40)), (101, (.newarray .long, 103, 3, 0, 0, .null)), (103, (.putfield 48, 106, 11, 20, 0, .null)), (106, (.aload_n 0, 107, 0, 0, 0, .null)), (107, (.bipush 20, 109, 0, 0, 0, .int 20)), (109, (.newarray .long, 111, 3, 0, 0, .null)), (111, (.putfield 51, 114, 11, 23, 0, .null)), (114, (.aload_n 0, 115, 0, 0, 0, .null)), (115, (.bipush 20, 117, 0, 0, 0, .int 20)), (117, (.newarray .int, 119, 0, 0, 0, .null)), (119, (.putfield 54, 122, 11, 24, 0, .null)), (122, (.aload_n 0, 123, 0, 0, 0, .null)), (123, (.bipush 20, 125, 0, 0, 0, .int 20)), (125, (.newarray .int, 127, 0, 0, 0, .null)), (127, (.putfield 57, 130, 11, 25, 0, .null)), (130, (.aload_n 0, 131, 0, 0, 0, .null)), (131, (.bipush 20, 133, 0, 0, 0, .int 20)), (133, (.newarray .int, 135, 0, 0, 0, .null)), (135, (.putfield 60, 138, 11, 26, 0, .null)), (138, (.aload_n 0, 139, 0, 0, 0, .null)), (139, (.bipush 20, 141, 0, 0, 0, .int 20)), (141, (.newarray .int, 143, 0, 0, 0, .null)), (143, (.putfield 63, 146, 11, 27, 0, .null)), (146, (.aload_n 0, 147, 0, 0, 0, .null)), (147, (.bipush 20, 149, 0, 0, 0, .int 20)), (149, (.newarray .int, 151, 0, 0, 0, .null)), (151, (.putfield 66, 154, 11, 28, 0, .null)), (154, (.aload_n 0, 155, 0, 0, 0, .null)), (155, (.bipush 20, 157, 0, 0, 0, .int 20)), (157, (.newarray .boolean, 159, 2, 0, 0, .null)), (159, (.putfield 69, 162, 11, 29, 0, .null)), (162, (.aload_n 0, 163, 0, 0, 0, .null)), (163, (.bipush 20, 165, 0, 0, 0, .int 20)), (165, (.newarray .int, 167, 0, 0, 0, .null)), (167, (.putfield 72, 170, 11, 30, 0, .null)), (170, (.aload_n 0, 171, 0, 0, 0, .null)), (171, (.bipush 80, 173, 0, 0, 0, .int 80)), (173, (.newarray .long, 175, 3, 0, 0, .null)), (175, (.putfield 75, 178, 11, 31, 0, .null)), (178, (.aload_n 0, 179, 0, 0, 0, .null)), (179, (.bipush 80, 181, 0, 0, 0, .int 80)), (181, (.newarray .int, 183, 0, 0, 0, .null)), (183, (.putfield 78, 186, 11, 32, 0, .null)), (186, (.aload_n 0, 187, 0, 0, 0, .null)), (187, (.bipush 80, 189, 0, 0, 0, .int 80)), (189, (.newarray .int, 191, 0, 0, 0, .null)), (191, (.putfield 81, 194, 11, 33, 0, .null)), (194, (.aload_n 0, 195, 0, 0, 0, .null)), (195, (.iload_n 1, 196, 0, 0, 0, .null)), (196, (.ifCond .lt 13, 199, 209, 0, 0, .null)), (199, (.iload_n 1, 200, 0, 0, 0, .null)), (200, (.bipush 100, 202, 0, 0, 0, .int 100)), (202, (.if_icmp .gt 7, 205, 209, 0, 0, .null)), (205, (.iload_n 1, 206, 0, 0, 0, .null)), (206, (.goto 4, 209, 210, 0, 0, .null)), (209, (.iconst 0, 210, 0, 0, 0, .int 0)), (210, (.putfield 84, 213, 11, 0, 0, .null)), (213, (.aload_n 0, 214, 0, 0, 0, .null)), (214, (.iload_n 2, 215, 0, 0, 0, .null)), (215, (.iconst 1, 216, 0, 0, 0, .int 1)), (216, (.if_icmp .lt 14, 219, 230, 0, 0, .null)), (219, (.iload_n 2, 220, 0, 0, 0, .null)), (220, (.sipush 1000, 223, 0, 0, 0, .int 1000)), (223, (.if_icmp .gt 7, 226, 230, 0, 0, .null)), (226, (.iload_n 2, 227, 0, 0, 0, .null)), (227, (.goto 5, 230, 232, 0, 0, .null)), (230, (.bipush 100, 232, 0, 0, 0, .int 100)), (232, (.putfield 88, 235, 11, 1, 0, .null)), (235, (.return_, 236, 0, 0, 0, .null))]
/-- AssertionGateModel.issuer(I)Z -/
def tb125 : mB := [(0, (.iload_n 0, 1, 0, 0, 0, .null)), (1, (.ifCond .lt 12, 4, 13, 0, 0, .null)), (4, (.iload_n 0, 5, 0, 0, 0, .null)), (5, (.iconst 3, 6, 0, 0, 0, .int 3)), (6, (.if_icmp .gt 7, 9, 13, 0, 0, .null)), (9, (.iconst 1, 10, 0, 0, 0, .int 1)), (10, (.goto 4, 13, 14, 0, 0, .null)), (13, (.iconst 0, 14, 0, 0, 0, .int 0)), (14, (.ireturn, 15, 0, 0, 0, .null))]
/-- AssertionGateModel.numbers(II)Z -/
def tb126 : mB := [(0, (.iload_n 0, 1, 0, 0, 0, .null)), (1, (.ldc 91, 3, 0, 0, 0, .int 65521)), (3, (.if_icmp .lt 24, 6, 27, 0, 0, .null)), (6, (.iload_n 0, 7, 0, 0, 0, .null)), (7, (.ldc 92, 9, 0, 0, 0, .int 1000000)), (9, (.if_icmp .gt 18, 12, 27, 0, 0, .null)), (12, (.iload_n 1, 13, 0, 0, 0, .null)), (13, (.iconst 1, 14, 0, 0, 0, .int 1)), (14, (.if_icmp .lt 13, 17, 27, 0, 0, .null)), (17, (.iload_n 1, 18, 0, 0, 0, .null)), (18, (.ldc 92, 20, 0, 0, 0, .int 1000000)), (20, (.if_icmp .gt 7, 23, 27, 0, 0, .null)), (23, (.iconst 1, 24, 0, 0, 0, .int 1)), (24, (.goto 4, 27, 28, 0, 0, .null)), (27, (.iconst 0, 28, 0, 0, 0, .int 0)), (28, (.ireturn, 29, 0, 0, 0, .null))]
/-- AssertionGateModel.trust(III)Z -/
def tb127 : mB := [(0, (.iload_n 1, 1, 0, 0, 0, .null)), (1, (.invokestatic 93, 4, 125, 1, 99, .null)), (4, (.ifCond .eq 11, 7, 15, 0, 0, .null)), (7, (.iload_n 2, 8, 0, 0, 0, .null)), (8, (.iload_n 3, 9, 0, 0, 0, .null)), (9, (.invokestatic 97, 12, 126, 2, 99, .null)), (12, (.ifCond .ne 5, 15, 17, 0, 0, .null)), (15, (.iconst 0, 16, 0, 0, 0, .int 0)), (16, (.ireturn, 17, 0, 0, 0, .null)), (17, (.aload_n 0, 18, 0, 0, 0, .null)), (18, (.getfield 16, 21, 11, 7, 0, .null)), (21, (.iload_n 1, 22, 0, 0, 0, .null)), (22, (.iload_n 2, 23, 0, 0, 0, .null)), (23, (.iastore, 24, 0, 0, 0, .null)), (24, (.aload_n 0, 25, 0, 0, 0, .null)), (25, (.getfield 19, 28, 11, 8, 0, .null)), (28, (.iload_n 1, 29, 0, 0, 0, .null)), (29, (.iload_n 3, 30, 0, 0, 0, .null)), (30, (.iastore, 31, 0, 0, 0, .null)), (31, (.iconst 1, 32, 0, 0, 0, .int 1)), (32, (.ireturn, 33, 0, 0, 0, .null))]
/-- AssertionGateModel.key(III)Z -/
def tb128 : mB := [(0, (.iload_n 1, 1, 0, 0, 0, .null)), (1, (.invokestatic 93, 4, 125, 1, 99, .null)), (4, (.ifCond .eq 11, 7, 15, 0, 0, .null)), (7, (.iload_n 2, 8, 0, 0, 0, .null)), (8, (.iload_n 3, 9, 0, 0, 0, .null)), (9, (.invokestatic 97, 12, 126, 2, 99, .null)), (12, (.ifCond .ne 5, 15, 17, 0, 0, .null)), (15, (.iconst 0, 16, 0, 0, 0, .int 0)), (16, (.ireturn, 17, 0, 0, 0, .null)), (17, (.aload_n 0, 18, 0, 0, 0, .null)), (18, (.getfield 22, 21, 11, 9, 0, .null)), (21, (.iload_n 1, 22, 0, 0, 0, .null)), (22, (.iload_n 2, 23, 0, 0, 0, .null)), (23, (.iastore, 24, 0, 0, 0, .null)), (24, (.aload_n 0, 25, 0, 0, 0, .null)), (25, (.getfield 25, 28, 11, 10, 0, .null)), (28, (.iload_n 1, 29, 0, 0, 0, .null)), (29, (.iload_n 3, 30, 0, 0, 0, .null)), (30, (.iastore, 31, 0, 0, 0, .null)), (31, (.iconst 1, 32, 0, 0, 0, .int 1)), (32, (.ireturn, 33, 0, 0, 0, .null))]
/-- AssertionGateModel.pass(I)Z -/
def tb129 : mB := [(0, (.iload_n 1, 1, 0, 0, 0, .null)), (1, (.ifCond .lt 10, 4, 11, 0, 0, .null)), (4, (.iload_n 1, 5, 0, 0, 0, .null)), (5, (.sipush 1000, 8, 0, 0, 0, .int 1000)), (8, (.if_icmp .le 5, 11, 13, 0, 0, .null)), (11, (.iconst 0, 12, 0, 0, 0, .int 0)), (12, (.ireturn, 13, 0, 0, 0, .null)), (13, (.aload_n 0, 14, 0, 0, 0, .null)), (14, (.dup, 15, 0, 0, 0, .null)), (15, (.getfield 101, 18, 11, 2, 0, .null)), (18, (.iload_n 1, 19, 0, 0, 0, .null)), (19, (.iadd, 20, 0, 0, 0, .null)), (20, (.putfield 101, 23, 11, 2, 0, .null)), (23, (.iconst 1, 24, 0, 0, 0, .int 1)), (24, (.ireturn, 25, 0, 0, 0, .null))]
/-- AssertionGateModel.request(I)I -/
def tb130 : mB := [(0, (.iload_n 1, 1, 0, 0, 0, .null)), (1, (.invokestatic 93, 4, 125, 1, 99, .null)), (4, (.ifCond .eq 12, 7, 16, 0, 0, .null)), (7, (.aload_n 0, 8, 0, 0, 0, .null)), (8, (.getfield 104, 11, 11, 11, 0, .null)), (11, (.bipush 30, 13, 0, 0, 0, .int 30)), (13, (.if_icmp .lt 5, 16, 18, 0, 0, .null)), (16, (.iconst (-1), 17, 0, 0, 0, .int (-1))), (17, (.ireturn, 18, 0, 0, 0, .null)), (18, (.aload_n 0, 19, 0, 0, 0, .null)), (19, (.getfield 28, 22, 11, 12, 0, .null)), (22, (.aload_n 0, 23, 0, 0, 0, .null)), (23, (.getfield 104, 26, 11, 11, 0, .null)), (26, (.aload_n 0, 27, 0, 0, 0, .null)), (27, (.getfield 101, 30, 11, 2, 0, .null)), (30, (.iastore, 31, 0, 0, 0, .null)), (31, (.aload_n 0, 32, 0, 0, 0, .null)), (32, (.getfield 31, 35, 11, 13, 0, .null)), (35, (.aload_n 0, 36, 0, 0, 0, .null)), (36, (.getfield 104, 39, 11, 11, 0, .null)), (39, (.iload_n 1, 40, 0, 0, 0, .null)), (40, (.iastore, 41, 0, 0, 0, .null)), (41, (.aload_n 0, 42, 0, 0, 0, .null)), (42, (.dup, 43, 0, 0, 0, .null)), (43, (.getfield 104, 46, 11, 11, 0, .null)), (46, (.iconst 1, 47, 0, 0, 0, .int 1)), (47, (.iadd, 48, 0, 0, 0, .null)), (48, (.putfield 104, 51, 11, 11, 0, .null)), (51, (.aload_n 0, 52, 0, 0, 0, .null)), (52, (.getfield 104, 55, 11, 11, 0, .null)), (55, (.iconst 1, 56, 0, 0, 0, .int 1)), (56, (.isub, 57, 0, 0, 0, .null)), (57, (.ireturn, 58, 0, 0, 0, .null))]
/-- AssertionGateModel.waits(I)Z -/
def tb131 : mB := [(0, (.iload_n 1, 1, 0, 0, 0, .null)), (1, (.ifCond .lt 42, 4, 43, 0, 0, .null)), (4, (.iload_n 1, 5, 0, 0, 0, .null)), (5, (.aload_n 0, 6, 0, 0, 0, .null)), (6, (.getfield 104, 9, 11, 11, 0, .null)), (9, (.if_icmp .ge 34, 12, 43, 0, 0, .null)), (12, (.aload_n 0, 13, 0, 0, 0, .null)), (13, (.getfield 34, 16, 11, 14, 0, .null)), (16, (.iload_n 1, 17, 0, 0, 0, .null)), (17, (.baload, 18, 0, 0, 0, .null)), (18, (.ifCond .ne 25, 21, 43, 0, 0, .null)), (21, (.aload_n 0, 22, 0, 0, 0, .null)), (22, (.getfield 101, 25, 11, 2, 0, .null)), (25, (.aload_n 0, 26, 0, 0, 0, .null)), (26, (.getfield 28, 29, 11, 12, 0, .null)), (29, (.iload_n 1, 30, 0, 0, 0, .null)), (30, (.iaload, 31, 0, 0, 0, .null)), (31, (.aload_n 0, 32, 0, 0, 0, .null)), (32, (.getfield 88, 35, 11, 1, 0, .null)), (35, (.iadd, 36, 0, 0, 0, .null)), (36, (.if_icmp .ge 7, 39, 43, 0, 0, .null)), (39, (.iconst 1, 40, 0, 0, 0, .int 1)), (40, (.goto 4, 43, 44, 0, 0, .null)), (43, (.iconst 0, 44, 0, 0, 0, .int 0)), (44, (.ireturn, 45, 0, 0, 0, .null))]
/-- AssertionGateModel.outstanding()I -/
def tb132 : mB := [(0, (.iconst 0, 1, 0, 0, 0, .int 0)), (1, (.istore_n 1, 2, 0, 0, 0, .null)), (2, (.iconst 0, 3, 0, 0, 0, .int 0)), (3, (.istore_n 2, 4, 0, 0, 0, .null)), (4, (.iload_n 2, 5, 0, 0, 0, .null)), (5, (.aload_n 0, 6, 0, 0, 0, .null)), (6, (.getfield 104, 9, 11, 11, 0, .null)), (9, (.if_icmp .ge 25, 12, 34, 0, 0, .null)), (12, (.iload_n 1, 13, 0, 0, 0, .null)), (13, (.aload_n 0, 14, 0, 0, 0, .null)), (14, (.iload_n 2, 15, 0, 0, 0, .null)), (15, (.invokevirtual 107, 18, 131, 2, 11, .null)), (18, (.ifCond .eq 7, 21, 25, 0, 0, .null)), (21, (.iconst 1, 22, 0, 0, 0, .int 1)), (22, (.goto 4, 25, 26, 0, 0, .null)), (25, (.iconst 0, 26, 0, 0, 0, .int 0)), (26, (.iadd, 27, 0, 0, 0, .null)), (27, (.istore_n 1, 28, 0, 0, 0, .null)), (28, (.iinc 2 1, 31, 0, 0, 0, .int 1)), (31, (.goto (-27), 34, 4, 0, 0, .null)), (34, (.iload_n 1, 35, 0, 0, 0, .null)), (35, (.ireturn, 36, 0, 0, 0, .null))]
/-- AssertionGateModel.power(III)I -/
def tb133 : mB := [(0, (.iconst 1, 1, 0, 0, 0, .int 1)), (1, (.iload_n 2, 2, 0, 0, 0, .null)), (2, (.irem, 3, 0, 0, 0, .null)), (3, (.i2l, 4, 0, 0, 0, .null)), (4, (.lstore_n 3, 5, 0, 0, 0, .null)), (5, (.ldc 92, 7, 0, 0, 0, .int 1000000)), (7, (.istore 5, 9, 0, 0, 0, .null)), (9, (.iload 5, 11, 0, 0, 0, .null)), (11, (.ifCond .le 78, 14, 89, 0, 0, .null)), (14, (.lload_n 3, 15, 0, 0, 0, .null)), (15, (.lload_n 3, 16, 0, 0, 0, .null)), (16, (.lmul, 17, 0, 0, 0, .null)), (17, (.iload_n 2, 18, 0, 0, 0, .null)), (18, (.i2l, 19, 0, 0, 0, .null)), (19, (.lrem, 20, 0, 0, 0, .null)), (20, (.lstore 6, 22, 0, 0, 0, .null)), (22, (.lload 6, 24, 0, 0, 0, .null)), (24, (.lload 6, 26, 0, 0, 0, .null)), (26, (.lmul, 27, 0, 0, 0, .null)), (27, (.iload_n 2, 28, 0, 0, 0, .null)), (28, (.i2l, 29, 0, 0, 0, .null)), (29, (.lrem, 30, 0, 0, 0, .null)), (30, (.lstore 8, 32, 0, 0, 0, .null)), (32, (.lload 8, 34, 0, 0, 0, .null)), (34, (.lload 8, 36, 0, 0, 0, .null)), (36, (.lmul, 37, 0, 0, 0, .null)), (37, (.iload_n 2, 38, 0, 0, 0, .null)), (38, (.i2l, 39, 0, 0, 0, .null)), (39, (.lrem, 40, 0, 0, 0, .null)), (40, (.lstore 10, 42, 0, 0, 0, .null)), (42, (.lload 10, 44, 0, 0, 0, .null)), (44, (.lload 6, 46, 0, 0, 0, .null)), (46, (.lmul, 47, 0, 0, 0, .null)), (47, (.iload_n 2, 48, 0, 0, 0, .null)), (48, (.i2l, 49, 0, 0, 0, .null)), (49, (.lrem, 50, 0, 0, 0, .null)), (50, (.lstore_n 3, 51, 0, 0, 0, .null)), (51, (.iload_n 1, 52, 0, 0, 0, .null)), (52, (.iload 5, 54, 0, 0, 0, .null)), (54, (.idiv, 55, 0, 0, 0, .null)), (55, (.bipush 10, 57, 0, 0, 0, .int 10)), (57, (.irem, 58, 0, 0, 0, .null)), (58, (.istore 12, 60, 0, 0, 0, .null)), (60, (.iload 12, 62, 0, 0, 0, .null)), (62, (.ifCond .le 17, 65, 79, 0, 0, .null)), (65, (.lload_n 3, 66, 0, 0, 0, .null)), (66, (.iload_n 0, 67, 0, 0, 0, .null)), (67, (.i2l, 68, 0, 0, 0, .null)), (68, (.lmul, 69, 0, 0, 0, .null)), (69, (.iload_n 2, 70, 0, 0, 0, .null)), (70, (.i2l, 71, 0, 0, 0, .null)), (71, (.lrem, 72, 0, 0, 0, .null)), (72, (.lstore_n 3, 73, 0, 0, 0, .null)), (73, (.iinc 12 (-1), 76, 0, 0, 0, .int (-1))), (76, (.goto (-16), 79, 60, 0, 0, .null)), (79, (.iload 5, 81, 0, 0, 0, .null)), (81, (.bipush 10, 83, 0, 0, 0, .int 10)), (83, (.idiv, 84, 0, 0, 0, .null)), (84, (.istore 5, 86, 0, 0, 0, .null)), (86, (.goto (-77), 89, 9, 0, 0, .null)), (89, (.lload_n 3, 90, 0, 0, 0, .null)), (90, (.l2i, 91, 0, 0, 0, .null)), (91, (.ireturn, 92, 0, 0, 0, .null))]
/-- AssertionGateModel.printable(I)Z -/
def tb134 : mB := [(0, (.iload_n 0, 1, 0, 0, 0, .null)), (1, (.bipush 32, 3, 0, 0, 0, .int 32)), (3, (.if_icmp .lt 13, 6, 16, 0, 0, .null)), (6, (.iload_n 0, 7, 0, 0, 0, .null)), (7, (.bipush 126, 9, 0, 0, 0, .int 126)), (9, (.if_icmp .gt 7, 12, 16, 0, 0, .null)), (12, (.iconst 1, 13, 0, 0, 0, .int 1)), (13, (.goto 4, 16, 17, 0, 0, .null)), (16, (.iconst 0, 17, 0, 0, 0, .int 0)), (17, (.ireturn, 18, 0, 0, 0, .null))]
/-- AssertionGateModel.write(C)Z -/
def tb135 : mB := [(0, (.iload_n 1, 1, 0, 0, 0, .null)), (1, (.invokestatic 110, 4, 134, 1, 99, .null)), (4, (.ifCond .eq 13, 7, 17, 0, 0, .null)), (7, (.aload_n 0, 8, 0, 0, 0, .null)), (8, (.getfield 113, 11, 11, 4, 0, .null)), (11, (.sipush 400, 14, 0, 0, 0, .int 400)), (14, (.if_icmp .lt 5, 17, 19, 0, 0, .null)), (17, (.iconst 0, 18, 0, 0, 0, .int 0)), (18, (.ireturn, 19, 0, 0, 0, .null)), (19, (.aload_n 0, 20, 0, 0, 0, .null)), (20, (.getfield 7, 23, 11, 3, 0, .null)), (23, (.aload_n 0, 24, 0, 0, 0, .null)), (24, (.getfield 113, 27, 11, 4, 0, .null)), (27, (.iload_n 1, 28, 0, 0, 0, .null)), (28, (.iastore, 29, 0, 0, 0, .null)), (29, (.aload_n 0, 30, 0, 0, 0, .null)), (30, (.dup, 31, 0, 0, 0, .null)), (31, (.getfield 113, 34, 11, 4, 0, .null)), (34, (.iconst 1, 35, 0, 0, 0, .int 1)), (35, (.iadd, 36, 0, 0, 0, .null)), (36, (.putfield 113, 39, 11, 4, 0, .null)), (39, (.iconst 1, 40, 0, 0, 0, .int 1)), (40, (.ireturn, 41, 0, 0, 0, .null))]
/-- AssertionGateModel.set(IC)Z -/
def tb136 : mB := [(0, (.iload_n 1, 1, 0, 0, 0, .null)), (1, (.ifCond .lt 18, 4, 19, 0, 0, .null)), (4, (.iload_n 1, 5, 0, 0, 0, .null)), (5, (.aload_n 0, 6, 0, 0, 0, .null)), (6, (.getfield 113, 9, 11, 4, 0, .null)), (9, (.if_icmp .ge 10, 12, 19, 0, 0, .null)), (12, (.iload_n 2, 13, 0, 0, 0, .null)), (13, (.invokestatic 110, 16, 134, 1, 99, .null)), (16, (.ifCond .ne 5, 19, 21, 0, 0, .null)), (19, (.iconst 0, 20, 0, 0, 0, .int 0)), (20, (.ireturn, 21, 0, 0, 0, .null)), (21, (.aload_n 0, 22, 0, 0, 0, .null)), (22, (.getfield 7, 25, 11, 3, 0, .null)), (25, (.iload_n 1, 26, 0, 0, 0, .null)), (26, (.iload_n 2, 27, 0, 0, 0, .null)), (27, (.iastore, 28, 0, 0, 0, .null)), (28, (.iconst 1, 29, 0, 0, 0, .int 1)), (29, (.ireturn, 30, 0, 0, 0, .null))]
/-- AssertionGateModel.cut(II)Z -/
def tb137 : mB := [(0, (.iload_n 1, 1, 0, 0, 0, .null)), (1, (.ifCond .lt 16, 4, 17, 0, 0, .null)), (4, (.iload_n 1, 5, 0, 0, 0, .null)), (5, (.iload_n 2, 6, 0, 0, 0, .null)), (6, (.if_icmp .gt 11, 9, 17, 0, 0, .null)), (9, (.iload_n 2, 10, 0, 0, 0, .null)), (10, (.aload_n 0, 11, 0, 0, 0, .null)), (11, (.getfield 113, 14, 11, 4, 0, .null)), (14, (.if_icmp .le 5, 17, 19, 0, 0, .null)), (17, (.iconst 0, 18, 0, 0, 0, .int 0)), (18, (.ireturn, 19, 0, 0, 0, .null)), (19, (.aload_n 0, 20, 0, 0, 0, .null)), (20, (.iload_n 2, 21, 0, 0, 0, .null)), (21, (.iload_n 1, 22, 0, 0, 0, .null)), (22, (.isub, 23, 0, 0, 0, .null)), (23, (.putfield 116, 26, 11, 6, 0, .null)), (26, (.iconst 0, 27, 0, 0, 0, .int 0)), (27, (.istore_n 3, 28, 0, 0, 0, .null)), (28, (.iload_n 3, 29, 0, 0, 0, .null)), (29, (.aload_n 0, 30, 0, 0, 0, .null)), (30, (.getfield 116, 33, 11, 6, 0, .null)), (33, (.if_icmp .ge 23, 36, 56, 0, 0, .null)), (36, (.aload_n 0, 37, 0, 0, 0, .null)), (37, (.getfield 13, 40, 11, 5, 0, .null)), (40, (.iload_n 3, 41, 0, 0, 0, .null)), (41, (.aload_n 0, 42, 0, 0, 0, .null)), (42, (.getfield 7, 45, 11, 3, 0, .null)), (45, (.iload_n 1, 46, 0, 0, 0, .null)), (46, (.iload_n 3, 47, 0, 0, 0, .null)), (47, (.iadd, 48, 0, 0, 0, .null)), (48, (.iaload, 49, 0, 0, 0, .null)), (49, (.iastore, 50, 0, 0, 0, .null)), (50, (.iinc 3 1, 53, 0, 0, 0, .int 1)), (53, (.goto (-25), 56, 28, 0, 0, .null)), (56, (.iload_n 2, 57, 0, 0, 0, .null)), (57, (.istore_n 3, 58, 0, 0, 0, .null)), (58, (.iload_n 3, 59, 0, 0, 0, .null)), (59, (.aload_n 0, 60, 0, 0, 0, .null)), (60, (.getfield 113, 63, 11, 4, 0, .null)), (63, (.if_icmp .ge 26, 66, 89, 0, 0, .null)), (66, (.aload_n 0, 67, 0, 0, 0, .null)), (67, (.getfield 7, 70, 11, 3, 0, .null)), (70, (.iload_n 3, 71, 0, 0, 0, .null)), (71, (.aload_n 0, 72, 0, 0, 0, .null)), (72, (.getfield 116, 75, 11, 6, 0, .null)), (75, (.isub, 76, 0, 0, 0, .null)), (76, (.aload_n 0, 77, 0, 0, 0, .null)), (77, (.getfield 7, 80, 11, 3, 0, .null)), (80, (.iload_n 3, 81, 0, 0, 0, .null)), (81, (.iaload, 82, 0, 0, 0, .null)), (82, (.iastore, 83, 0, 0, 0, .null)), (83, (.iinc 3 1, 86, 0, 0, 0, .int 1)), (86, (.goto (-28), 89, 58, 0, 0, .null)), (89, (.aload_n 0, 90, 0, 0, 0, .null)), (90, (.dup, 91, 0, 0, 0, .null)), (91, (.getfield 113, 94, 11, 4, 0, .null)), (94, (.aload_n 0, 95, 0, 0, 0, .null)), (95, (.getfield 116, 98, 11, 6, 0, .null)), (98, (.isub, 99, 0, 0, 0, .null)), (99, (.putfield 113, 102, 11, 4, 0, .null)), (102, (.iconst 1, 103, 0, 0, 0, .int 1)), (103, (.ireturn, 104, 0, 0, 0, .null))]
/-- AssertionGateModel.paste(I)Z -/
def tb138 : mB := [(0, (.iload_n 1, 1, 0, 0, 0, .null)), (1, (.ifCond .lt 26, 4, 27, 0, 0, .null)), (4, (.iload_n 1, 5, 0, 0, 0, .null)), (5, (.aload_n 0, 6, 0, 0, 0, .null)), (6, (.getfield 113, 9, 11, 4, 0, .null)), (9, (.if_icmp .gt 18, 12, 27, 0, 0, .null)), (12, (.aload_n 0, 13, 0, 0, 0, .null)), (13, (.getfield 113, 16, 11, 4, 0, .null)), (16, (.aload_n 0, 17, 0, 0, 0, .null)), (17, (.getfield 116, 20, 11, 6, 0, .null)), (20, (.iadd, 21, 0, 0, 0, .null)), (21, (.sipush 400, 24, 0, 0, 0, .int 400)), (24, (.if_icmp .le 5, 27, 29, 0, 0, .null)), (27, (.iconst 0, 28, 0, 0, 0, .int 0)), (28, (.ireturn, 29, 0, 0, 0, .null)), (29, (.aload_n 0, 30, 0, 0, 0, .null)), (30, (.getfield 113, 33, 11, 4, 0, .null)), (33, (.iconst 1, 34, 0, 0, 0, .int 1)), (34, (.isub, 35, 0, 0, 0, .null)), (35, (.istore_n 2, 36, 0, 0, 0, .null)), (36, (.iload_n 2, 37, 0, 0, 0, .null)), (37, (.iload_n 1, 38, 0, 0, 0, .null)), (38, (.if_icmp .lt 26, 41, 64, 0, 0, .null)), (41, (.aload_n 0, 42, 0, 0, 0, .null)), (42, (.getfield 7, 45, 11, 3, 0, .null)), (45, (.iload_n 2, 46, 0, 0, 0, .null)), (46, (.aload_n 0, 47, 0, 0, 0, .null)), (47, (.getfield 116, 50, 11, 6, 0, .null)), (50, (.iadd, 51, 0, 0, 0, .null)), (51, (.aload_n 0, 52, 0, 0, 0, .null)), (52, (.getfield 7, 55, 11, 3, 0, .null)), (55, (.iload_n 2, 56, 0, 0, 0, .null)), (56, (.iaload, 57, 0, 0, 0, .null)), (57, (.iastore, 58, 0, 0, 0, .null)), (58, (.iinc 2 (-1), 61, 0, 0, 0, .int (-1))), (61, (.goto (-25), 64, 36, 0, 0, .null)), (64, (.iconst 0, 65, 0, 0, 0, .int 0)), (65, (.istore_n 2, 66, 0, 0, 0, .null)), (66, (.iload_n 2, 67, 0, 0, 0, .null)), (67, (.aload_n 0, 68, 0, 0, 0, .null)), (68, (.getfield 116, 71, 11, 6, 0, .null)), (71, (.if_icmp .ge 23, 74, 94, 0, 0, .null)), (74, (.aload_n 0, 75, 0, 0, 0, .null)), (75, (.getfield 7, 78, 11, 3, 0, .null)), (78, (.iload_n 1, 79, 0, 0, 0, .null)), (79, (.iload_n 2, 80, 0, 0, 0, .null)), (80, (.iadd, 81, 0, 0, 0, .null)), (81, (.aload_n 0, 82, 0, 0, 0, .null)), (82, (.getfield 13, 85, 11, 5, 0, .null)), (85, (.iload_n 2, 86, 0, 0, 0, .null)), (86, (.iaload, 87, 0, 0, 0, .null)), (87, (.iastore, 88, 0, 0, 0, .null)), (88, (.iinc 2 1, 91, 0, 0, 0, .int 1)), (91, (.goto (-25), 94, 66, 0, 0, .null)), (94, (.aload_n 0, 95, 0, 0, 0, .null)), (95, (.dup, 96, 0, 0, 0, .null)), (96, (.getfield 113, 99, 11, 4, 0, .null)), (99, (.aload_n 0, 100, 0, 0, 0, .null)), (100, (.getfield 116, 103, 11, 6, 0, .null)), (103, (.iadd, 104, 0, 0, 0, .null)), (104, (.putfield 113, 107, 11, 4, 0, .null)), (107, (.iconst 1, 108, 0, 0, 0, .int 1)), (108, (.ireturn, 109, 0, 0, 0, .null))]
/-- AssertionGateModel.clear()V -/
def tb139 : mB := [(0, (.aload_n 0, 1, 0, 0, 0, .null)), (1, (.iconst 0, 2, 0, 0, 0, .int 0)), (2, (.putfield 113, 5, 11, 4, 0, .null)), (5, (.return_, 6, 0, 0, 0, .null))]
/-- AssertionGateModel.length()I -/
def tb140 : mB := [(0, (.aload_n 0, 1, 0, 0, 0, .null)), (1, (.getfield 113, 4, 11, 4, 0, .null)), (4, (.ireturn, 5, 0, 0, 0, .null))]
/-- AssertionGateModel.at(I)I -/
def tb141 : mB := [(0, (.iload_n 1, 1, 0, 0, 0, .null)), (1, (.ifCond .lt 20, 4, 21, 0, 0, .null)), (4, (.iload_n 1, 5, 0, 0, 0, .null)), (5, (.aload_n 0, 6, 0, 0, 0, .null)), (6, (.getfield 113, 9, 11, 4, 0, .null)), (9, (.if_icmp .ge 12, 12, 21, 0, 0, .null)), (12, (.aload_n 0, 13, 0, 0, 0, .null)), (13, (.getfield 7, 16, 11, 3, 0, .null)), (16, (.iload_n 1, 17, 0, 0, 0, .null)), (17, (.iaload, 18, 0, 0, 0, .null)), (18, (.goto 4, 21, 22, 0, 0, .null)), (21, (.iconst (-1), 22, 0, 0, 0, .int (-1))), (22, (.ireturn, 23, 0, 0, 0, .null))]
/-- AssertionGateModel.dashes(I)Z -/
def tb142 : mB := [(0, (.aload_n 0, 1, 0, 0, 0, .null)), (1, (.iload_n 1, 2, 0, 0, 0, .null)), (2, (.invokevirtual 119, 5, 141, 2, 11, .null)), (5, (.bipush 45, 7, 0, 0, 0, .int 45)), (7, (.if_icmp .ne 19, 10, 26, 0, 0, .null)), (10, (.aload_n 0, 11, 0, 0, 0, .null)), (11, (.iload_n 1, 12, 0, 0, 0, .null)), (12, (.iconst 1, 13, 0, 0, 0, .int 1)), (13, (.iadd, 14, 0, 0, 0, .null)), (14, (.invokevirtual 119, 17, 141, 2, 11, .null)), (17, (.bipush 45, 19, 0, 0, 0, .int 45)), (19, (.if_icmp .ne 7, 22, 26, 0, 0, .null)), (22, (.iconst 1, 23, 0, 0, 0, .int 1)), (23, (.goto 4, 26, 27, 0, 0, .null)), (26, (.iconst 0, 27, 0, 0, 0, .int 0)), (27, (.ireturn, 28, 0, 0, 0, .null))]
/-- AssertionGateModel.banned()Z -/
def tb143 : mB := [(0, (.iconst 0, 1, 0, 0, 0, .int 0)), (1, (.istore_n 1, 2, 0, 0, 0, .null)), (2, (.iconst 0, 3, 0, 0, 0, .int 0)), (3, (.istore_n 2, 4, 0, 0, 0, .null)), (4, (.iload_n 2, 5, 0, 0, 0, .null)), (5, (.aload_n 0, 6, 0, 0, 0, .null)), (6, (.getfield 113, 9, 11, 4, 0, .null)), (9, (.if_icmp .ge 85, 12, 94, 0, 0, .null)), (12, (.aload_n 0, 13, 0, 0, 0, .null)), (13, (.getfield 7, 16, 11, 3, 0, .null)), (16, (.iload_n 2, 17, 0, 0, 0, .null)), (17, (.iaload, 18, 0, 0, 0, .null)), (18, (.bipush 60, 20, 0, 0, 0, .int 60)), (20, (.if_icmp .ne 41, 23, 61, 0, 0, .null)), (23, (.aload_n 0, 24, 0, 0, 0, .null)), (24, (.iload_n 2, 25, 0, 0, 0, .null)), (25, (.iconst 1, 26, 0, 0, 0, .int 1)), (26, (.iadd, 27, 0, 0, 0, .null)), (27, (.invokevirtual 119, 30, 141, 2, 11, .null)), (30, (.bipush 63, 32, 0, 0, 0, .int 63)), (32, (.if_icmp .eq 25, 35, 57, 0, 0, .null)), (35, (.aload_n 0, 36, 0, 0, 0, .null)), (36, (.iload_n 2, 37, 0, 0, 0, .null)), (37, (.iconst 1, 38, 0, 0, 0, .int 1)), (38, (.iadd, 39, 0, 0, 0, .null)), (39, (.invokevirtual 119, 42, 141, 2, 11, .null)), (42, (.bipush 33, 44, 0, 0, 0, .int 33)), (44, (.if_icmp .ne 17, 47, 61, 0, 0, .null)), (47, (.aload_n 0, 48, 0, 0, 0, .null)), (48, (.iload_n 2, 49, 0, 0, 0, .null)), (49, (.iconst 2, 50, 0, 0, 0, .int 2)), (50, (.iadd, 51, 0, 0, 0, .null)), (51, (.invokevirtual 123, 54, 142, 2, 11, .null)), (54, (.ifCond .ne 7, 57, 61, 0, 0, .null)), (57, (.iconst 1, 58, 0, 0, 0, .int 1)), (58, (.goto 4, 61, 62, 0, 0, .null)), (61, (.iconst 0, 62, 0, 0, 0, .int 0)), (62, (.istore_n 3, 63, 0, 0, 0, .null)), (63, (.iload_n 1, 64, 0, 0, 0, .null)), (64, (.ifCond .ne 18, 67, 82, 0, 0, .null)), (67, (.aload_n 0, 68, 0, 0, 0, .null)), (68, (.getfield 7, 71, 11, 3, 0, .null)), (71, (.iload_n 2, 72, 0, 0, 0, .null)), (72, (.iaload, 73, 0, 0, 0, .null)), (73, (.bipush 38, 75, 0, 0, 0, .int 38)), (75, (.if_icmp .eq 7, 78, 82, 0, 0, .null)), (78, (.iload_n 3, 79, 0, 0, 0, .null)), (79, (.ifCond .eq 7, 82, 86, 0, 0, .null)), (82, (.iconst 1, 83, 0, 0, 0, .int 1)), (83, (.goto 4, 86, 87, 0, 0, .null)), (86, (.iconst 0, 87, 0, 0, 0, .int 0)), (87, (.istore_n 1, 88, 0, 0, 0, .null)), (88, (.iinc 2 1, 91, 0, 0, 0, .int 1)), (91, (.goto (-87), 94, 4, 0, 0, .null)), (94, (.iload_n 1, 95, 0, 0, 0, .null)), (95, (.ireturn, 96, 0, 0, 0, .null))]
/-- AssertionGateModel.letter(I)Z -/
def tb144 : mB := [(0, (.iload_n 0, 1, 0, 0, 0, .null)), (1, (.bipush 97, 3, 0, 0, 0, .int 97)), (3, (.if_icmp .lt 13, 6, 16, 0, 0, .null)), (6, (.iload_n 0, 7, 0, 0, 0, .null)), (7, (.bipush 122, 9, 0, 0, 0, .int 122)), (9, (.if_icmp .gt 7, 12, 16, 0, 0, .null)), (12, (.iconst 1, 13, 0, 0, 0, .int 1)), (13, (.goto 4, 16, 17, 0, 0, .null)), (16, (.iconst 0, 17, 0, 0, 0, .int 0)), (17, (.ireturn, 18, 0, 0, 0, .null))]
/-- AssertionGateModel.nameAt(I)I -/
def tb145 : mB := [(0, (.iload_n 1, 1, 0, 0, 0, .null)), (1, (.istore_n 2, 2, 0, 0, 0, .null)), (2, (.aload_n 0, 3, 0, 0, 0, .null)), (3, (.lconst 0, 4, 0, 0, 0, .long 0)), (4, (.putfield 126, 7, 11, 34, 0, .null)), (7, (.aload_n 0, 8, 0, 0, 0, .null)), (8, (.iconst 0, 9, 0, 0, 0, .int 0)), (9, (.putfield 130, 12, 11, 35, 0, .null)), (12, (.aload_n 0, 13, 0, 0, 0, .null)), (13, (.iload_n 2, 14, 0, 0, 0, .null)), (14, (.invokevirtual 119, 17, 141, 2, 11, .null)), (17, (.invokestatic 133, 20, 144, 1, 99, .null)), (20, (.ifCond .eq 53, 23, 73, 0, 0, .null)), (23, (.aload_n 0, 24, 0, 0, 0, .null)), (24, (.aload_n 0, 25, 0, 0, 0, .null)), (25, (.getfield 130, 28, 11, 35, 0, .null)), (28, (.bipush 6, 30, 0, 0, 0, .int 6)), (30, (.if_icmp .ge 20, 33, 50, 0, 0, .null)), (33, (.aload_n 0, 34, 0, 0, 0, .null)), (34, (.getfield 126, 37, 11, 34, 0, .null)), (37, (.bipush 8, 39, 0, 0, 0, .int 8)), (39, (.lshl, 40, 0, 0, 0, .null)), (40, (.aload_n 0, 41, 0, 0, 0, .null)), (41, (.iload_n 2, 42, 0, 0, 0, .null)), (42, (.invokevirtual 119, 45, 141, 2, 11, .null)), (45, (.i2l, 46, 0, 0, 0, .null)), (46, (.lor, 47, 0, 0, 0, .null)), (47, (.goto 7, 50, 54, 0, 0, .null)), (50, (.aload_n 0, 51, 0, 0, 0, .null)), (51, (.getfield 126, 54, 11, 34, 0, .null)), (54, (.putfield 126, 57, 11, 34, 0, .null)), (57, (.aload_n 0, 58, 0, 0, 0, .null)), (58, (.dup, 59, 0, 0, 0, .null)), (59, (.getfield 130, 62, 11, 35, 0, .null)), (62, (.iconst 1, 63, 0, 0, 0, .int 1)), (63, (.iadd, 64, 0, 0, 0, .null)), (64, (.putfield 130, 67, 11, 35, 0, .null)), (67, (.iinc 2 1, 70, 0, 0, 0, .int 1)), (70, (.goto (-58), 73, 12, 0, 0, .null)), (73, (.aload_n 0, 74, 0, 0, 0, .null)), (74, (.getfield 130, 77, 11, 35, 0, .null)), (77, (.iconst 1, 78, 0, 0, 0, .int 1)), (78, (.if_icmp .lt 12, 81, 90, 0, 0, .null)), (81, (.aload_n 0, 82, 0, 0, 0, .null)), (82, (.getfield 130, 85, 11, 35, 0, .null)), (85, (.bipush 6, 87, 0, 0, 0, .int 6)), (87, (.if_icmp .le 5, 90, 92, 0, 0, .null)), (90, (.iconst (-1), 91, 0, 0, 0, .int (-1))), (91, (.ireturn, 92, 0, 0, 0, .null)), (92, (.aload_n 0, 93, 0, 0, 0, .null)), (93, (.getfield 130, 96, 11, 35, 0, .null)), (96, (.istore_n 3, 97, 0, 0, 0, .null)), (97, (.iload_n 3, 98, 0, 0, 0, .null)), (98, (.bipush 6, 100, 0, 0, 0, .int 6)), (100, (.if_icmp .ge 20, 103, 120, 0, 0, .null)), (103, (.aload_n 0, 104, 0, 0, 0, .null)), (104, (.aload_n 0, 105, 0, 0, 0, .null)), (105, (.getfield 126, 108, 11, 34, 0, .null)), (108, (.bipush 8, 110, 0, 0, 0, .int 8)), (110, (.lshl, 111, 0, 0, 0, .null)), (111, (.putfield 126, 114, 11, 34, 0, .null)), (114, (.iinc 3 1, 117, 0, 0, 0, .int 1)), (117, (.goto (-20), 120, 97, 0, 0, .null)), (120, (.iload_n 2, 121, 0, 0, 0, .null)), (121, (.ireturn, 122, 0, 0, 0, .null))]
/-- AssertionGateModel.spaces(I)I -/
def tb146 : mB := [(0, (.iload_n 1, 1, 0, 0, 0, .null)), (1, (.istore_n 2, 2, 0, 0, 0, .null)), (2, (.aload_n 0, 3, 0, 0, 0, .null)), (3, (.iload_n 2, 4, 0, 0, 0, .null)), (4, (.invokevirtual 119, 7, 141, 2, 11, .null)), (7, (.bipush 32, 9, 0, 0, 0, .int 32)), (9, (.if_icmp .ne 9, 12, 18, 0, 0, .null)), (12, (.iinc 2 1, 15, 0, 0, 0, .int 1)), (15, (.goto (-13), 18, 2, 0, 0, .null)), (18, (.iload_n 2, 19, 0, 0, 0, .null)), (19, (.ireturn, 20, 0, 0, 0, .null))]
/-- AssertionGateModel.attribute(II)I -/
def tb147 : mB := [(0, (.aload_n 0, 1, 0, 0, 0, .null)), (1, (.aload_n 0, 2, 0, 0, 0, .null)), (2, (.iload_n 2, 3, 0, 0, 0, .null)), (3, (.invokevirtual 136, 6, 146, 2, 11, .null)), (6, (.invokevirtual 139, 9, 145, 2, 11, .null)), (9, (.istore_n 3, 10, 0, 0, 0, .null)), (10, (.iload_n 3, 11, 0, 0, 0, .null)), (11, (.ifCond .lt 57, 14, 68, 0, 0, .null)), (14, (.aload_n 0, 15, 0, 0, 0, .null)), (15, (.iload_n 2, 16, 0, 0, 0, .null)), (16, (.invokevirtual 119, 19, 141, 2, 11, .null)), (19, (.bipush 32, 21, 0, 0, 0, .int 32)), (21, (.if_icmp .ne 47, 24, 68, 0, 0, .null)), (24, (.aload_n 0, 25, 0, 0, 0, .null)), (25, (.iload_n 3, 26, 0, 0, 0, .null)), (26, (.invokevirtual 119, 29, 141, 2, 11, .null)), (29, (.bipush 61, 31, 0, 0, 0, .int 61)), (31, (.if_icmp .ne 37, 34, 68, 0, 0, .null)), (34, (.aload_n 0, 35, 0, 0, 0, .null)), (35, (.iload_n 3, 36, 0, 0, 0, .null)), (36, (.iconst 1, 37, 0, 0, 0, .int 1)), (37, (.iadd, 38, 0, 0, 0, .null)), (38, (.invokevirtual 119, 41, 141, 2, 11, .null)), (41, (.bipush 34, 43, 0, 0, 0, .int 34)), (43, (.if_icmp .ne 25, 46, 68, 0, 0, .null)), (46, (.aload_n 0, 47, 0, 0, 0, .null)), (47, (.getfield 72, 50, 11, 30, 0, .null)), (50, (.iload_n 1, 51, 0, 0, 0, .null)), (51, (.iaload, 52, 0, 0, 0, .null)), (52, (.iconst 4, 53, 0, 0, 0, .int 4)), (53, (.if_icmp .ge 15, 56, 68, 0, 0, .null)), (56, (.aload_n 0, 57, 0, 0, 0, .null)), (57, (.iload_n 1, 58, 0, 0, 0, .null)), (58, (.aload_n 0, 59, 0, 0, 0, .null)), (59, (.getfield 126, 62, 11, 34, 0, .null)), (62, (.invokevirtual 142, 65, 148, 3, 11, .null)), (65, (.ifCond .lt 5, 68, 70, 0, 0, .null)), (68, (.iconst (-1), 69, 0, 0, 0, .int (-1))), (69, (.ireturn, 70, 0, 0, 0, .null)), (70, (.iconst 4, 71, 0, 0, 0, .int 4)), (71, (.iload_n 1, 72, 0, 0, 0, .null)), (72, (.imul, 73, 0, 0, 0, .null)), (73, (.aload_n 0, 74, 0, 0, 0, .null)), (74, (.getfield 72, 77, 11, 30, 0, .null)), (77, (.iload_n 1, 78, 0, 0, 0, .null)), (78, (.iaload, 79, 0, 0, 0, .null)), (79, (.iadd, 80, 0, 0, 0, .null)), (80, (.istore 4, 82, 0, 0, 0, .null)), (82, (.iload_n 3, 83, 0, 0, 0, .null)), (83, (.iconst 2, 84, 0, 0, 0, .int 2)), (84, (.iadd, 85, 0, 0, 0, .null)), (85, (.istore 5, 87, 0, 0, 0, .null)), (87, (.iload 5, 89, 0, 0, 0, .null)), (89, (.aload_n 0, 90, 0, 0, 0, .null)), (90, (.getfield 113, 93, 11, 4, 0, .null)), (93, (.if_icmp .ge 33, 96, 126, 0, 0, .null)), (96, (.aload_n 0, 97, 0, 0, 0, .null)), (97, (.getfield 7, 100, 11, 3, 0, .null)), (100, (.iload 5, 102, 0, 0, 0, .null)), (102, (.iaload, 103, 0, 0, 0, .null)), (103, (.bipush 34, 105, 0, 0, 0, .int 34)), (105, (.if_icmp .eq 21, 108, 126, 0, 0, .null)), (108, (.aload_n 0, 109, 0, 0, 0, .null)), (109, (.getfield 7, 112, 11, 3, 0, .null)), (112, (.iload 5, 114, 0, 0, 0, .null)), (114, (.iaload, 115, 0, 0, 0, .null)), (115, (.bipush 60, 117, 0, 0, 0, .int 60)), (117, (.if_icmp .eq 9, 120, 126, 0, 0, .null)), (120, (.iinc 5 1, 123, 0, 0, 0, .int 1)), (123, (.goto (-36), 126, 87, 0, 0, .null)), (126, (.aload_n 0, 127, 0, 0, 0, .null)), (127, (.iload 5, 129, 0, 0, 0, .null)), (129, (.invokevirtual 119, 132, 141, 2, 11, .null)), (132, (.bipush 34, 134, 0, 0, 0, .int 34)), (134, (.if_icmp .eq 5, 137, 139, 0, 0, .null)), (137, (.iconst (-1), 138, 0, 0, 0, .int (-1))), (138, (.ireturn, 139, 0, 0, 0, .null)), (139, (.aload_n 0, 140, 0, 0, 0, .null)), (140, (.getfield 75, 143, 11, 31, 0, .null)), (143, (.iload 4, 145, 0, 0, 0, .null)), (145, (.aload_n 0, 146, 0, 0, 0, .null)), (146, (.getfield 126, 149, 11, 34, 0, .null)), (149, (.lastore, 150, 0, 0, 0, .null)), (150, (.aload_n 0, 151, 0, 0, 0, .null)), (151, (.getfield 78, 154, 11, 32, 0, .null)), (154, (.iload 4, 156, 0, 0, 0, .null)), (156, (.iload_n 3, 157, 0, 0, 0, .null)), (157, (.iconst 2, 158, 0, 0, 0, .int 2)), (158, (.iadd, 159, 0, 0, 0, .null)), (159, (.iastore, 160, 0, 0, 0, .null)), (160, (.aload_n 0, 161, 0, 0, 0, .null)), (161, (.getfield 81, 164, 11, 33, 0, .null)), (164, (.iload 4, 166, 0, 0, 0, .null)), (166, (.iload 5, 168, 0, 0, 0, .null)), (168, (.iastore, 169, 0, 0, 0, .null)), (169, (.aload_n 0, 170, 0, 0, 0, .null)), (170, (.getfield 72, 173, 11, 30, 0, .null)), (173, (.iload_n 1, 174, 0, 0, 0, .null)), (174, (.dup2, 175, 0, 0, 0, .null)), (175, (.iaload, 176, 0, 0, 0, .null)), (176, (.iconst 1, 177, 0, 0, 0, .int 1)), (177, (.iadd, 178, 0, 0, 0, .null)), (178, (.iastore, 179, 0, 0, 0, .null)), (179, (.iload 5, 181, 0, 0, 0, .null)), (181, (.iconst 1, 182, 0, 0, 0, .int 1)), (182, (.iadd, 183, 0, 0, 0, .null)), (183, (.ireturn, 184, 0, 0, 0, .null))]
/-- AssertionGateModel.find(IJ)I -/
def tb148 : mB := [(0, (.iconst (-1), 1, 0, 0, 0, .int (-1))), (1, (.istore 4, 3, 0, 0, 0, .null)), (3, (.iconst 4, 4, 0, 0, 0, .int 4)), (4, (.iload_n 1, 5, 0, 0, 0, .null)), (5, (.imul, 6, 0, 0, 0, .null)), (6, (.istore 5, 8, 0, 0, 0, .null)), (8, (.iload 5, 10, 0, 0, 0, .null)), (10, (.iconst 4, 11, 0, 0, 0, .int 4)), (11, (.iload_n 1, 12, 0, 0, 0, .null)), (12, (.imul, 13, 0, 0, 0, .null)), (13, (.aload_n 0, 14, 0, 0, 0, .null)), (14, (.getfield 72, 17, 11, 30, 0, .null)), (17, (.iload_n 1, 18, 0, 0, 0, .null)), (18, (.iaload, 19, 0, 0, 0, .null)), (19, (.iadd, 20, 0, 0, 0, .null)), (20, (.if_icmp .ge 30, 23, 50, 0, 0, .null)), (23, (.aload_n 0, 24, 0, 0, 0, .null)), (24, (.getfield 75, 27, 11, 31, 0, .null)), (27, (.iload 5, 29, 0, 0, 0, .null)), (29, (.laload, 30, 0, 0, 0, .null)), (30, (.lload_n 2, 31, 0, 0, 0, .null)), (31, (.lcmp, 32, 0, 0, 0, .null)), (32, (.ifCond .ne 8, 35, 40, 0, 0, .null)), (35, (.iload 5, 37, 0, 0, 0, .null)), (37, (.goto 5, 40, 42, 0, 0, .null)), (40, (.iload 4, 42, 0, 0, 0, .null)), (42, (.istore 4, 44, 0, 0, 0, .null)), (44, (.iinc 5 1, 47, 0, 0, 0, .int 1)), (47, (.goto (-39), 50, 8, 0, 0, .null)), (50, (.iload 4, 52, 0, 0, 0, .null)), (52, (.ireturn, 53, 0, 0, 0, .null))]
/-- AssertionGateModel.tag(II)I -/
def tb149 : mB := [(0, (.aload_n 0, 1, 0, 0, 0, .null)), (1, (.getfield 146, 4, 11, 22, 0, .null)), (4, (.bipush 20, 6, 0, 0, 0, .int 20)), (6, (.if_icmp .ge 13, 9, 19, 0, 0, .null)), (9, (.aload_n 0, 10, 0, 0, 0, .null)), (10, (.iload_n 1, 11, 0, 0, 0, .null)), (11, (.iconst 1, 12, 0, 0, 0, .int 1)), (12, (.iadd, 13, 0, 0, 0, .null)), (13, (.invokevirtual 139, 16, 145, 2, 11, .null)), (16, (.goto 4, 19, 20, 0, 0, .null)), (19, (.iconst (-1), 20, 0, 0, 0, .int (-1))), (20, (.istore_n 3, 21, 0, 0, 0, .null)), (21, (.iload_n 3, 22, 0, 0, 0, .null)), (22, (.ifCond .ge 5, 25, 27, 0, 0, .null)), (25, (.iconst (-1), 26, 0, 0, 0, .int (-1))), (26, (.ireturn, 27, 0, 0, 0, .null)), (27, (.aload_n 0, 28, 0, 0, 0, .null)), (28, (.getfield 146, 31, 11, 22, 0, .null)), (31, (.istore 4, 33, 0, 0, 0, .null)), (33, (.aload_n 0, 34, 0, 0, 0, .null)), (34, (.dup, 35, 0, 0, 0, .null)), (35, (.getfield 146, 38, 11, 22, 0, .null)), (38, (.iconst 1, 39, 0, 0, 0, .int 1)), (39, (.iadd, 40, 0, 0, 0, .null)), (40, (.putfield 146, 43, 11, 22, 0, .null)), (43, (.aload_n 0, 44, 0, 0, 0, .null)), (44, (.getfield 51, 47, 11, 23, 0, .null)), (47, (.iload 4, 49, 0, 0, 0, .null)), (49, (.aload_n 0, 50, 0, 0, 0, .null)), (50, (.getfield 126, 53, 11, 34, 0, .null)), (53, (.lastore, 54, 0, 0, 0, .null)), (54, (.aload_n 0, 55, 0, 0, 0, .null)), (55, (.getfield 54, 58, 11, 24, 0, .null)), (58, (.iload 4, 60, 0, 0, 0, .null)), (60, (.iload_n 2, 61, 0, 0, 0, .null)), (61, (.iastore, 62, 0, 0, 0, .null)), (62, (.aload_n 0, 63, 0, 0, 0, .null)), (63, (.getfield 57, 66, 11, 25, 0, .null)), (66, (.iload 4, 68, 0, 0, 0, .null)), (68, (.iload_n 1, 69, 0, 0, 0, .null)), (69, (.iastore, 70, 0, 0, 0, .null)), (70, (.aload_n 0, 71, 0, 0, 0, .null)), (71, (.getfield 72, 74, 11, 30, 0, .null)), (74, (.iload 4, 76, 0, 0, 0, .null)), (76, (.iconst 0, 77, 0, 0, 0, .int 0)), (77, (.iastore, 78, 0, 0, 0, .null)), (78, (.aload_n 0, 79, 0, 0, 0, .null)), (79, (.iload_n 3, 80, 0, 0, 0, .null)), (80, (.invokevirtual 136, 83, 146, 2, 11, .null)), (83, (.istore 5, 85, 0, 0, 0, .null)), (85, (.aload_n 0, 86, 0, 0, 0, .null)), (86, (.iload 5, 88, 0, 0, 0, .null)), (88, (.invokevirtual 119, 91, 141, 2, 11, .null)), (91, (.invokestatic 133, 94, 144, 1, 99, .null)), (94, (.ifCond .eq 27, 97, 121, 0, 0, .null)), (97, (.aload_n 0, 98, 0, 0, 0, .null)), (98, (.iload 4, 100, 0, 0, 0, .null)), (100, (.iload_n 3, 101, 0, 0, 0, .null)), (101, (.invokevirtual 149, 104, 147, 3, 11, .null)), (104, (.istore_n 3, 105, 0, 0, 0, .null)), (105, (.iload_n 3, 106, 0, 0, 0, .null)), (106, (.ifCond .ge 5, 109, 111, 0, 0, .null)), (109, (.iconst (-1), 110, 0, 0, 0, .int (-1))), (110, (.ireturn, 111, 0, 0, 0, .null)), (111, (.aload_n 0, 112, 0, 0, 0, .null)), (112, (.iload_n 3, 113, 0, 0, 0, .null)), (113, (.invokevirtual 136, 116, 146, 2, 11, .null)), (116, (.istore 5, 118, 0, 0, 0, .null)), (118, (.goto (-33), 121, 85, 0, 0, .null)), (121, (.iload 5, 123, 0, 0, 0, .null)), (123, (.istore_n 3, 124, 0, 0, 0, .null)), (124, (.aload_n 0, 125, 0, 0, 0, .null)), (125, (.getfield 69, 128, 11, 29, 0, .null)), (128, (.iload 4, 130, 0, 0, 0, .null)), (130, (.aload_n 0, 131, 0, 0, 0, .null)), (131, (.iload_n 3, 132, 0, 0, 0, .null)), (132, (.invokevirtual 119, 135, 141, 2, 11, .null)), (135, (.bipush 47, 137, 0, 0, 0, .int 47)), (137, (.if_icmp .ne 7, 140, 144, 0, 0, .null)), (140, (.iconst 1, 141, 0, 0, 0, .int 1)), (141, (.goto 4, 144, 145, 0, 0, .null)), (144, (.iconst 0, 145, 0, 0, 0, .int 0)), (145, (.bastore, 146, 0, 0, 0, .null)), (146, (.aload_n 0, 147, 0, 0, 0, .null)), (147, (.getfield 69, 150, 11, 29, 0, .null)), (150, (.iload 4, 152, 0, 0, 0, .null)), (152, (.baload, 153, 0, 0, 0, .null)), (153, (.ifCond .eq 9, 156, 162, 0, 0, .null)), (156, (.iload_n 3, 157, 0, 0, 0, .null)), (157, (.iconst 1, 158, 0, 0, 0, .int 1)), (158, (.iadd, 159, 0, 0, 0, .null)), (159, (.goto 4, 162, 163, 0, 0, .null)), (162, (.iload_n 3, 163, 0, 0, 0, .null)), (163, (.istore_n 3, 164, 0, 0, 0, .null)), (164, (.aload_n 0, 165, 0, 0, 0, .null)), (165, (.getfield 60, 168, 11, 26, 0, .null)), (168, (.iload 4, 170, 0, 0, 0, .null)), (170, (.iload_n 3, 171, 0, 0, 0, .null)), (171, (.iconst 1, 172, 0, 0, 0, .int 1)), (172, (.iadd, 173, 0, 0, 0, .null)), (173, (.iastore, 174, 0, 0, 0, .null)), (174, (.aload_n 0, 175, 0, 0, 0, .null)), (175, (.getfield 63, 178, 11, 27, 0, .null)), (178, (.iload 4, 180, 0, 0, 0, .null)), (180, (.iload_n 3, 181, 0, 0, 0, .null)), (181, (.iconst 1, 182, 0, 0, 0, .int 1)), (182, (.iadd, 183, 0, 0, 0, .null)), (183, (.iastore, 184, 0, 0, 0, .null)), (184, (.aload_n 0, 185, 0, 0, 0, .null)), (185, (.getfield 66, 188, 11, 28, 0, .null)), (188, (.iload 4, 190, 0, 0, 0, .null)), (190, (.iload_n 3, 191, 0, 0, 0, .null)), (191, (.iconst 1, 192, 0, 0, 0, .int 1)), (192, (.iadd, 193, 0, 0, 0, .null)), (193, (.iastore, 194, 0, 0, 0, .null)), (194, (.aload_n 0, 195, 0, 0, 0, .null)), (195, (.iload_n 3, 196, 0, 0, 0, .null)), (196, (.invokevirtual 119, 199, 141, 2, 11, .null)), (199, (.bipush 62, 201, 0, 0, 0, .int 62)), (201, (.if_icmp .ne 9, 204, 210, 0, 0, .null)), (204, (.iload_n 3, 205, 0, 0, 0, .null)), (205, (.iconst 1, 206, 0, 0, 0, .int 1)), (206, (.iadd, 207, 0, 0, 0, .null)), (207, (.goto 4, 210, 211, 0, 0, .null)), (210, (.iconst (-1), 211, 0, 0, 0, .int (-1))), (211, (.ireturn, 212, 0, 0, 0, .null))]
/-- AssertionGateModel.comment(I)I -/
def tb150 : mB := [(0, (.iload_n 1, 1, 0, 0, 0, .null)), (1, (.iconst 4, 2, 0, 0, 0, .int 4)), (2, (.iadd, 3, 0, 0, 0, .null)), (3, (.istore_n 2, 4, 0, 0, 0, .null)), (4, (.iload_n 2, 5, 0, 0, 0, .null)), (5, (.aload_n 0, 6, 0, 0, 0, .null)), (6, (.getfield 113, 9, 11, 4, 0, .null)), (9, (.if_icmp .ge 17, 12, 26, 0, 0, .null)), (12, (.aload_n 0, 13, 0, 0, 0, .null)), (13, (.iload_n 2, 14, 0, 0, 0, .null)), (14, (.invokevirtual 123, 17, 142, 2, 11, .null)), (17, (.ifCond .ne 9, 20, 26, 0, 0, .null)), (20, (.iinc 2 1, 23, 0, 0, 0, .int 1)), (23, (.goto (-19), 26, 4, 0, 0, .null)), (26, (.aload_n 0, 27, 0, 0, 0, .null)), (27, (.iload_n 2, 28, 0, 0, 0, .null)), (28, (.iconst 2, 29, 0, 0, 0, .int 2)), (29, (.iadd, 30, 0, 0, 0, .null)), (30, (.invokevirtual 119, 33, 141, 2, 11, .null)), (33, (.bipush 62, 35, 0, 0, 0, .int 62)), (35, (.if_icmp .ne 17, 38, 52, 0, 0, .null)), (38, (.iload_n 2, 39, 0, 0, 0, .null)), (39, (.aload_n 0, 40, 0, 0, 0, .null)), (40, (.getfield 113, 43, 11, 4, 0, .null)), (43, (.if_icmp .ge 9, 46, 52, 0, 0, .null)), (46, (.iload_n 2, 47, 0, 0, 0, .null)), (47, (.iconst 3, 48, 0, 0, 0, .int 3)), (48, (.iadd, 49, 0, 0, 0, .null)), (49, (.goto 4, 52, 53, 0, 0, .null)), (52, (.iconst (-1), 53, 0, 0, 0, .int (-1))), (53, (.ireturn, 54, 0, 0, 0, .null))]
/-- AssertionGateModel.close(II)I -/
def tb151 : mB := [(0, (.aload_n 0, 1, 0, 0, 0, .null)), (1, (.iload_n 2, 2, 0, 0, 0, .null)), (2, (.iconst 2, 3, 0, 0, 0, .int 2)), (3, (.iadd, 4, 0, 0, 0, .null)), (4, (.invokevirtual 139, 7, 145, 2, 11, .null)), (7, (.istore_n 3, 8, 0, 0, 0, .null)), (8, (.iload_n 3, 9, 0, 0, 0, .null)), (9, (.ifCond .lt 17, 12, 26, 0, 0, .null)), (12, (.aload_n 0, 13, 0, 0, 0, .null)), (13, (.getfield 126, 16, 11, 34, 0, .null)), (16, (.aload_n 0, 17, 0, 0, 0, .null)), (17, (.getfield 51, 20, 11, 23, 0, .null)), (20, (.iload_n 1, 21, 0, 0, 0, .null)), (21, (.laload, 22, 0, 0, 0, .null)), (22, (.lcmp, 23, 0, 0, 0, .null)), (23, (.ifCond .eq 5, 26, 28, 0, 0, .null)), (26, (.iconst (-1), 27, 0, 0, 0, .int (-1))), (27, (.ireturn, 28, 0, 0, 0, .null)), (28, (.aload_n 0, 29, 0, 0, 0, .null)), (29, (.iload_n 3, 30, 0, 0, 0, .null)), (30, (.invokevirtual 136, 33, 146, 2, 11, .null)), (33, (.istore_n 3, 34, 0, 0, 0, .null)), (34, (.aload_n 0, 35, 0, 0, 0, .null)), (35, (.getfield 63, 38, 11, 27, 0, .null)), (38, (.iload_n 1, 39, 0, 0, 0, .null)), (39, (.iload_n 2, 40, 0, 0, 0, .null)), (40, (.iastore, 41, 0, 0, 0, .null)), (41, (.aload_n 0, 42, 0, 0, 0, .null)), (42, (.getfield 66, 45, 11, 28, 0, .null)), (45, (.iload_n 1, 46, 0, 0, 0, .null)), (46, (.iload_n 3, 47, 0, 0, 0, .null)), (47, (.iconst 1, 48, 0, 0, 0, .int 1)), (48, (.iadd, 49, 0, 0, 0, .null)), (49, (.iastore, 50, 0, 0, 0, .null)), (50, (.aload_n 0, 51, 0, 0, 0, .null)), (51, (.iload_n 3, 52, 0, 0, 0, .null)), (52, (.invokevirtual 119, 55, 141, 2, 11, .null)), (55, (.bipush 62, 57, 0, 0, 0, .int 62)), (57, (.if_icmp .ne 9, 60, 66, 0, 0, .null)), (60, (.iload_n 3, 61, 0, 0, 0, .null)), (61, (.iconst 1, 62, 0, 0, 0, .int 1)), (62, (.iadd, 63, 0, 0, 0, .null)), (63, (.goto 4, 66, 67, 0, 0, .null)), (66, (.iconst (-1), 67, 0, 0, 0, .int (-1))), (67, (.ireturn, 68, 0, 0, 0, .null))]
/-- AssertionGateModel.depth(I)I -/
def tb152 : mB := [(0, (.iconst 0, 1, 0, 0, 0, .int 0)), (1, (.istore_n 2, 2, 0, 0, 0, .null)), (2, (.iload_n 1, 3, 0, 0, 0, .null)), (3, (.istore_n 3, 4, 0, 0, 0, .null)), (4, (.iload_n 3, 5, 0, 0, 0, .null)), (5, (.ifCond .lt 16, 8, 21, 0, 0, .null)), (8, (.iinc 2 1, 11, 0, 0, 0, .int 1)), (11, (.aload_n 0, 12, 0, 0, 0, .null)), (12, (.getfield 54, 15, 11, 24, 0, .null)), (15, (.iload_n 3, 16, 0, 0, 0, .null)), (16, (.iaload, 17, 0, 0, 0, .null)), (17, (.istore_n 3, 18, 0, 0, 0, .null)), (18, (.goto (-14), 21, 4, 0, 0, .null)), (21, (.iload_n 2, 22, 0, 0, 0, .null)), (22, (.ireturn, 23, 0, 0, 0, .null))]
/-- AssertionGateModel.read()I -/
def tb153 : mB := [(0, (.aload_n 0, 1, 0, 0, 0, .null)), (1, (.iconst 0, 2, 0, 0, 0, .int 0)), (2, (.putfield 146, 5, 11, 22, 0, .null)), (5, (.aload_n 0, 6, 0, 0, 0, .null)), (6, (.invokevirtual 153, 9, 143, 1, 11, .null)), (9, (.ifCond .eq 5, 12, 14, 0, 0, .null)), (12, (.iconst (-1), 13, 0, 0, 0, .int (-1))), (13, (.ireturn, 14, 0, 0, 0, .null)), (14, (.iconst (-1), 15, 0, 0, 0, .int (-1))), (15, (.istore_n 1, 16, 0, 0, 0, .null)), (16, (.aload_n 0, 17, 0, 0, 0, .null)), (17, (.iconst 0, 18, 0, 0, 0, .int 0)), (18, (.invokevirtual 119, 21, 141, 2, 11, .null)), (21, (.bipush 60, 23, 0, 0, 0, .int 60)), (23, (.if_icmp .ne 23, 26, 46, 0, 0, .null)), (26, (.aload_n 0, 27, 0, 0, 0, .null)), (27, (.iconst 1, 28, 0, 0, 0, .int 1)), (28, (.invokevirtual 119, 31, 141, 2, 11, .null)), (31, (.invokestatic 133, 34, 144, 1, 99, .null)), (34, (.ifCond .eq 12, 37, 46, 0, 0, .null)), (37, (.aload_n 0, 38, 0, 0, 0, .null)), (38, (.iconst 0, 39, 0, 0, 0, .int 0)), (39, (.iconst (-1), 40, 0, 0, 0, .int (-1))), (40, (.invokevirtual 157, 43, 149, 3, 11, .null)), (43, (.goto 4, 46, 47, 0, 0, .null)), (46, (.iconst (-1), 47, 0, 0, 0, .int (-1))), (47, (.istore_n 2, 48, 0, 0, 0, .null)), (48, (.iload_n 2, 49, 0, 0, 0, .null)), (49, (.ifCond .le 16, 52, 65, 0, 0, .null)), (52, (.aload_n 0, 53, 0, 0, 0, .null)), (53, (.getfield 69, 56, 11, 29, 0, .null)), (56, (.iconst 0, 57, 0, 0, 0, .int 0)), (57, (.baload, 58, 0, 0, 0, .null)), (58, (.ifCond .ne 7, 61, 65, 0, 0, .null)), (61, (.iconst 0, 62, 0, 0, 0, .int 0)), (62, (.goto 4, 65, 66, 0, 0, .null)), (65, (.iconst (-1), 66, 0, 0, 0, .int (-1))), (66, (.istore_n 1, 67, 0, 0, 0, .null)), (67, (.iconst 0, 68, 0, 0, 0, .int 0)), (68, (.istore_n 3, 69, 0, 0, 0, .null)), (69, (.iload_n 3, 70, 0, 0, 0, .null)), (70, (.sipush 500, 73, 0, 0, 0, .int 500)), (73, (.if_icmp .ge 161, 76, 234, 0, 0, .null)), (76, (.iload_n 2, 77, 0, 0, 0, .null)), (77, (.ifCond .le 157, 80, 234, 0, 0, .null)), (80, (.iload_n 1, 81, 0, 0, 0, .null)), (81, (.ifCond .lt 153, 84, 234, 0, 0, .null)), (84, (.aload_n 0, 85, 0, 0, 0, .null)), (85, (.iload_n 2, 86, 0, 0, 0, .null)), (86, (.invokevirtual 119, 89, 141, 2, 11, .null)), (89, (.bipush 60, 91, 0, 0, 0, .int 60)), (91, (.if_icmp .eq 22, 94, 113, 0, 0, .null)), (94, (.iload_n 2, 95, 0, 0, 0, .null)), (95, (.aload_n 0, 96, 0, 0, 0, .null)), (96, (.getfield 113, 99, 11, 4, 0, .null)), (99, (.if_icmp .ge 9, 102, 108, 0, 0, .null)), (102, (.iload_n 2, 103, 0, 0, 0, .null)), (103, (.iconst 1, 104, 0, 0, 0, .int 1)), (104, (.iadd, 105, 0, 0, 0, .null)), (105, (.goto 4, 108, 109, 0, 0, .null)), (108, (.iconst (-1), 109, 0, 0, 0, .int (-1))), (109, (.istore_n 2, 110, 0, 0, 0, .null)), (110, (.goto 118, 113, 228, 0, 0, .null)), (113, (.aload_n 0, 114, 0, 0, 0, .null)), (114, (.iload_n 2, 115, 0, 0, 0, .null)), (115, (.iconst 1, 116, 0, 0, 0, .int 1)), (116, (.iadd, 117, 0, 0, 0, .null)), (117, (.invokevirtual 119, 120, 141, 2, 11, .null)), (120, (.bipush 33, 122, 0, 0, 0, .int 33)), (122, (.if_icmp .ne 12, 125, 134, 0, 0, .null)), (125, (.aload_n 0, 126, 0, 0, 0, .null)), (126, (.iload_n 2, 127, 0, 0, 0, .null)), (127, (.invokevirtual 160, 130, 150, 2, 11, .null)), (130, (.istore_n 2, 131, 0, 0, 0, .null)), (131, (.goto 97, 134, 228, 0, 0, .null)), (134, (.aload_n 0, 135, 0, 0, 0, .null)), (135, (.iload_n 2, 136, 0, 0, 0, .null)), (136, (.iconst 1, 137, 0, 0, 0, .int 1)), (137, (.iadd, 138, 0, 0, 0, .null)), (138, (.invokevirtual 119, 141, 141, 2, 11, .null)), (141, (.bipush 47, 143, 0, 0, 0, .int 47)), (143, (.if_icmp .ne 20, 146, 163, 0, 0, .null)), (146, (.aload_n 0, 147, 0, 0, 0, .null)), (147, (.iload_n 1, 148, 0, 0, 0, .null)), (148, (.iload_n 2, 149, 0, 0, 0, .null)), (149, (.invokevirtual 163, 152, 151, 3, 11, .null)), (152, (.istore_n 2, 153, 0, 0, 0, .null)), (153, (.aload_n 0, 154, 0, 0, 0, .null)), (154, (.getfield 54, 157, 11, 24, 0, .null)), (157, (.iload_n 1, 158, 0, 0, 0, .null)), (158, (.iaload, 159, 0, 0, 0, .null)), (159, (.istore_n 1, 160, 0, 0, 0, .null)), (160, (.goto 68, 163, 228, 0, 0, .null)), (163, (.aload_n 0, 164, 0, 0, 0, .null)), (164, (.iload_n 2, 165, 0, 0, 0, .null)), (165, (.iload_n 1, 166, 0, 0, 0, .null)), (166, (.invokevirtual 157, 169, 149, 3, 11, .null)), (169, (.istore_n 2, 170, 0, 0, 0, .null)), (170, (.aload_n 0, 171, 0, 0, 0, .null)), (171, (.getfield 146, 174, 11, 22, 0, .null)), (174, (.iconst 1, 175, 0, 0, 0, .int 1)), (175, (.isub, 176, 0, 0, 0, .null)), (176, (.istore 4, 178, 0, 0, 0, .null)), (178, (.aload_n 0, 179, 0, 0, 0, .null)), (179, (.iload 4, 181, 0, 0, 0, .null)), (181, (.invokevirtual 166, 184, 152, 2, 11, .null)), (184, (.bipush 6, 186, 0, 0, 0, .int 6)), (186, (.if_icmp .le 7, 189, 193, 0, 0, .null)), (189, (.iconst 1, 190, 0, 0, 0, .int 1)), (190, (.goto 4, 193, 194, 0, 0, .null)), (193, (.iconst 0, 194, 0, 0, 0, .int 0)), (194, (.istore 5, 196, 0, 0, 0, .null)), (196, (.iload_n 2, 197, 0, 0, 0, .null)), (197, (.ifCond .le 18, 200, 215, 0, 0, .null)), (200, (.aload_n 0, 201, 0, 0, 0, .null)), (201, (.getfield 69, 204, 11, 29, 0, .null)), (204, (.iload 4, 206, 0, 0, 0, .null)), (206, (.baload, 207, 0, 0, 0, .null)), (207, (.ifCond .ne 8, 210, 215, 0, 0, .null)), (210, (.iload 4, 212, 0, 0, 0, .null)), (212, (.goto 4, 215, 216, 0, 0, .null)), (215, (.iload_n 1, 216, 0, 0, 0, .null)), (216, (.istore_n 1, 217, 0, 0, 0, .null)), (217, (.iload 5, 219, 0, 0, 0, .null)), (219, (.ifCond .eq 7, 222, 226, 0, 0, .null)), (222, (.iconst (-1), 223, 0, 0, 0, .int (-1))), (223, (.goto 4, 226, 227, 0, 0, .null)), (226, (.iload_n 2, 227, 0, 0, 0, .null)), (227, (.istore_n 2, 228, 0, 0, 0, .null)), (228, (.iinc 3 1, 231, 0, 0, 0, .int 1)), (231, (.goto (-162), 234, 69, 0, 0, .null)), (234, (.iload_n 2, 235, 0, 0, 0, .null)), (235, (.aload_n 0, 236, 0, 0, 0, .null)), (236, (.getfield 113, 239, 11, 4, 0, .null)), (239, (.if_icmp .ne 14, 242, 253, 0, 0, .null)), (242, (.iload_n 2, 243, 0, 0, 0, .null)), (243, (.ifCond .le 10, 246, 253, 0, 0, .null)), (246, (.aload_n 0, 247, 0, 0, 0, .null)), (247, (.getfield 146, 250, 11, 22, 0, .null)), (250, (.goto 5, 253, 255, 0, 0, .null)), (253, (.bipush (-2), 255, 0, 0, 0, .int (-2))), (255, (.ireturn, 256, 0, 0, 0, .null))]
/-- AssertionGateModel.elements()I -/
def tb154 : mB := [(0, (.aload_n 0, 1, 0, 0, 0, .null)), (1, (.invokevirtual 169, 4, 153, 1, 11, .null)), (4, (.ireturn, 5, 0, 0, 0, .null))]
/-- AssertionGateModel.fold(II)I -/
def tb155 : mB := [(0, (.iload_n 0, 1, 0, 0, 0, .null)), (1, (.sipush 257, 4, 0, 0, 0, .int 257)), (4, (.imul, 5, 0, 0, 0, .null)), (5, (.iload_n 1, 6, 0, 0, 0, .null)), (6, (.iadd, 7, 0, 0, 0, .null)), (7, (.ldc 91, 9, 0, 0, 0, .int 65521)), (9, (.irem, 10, 0, 0, 0, .null)), (10, (.ireturn, 11, 0, 0, 0, .null))]
/-- AssertionGateModel.foldName(IJ)I -/
def tb156 : mB := [(0, (.iload_n 0, 1, 0, 0, 0, .null)), (1, (.istore_n 3, 2, 0, 0, 0, .null)), (2, (.bipush 40, 4, 0, 0, 0, .int 40)), (4, (.istore 4, 6, 0, 0, 0, .null)), (6, (.iload 4, 8, 0, 0, 0, .null)), (8, (.ifCond .lt 36, 11, 44, 0, 0, .null)), (11, (.lload_n 1, 12, 0, 0, 0, .null)), (12, (.iload 4, 14, 0, 0, 0, .null)), (14, (.lshr, 15, 0, 0, 0, .null)), (15, (.ldc2_w 173, 18, 0, 0, 0, .long 255)), (18, (.land, 19, 0, 0, 0, .null)), (19, (.l2i, 20, 0, 0, 0, .null)), (20, (.istore 5, 22, 0, 0, 0, .null)), (22, (.iload 5, 24, 0, 0, 0, .null)), (24, (.ifCond .ne 7, 27, 31, 0, 0, .null)), (27, (.iload_n 3, 28, 0, 0, 0, .null)), (28, (.goto 9, 31, 37, 0, 0, .null)), (31, (.iload_n 3, 32, 0, 0, 0, .null)), (32, (.iload 5, 34, 0, 0, 0, .null)), (34, (.invokestatic 175, 37, 155, 2, 99, .null)), (37, (.istore_n 3, 38, 0, 0, 0, .null)), (38, (.iinc 4 (-8), 41, 0, 0, 0, .int (-8))), (41, (.goto (-35), 44, 6, 0, 0, .null)), (44, (.iload_n 3, 45, 0, 0, 0, .null)), (45, (.ireturn, 46, 0, 0, 0, .null))]
/-- AssertionGateModel.foldAttribute(II)I -/
def tb157 : mB := [(0, (.iload_n 1, 1, 0, 0, 0, .null)), (1, (.bipush 32, 3, 0, 0, 0, .int 32)), (3, (.invokestatic 175, 6, 155, 2, 99, .null)), (6, (.aload_n 0, 7, 0, 0, 0, .null)), (7, (.getfield 75, 10, 11, 31, 0, .null)), (10, (.iload_n 2, 11, 0, 0, 0, .null)), (11, (.laload, 12, 0, 0, 0, .null)), (12, (.invokestatic 178, 15, 156, 2, 99, .null)), (15, (.istore_n 3, 16, 0, 0, 0, .null)), (16, (.iload_n 3, 17, 0, 0, 0, .null)), (17, (.bipush 61, 19, 0, 0, 0, .int 61)), (19, (.invokestatic 175, 22, 155, 2, 99, .null)), (22, (.bipush 34, 24, 0, 0, 0, .int 34)), (24, (.invokestatic 175, 27, 155, 2, 99, .null)), (27, (.istore_n 3, 28, 0, 0, 0, .null)), (28, (.aload_n 0, 29, 0, 0, 0, .null)), (29, (.getfield 78, 32, 11, 32, 0, .null)), (32, (.iload_n 2, 33, 0, 0, 0, .null)), (33, (.iaload, 34, 0, 0, 0, .null)), (34, (.istore 4, 36, 0, 0, 0, .null)), (36, (.iload 4, 38, 0, 0, 0, .null)), (38, (.aload_n 0, 39, 0, 0, 0, .null)), (39, (.getfield 81, 42, 11, 33, 0, .null)), (42, (.iload_n 2, 43, 0, 0, 0, .null)), (43, (.iaload, 44, 0, 0, 0, .null)), (44, (.if_icmp .ge 21, 47, 65, 0, 0, .null)), (47, (.iload_n 3, 48, 0, 0, 0, .null)), (48, (.aload_n 0, 49, 0, 0, 0, .null)), (49, (.getfield 7, 52, 11, 3, 0, .null)), (52, (.iload 4, 54, 0, 0, 0, .null)), (54, (.iaload, 55, 0, 0, 0, .null)), (55, (.invokestatic 175, 58, 155, 2, 99, .null)), (58, (.istore_n 3, 59, 0, 0, 0, .null)), (59, (.iinc 4 1, 62, 0, 0, 0, .int 1)), (62, (.goto (-26), 65, 36, 0, 0, .null)), (65, (.iload_n 3, 66, 0, 0, 0, .null)), (66, (.bipush 34, 68, 0, 0, 0, .int 34)), (68, (.invokestatic 175, 71, 155, 2, 99, .null)), (71, (.ireturn, 72, 0, 0, 0, .null))]
/-- AssertionGateModel.foldHead(II)I -/
def tb158 : mB := [(0, (.iload_n 1, 1, 0, 0, 0, .null)), (1, (.bipush 60, 3, 0, 0, 0, .int 60)), (3, (.invokestatic 175, 6, 155, 2, 99, .null)), (6, (.aload_n 0, 7, 0, 0, 0, .null)), (7, (.getfield 51, 10, 11, 23, 0, .null)), (10, (.iload_n 2, 11, 0, 0, 0, .null)), (11, (.laload, 12, 0, 0, 0, .null)), (12, (.invokestatic 178, 15, 156, 2, 99, .null)), (15, (.istore_n 3, 16, 0, 0, 0, .null)), (16, (.lconst 0, 17, 0, 0, 0, .long 0)), (17, (.lstore 4, 19, 0, 0, 0, .null)), (19, (.iconst 0, 20, 0, 0, 0, .int 0)), (20, (.istore 6, 22, 0, 0, 0, .null)), (22, (.iload 6, 24, 0, 0, 0, .null)), (24, (.aload_n 0, 25, 0, 0, 0, .null)), (25, (.getfield 72, 28, 11, 30, 0, .null)), (28, (.iload_n 2, 29, 0, 0, 0, .null)), (29, (.iaload, 30, 0, 0, 0, .null)), (30, (.if_icmp .ge 105, 33, 135, 0, 0, .null)), (33, (.iconst (-1), 34, 0, 0, 0, .int (-1))), (34, (.istore 7, 36, 0, 0, 0, .null)), (36, (.iconst 4, 37, 0, 0, 0, .int 4)), (37, (.iload_n 2, 38, 0, 0, 0, .null)), (38, (.imul, 39, 0, 0, 0, .null)), (39, (.istore 8, 41, 0, 0, 0, .null)), (41, (.iload 8, 43, 0, 0, 0, .null)), (43, (.iconst 4, 44, 0, 0, 0, .int 4)), (44, (.iload_n 2, 45, 0, 0, 0, .null)), (45, (.imul, 46, 0, 0, 0, .null)), (46, (.aload_n 0, 47, 0, 0, 0, .null)), (47, (.getfield 72, 50, 11, 30, 0, .null)), (50, (.iload_n 2, 51, 0, 0, 0, .null)), (51, (.iaload, 52, 0, 0, 0, .null)), (52, (.iadd, 53, 0, 0, 0, .null)), (53, (.if_icmp .ge 54, 56, 107, 0, 0, .null)), (56, (.aload_n 0, 57, 0, 0, 0, .null)), (57, (.getfield 75, 60, 11, 31, 0, .null)), (60, (.iload 8, 62, 0, 0, 0, .null)), (62, (.laload, 63, 0, 0, 0, .null)), (63, (.lload 4, 65, 0, 0, 0, .null)), (65, (.lcmp, 66, 0, 0, 0, .null)), (66, (.ifCond .le 31, 69, 97, 0, 0, .null)), (69, (.iload 7, 71, 0, 0, 0, .null)), (71, (.ifCond .lt 21, 74, 92, 0, 0, .null)), (74, (.aload_n 0, 75, 0, 0, 0, .null)), (75, (.getfield 75, 78, 11, 31, 0, .null)), (78, (.iload 8, 80, 0, 0, 0, .null)), (80, (.laload, 81, 0, 0, 0, .null)), (81, (.aload_n 0, 82, 0, 0, 0, .null)), (82, (.getfield 75, 85, 11, 31, 0, .null)), (85, (.iload 7, 87, 0, 0, 0, .null)), (87, (.laload, 88, 0, 0, 0, .null)), (88, (.lcmp, 89, 0, 0, 0, .null)), (89, (.ifCond .ge 8, 92, 97, 0, 0, .null)), (92, (.iload 8, 94, 0, 0, 0, .null)), (94, (.goto 5, 97, 99, 0, 0, .null)), (97, (.iload 7, 99, 0, 0, 0, .null)), (99, (.istore 7, 101, 0, 0, 0, .null)), (101, (.iinc 8 1, 104, 0, 0, 0, .int 1)), (104, (.goto (-63), 107, 41, 0, 0, .null)), (107, (.iload 7, 109, 0, 0, 0, .null)), (109, (.ifCond .lt 20, 112, 129, 0, 0, .null)), (112, (.aload_n 0, 113, 0, 0, 0, .null)), (113, (.iload_n 3, 114, 0, 0, 0, .null)), (114, (.iload 7, 116, 0, 0, 0, .null)), (116, (.invokevirtual 181, 119, 157, 3, 11, .null)), (119, (.istore_n 3, 120, 0, 0, 0, .null)), (120, (.aload_n 0, 121, 0, 0, 0, .null)), (121, (.getfield 75, 124, 11, 31, 0, .null)), (124, (.iload 7, 126, 0, 0, 0, .null)), (126, (.laload, 127, 0, 0, 0, .null)), (127, (.lstore 4, 129, 0, 0, 0, .null)), (129, (.iinc 6 1, 132, 0, 0, 0, .int 1)), (132, (.goto (-110), 135, 22, 0, 0, .null)), (135, (.iload_n 3, 136, 0, 0, 0, .null)), (136, (.bipush 62, 138, 0, 0, 0, .int 62)), (138, (.invokestatic 175, 141, 155, 2, 99, .null)), (141, (.ireturn, 142, 0, 0, 0, .null))]
/-- AssertionGateModel.foldTail(II)I -/
def tb159 : mB := [(0, (.iload_n 1, 1, 0, 0, 0, .null)), (1, (.bipush 60, 3, 0, 0, 0, .int 60)), (3, (.invokestatic 175, 6, 155, 2, 99, .null)), (6, (.bipush 47, 8, 0, 0, 0, .int 47)), (8, (.invokestatic 175, 11, 155, 2, 99, .null)), (11, (.istore_n 3, 12, 0, 0, 0, .null)), (12, (.iload_n 3, 13, 0, 0, 0, .null)), (13, (.aload_n 0, 14, 0, 0, 0, .null)), (14, (.getfield 51, 17, 11, 23, 0, .null)), (17, (.iload_n 2, 18, 0, 0, 0, .null)), (18, (.laload, 19, 0, 0, 0, .null)), (19, (.invokestatic 178, 22, 156, 2, 99, .null)), (22, (.bipush 62, 24, 0, 0, 0, .int 62)), (24, (.invokestatic 175, 27, 155, 2, 99, .null)), (27, (.ireturn, 28, 0, 0, 0, .null))]
/-- AssertionGateModel.elementAt(IZ)I -/
def tb160 : mB := [(0, (.iconst (-1), 1, 0, 0, 0, .int (-1))), (1, (.istore_n 3, 2, 0, 0, 0, .null)), (2, (.iconst 0, 3, 0, 0, 0, .int 0)), (3, (.istore 4, 5, 0, 0, 0, .null)), (5, (.iload 4, 7, 0, 0, 0, .null)), (7, (.aload_n 0, 8, 0, 0, 0, .null)), (8, (.getfield 146, 11, 11, 22, 0, .null)), (11, (.if_icmp .ge 61, 14, 72, 0, 0, .null)), (14, (.iload_n 2, 15, 0, 0, 0, .null)), (15, (.ifCond .eq 33, 18, 48, 0, 0, .null)), (18, (.aload_n 0, 19, 0, 0, 0, .null)), (19, (.getfield 63, 22, 11, 27, 0, .null)), (22, (.iload 4, 24, 0, 0, 0, .null)), (24, (.iaload, 25, 0, 0, 0, .null)), (25, (.iload_n 1, 26, 0, 0, 0, .null)), (26, (.if_icmp .ne 18, 29, 44, 0, 0, .null)), (29, (.aload_n 0, 30, 0, 0, 0, .null)), (30, (.getfield 69, 33, 11, 29, 0, .null)), (33, (.iload 4, 35, 0, 0, 0, .null)), (35, (.baload, 36, 0, 0, 0, .null)), (36, (.ifCond .ne 8, 39, 44, 0, 0, .null)), (39, (.iload 4, 41, 0, 0, 0, .null)), (41, (.goto 24, 44, 65, 0, 0, .null)), (44, (.iload_n 3, 45, 0, 0, 0, .null)), (45, (.goto 20, 48, 65, 0, 0, .null)), (48, (.aload_n 0, 49, 0, 0, 0, .null)), (49, (.getfield 57, 52, 11, 25, 0, .null)), (52, (.iload 4, 54, 0, 0, 0, .null)), (54, (.iaload, 55, 0, 0, 0, .null)), (55, (.iload_n 1, 56, 0, 0, 0, .null)), (56, (.if_icmp .ne 8, 59, 64, 0, 0, .null)), (59, (.iload 4, 61, 0, 0, 0, .null)), (61, (.goto 4, 64, 65, 0, 0, .null)), (64, (.iload_n 3, 65, 0, 0, 0, .null)), (65, (.istore_n 3, 66, 0, 0, 0, .null)), (66, (.iinc 4 1, 69, 0, 0, 0, .int 1)), (69, (.goto (-64), 72, 5, 0, 0, .null)), (72, (.iload_n 3, 73, 0, 0, 0, .null)), (73, (.ireturn, 74, 0, 0, 0, .null))]
/-- AssertionGateModel.digestOf(I)I -/
def tb161 : mB := [(0, (.aload_n 0, 1, 0, 0, 0, .null)), (1, (.iconst 0, 2, 0, 0, 0, .int 0)), (2, (.iload_n 1, 3, 0, 0, 0, .null)), (3, (.invokevirtual 184, 6, 158, 3, 11, .null)), (6, (.istore_n 2, 7, 0, 0, 0, .null)), (7, (.aload_n 0, 8, 0, 0, 0, .null)), (8, (.getfield 60, 11, 11, 26, 0, .null)), (11, (.iload_n 1, 12, 0, 0, 0, .null)), (12, (.iaload, 13, 0, 0, 0, .null)), (13, (.istore_n 3, 14, 0, 0, 0, .null)), (14, (.iconst 0, 15, 0, 0, 0, .int 0)), (15, (.istore 4, 17, 0, 0, 0, .null)), (17, (.iload 4, 19, 0, 0, 0, .null)), (19, (.sipush 500, 22, 0, 0, 0, .int 500)), (22, (.if_icmp .ge 216, 25, 238, 0, 0, .null)), (25, (.iload_n 3, 26, 0, 0, 0, .null)), (26, (.aload_n 0, 27, 0, 0, 0, .null)), (27, (.getfield 63, 30, 11, 27, 0, .null)), (30, (.iload_n 1, 31, 0, 0, 0, .null)), (31, (.iaload, 32, 0, 0, 0, .null)), (32, (.if_icmp .ge 206, 35, 238, 0, 0, .null)), (35, (.aload_n 0, 36, 0, 0, 0, .null)), (36, (.getfield 7, 39, 11, 3, 0, .null)), (39, (.iload_n 3, 40, 0, 0, 0, .null)), (40, (.iaload, 41, 0, 0, 0, .null)), (41, (.bipush 60, 43, 0, 0, 0, .int 60)), (43, (.if_icmp .eq 20, 46, 63, 0, 0, .null)), (46, (.iload_n 2, 47, 0, 0, 0, .null)), (47, (.aload_n 0, 48, 0, 0, 0, .null)), (48, (.getfield 7, 51, 11, 3, 0, .null)), (51, (.iload_n 3, 52, 0, 0, 0, .null)), (52, (.iaload, 53, 0, 0, 0, .null)), (53, (.invokestatic 175, 56, 155, 2, 99, .null)), (56, (.istore_n 2, 57, 0, 0, 0, .null)), (57, (.iinc 3 1, 60, 0, 0, 0, .int 1)), (60, (.goto 172, 63, 232, 0, 0, .null)), (63, (.aload_n 0, 64, 0, 0, 0, .null)), (64, (.getfield 7, 67, 11, 3, 0, .null)), (67, (.iload_n 3, 68, 0, 0, 0, .null)), (68, (.iconst 1, 69, 0, 0, 0, .int 1)), (69, (.iadd, 70, 0, 0, 0, .null)), (70, (.iaload, 71, 0, 0, 0, .null)), (71, (.bipush 33, 73, 0, 0, 0, .int 33)), (73, (.if_icmp .ne 12, 76, 85, 0, 0, .null)), (76, (.aload_n 0, 77, 0, 0, 0, .null)), (77, (.iload_n 3, 78, 0, 0, 0, .null)), (78, (.invokevirtual 160, 81, 150, 2, 11, .null)), (81, (.istore_n 3, 82, 0, 0, 0, .null)), (82, (.goto 150, 85, 232, 0, 0, .null)), (85, (.aload_n 0, 86, 0, 0, 0, .null)), (86, (.getfield 7, 89, 11, 3, 0, .null)), (89, (.iload_n 3, 90, 0, 0, 0, .null)), (90, (.iconst 1, 91, 0, 0, 0, .int 1)), (91, (.iadd, 92, 0, 0, 0, .null)), (92, (.iaload, 93, 0, 0, 0, .null)), (93, (.bipush 47, 95, 0, 0, 0, .int 47)), (95, (.if_icmp .ne 30, 98, 125, 0, 0, .null)), (98, (.aload_n 0, 99, 0, 0, 0, .null)), (99, (.iload_n 3, 100, 0, 0, 0, .null)), (100, (.iconst 1, 101, 0, 0, 0, .int 1)), (101, (.invokevirtual 187, 104, 160, 3, 11, .null)), (104, (.istore 5, 106, 0, 0, 0, .null)), (106, (.aload_n 0, 107, 0, 0, 0, .null)), (107, (.iload_n 2, 108, 0, 0, 0, .null)), (108, (.iload 5, 110, 0, 0, 0, .null)), (110, (.invokevirtual 191, 113, 159, 3, 11, .null)), (113, (.istore_n 2, 114, 0, 0, 0, .null)), (114, (.aload_n 0, 115, 0, 0, 0, .null)), (115, (.getfield 66, 118, 11, 28, 0, .null)), (118, (.iload 5, 120, 0, 0, 0, .null)), (120, (.iaload, 121, 0, 0, 0, .null)), (121, (.istore_n 3, 122, 0, 0, 0, .null)), (122, (.goto 110, 125, 232, 0, 0, .null)), (125, (.aload_n 0, 126, 0, 0, 0, .null)), (126, (.iload_n 3, 127, 0, 0, 0, .null)), (127, (.iconst 0, 128, 0, 0, 0, .int 0)), (128, (.invokevirtual 187, 131, 160, 3, 11, .null)), (131, (.istore 5, 133, 0, 0, 0, .null)), (133, (.aload_n 0, 134, 0, 0, 0, .null)), (134, (.getfield 54, 137, 11, 24, 0, .null)), (137, (.iload 5, 139, 0, 0, 0, .null)), (139, (.iaload, 140, 0, 0, 0, .null)), (140, (.iload_n 1, 141, 0, 0, 0, .null)), (141, (.if_icmp .ne 21, 144, 162, 0, 0, .null)), (144, (.aload_n 0, 145, 0, 0, 0, .null)), (145, (.getfield 51, 148, 11, 23, 0, .null)), (148, (.iload 5, 150, 0, 0, 0, .null)), (150, (.laload, 151, 0, 0, 0, .null)), (151, (.ldc2_w 194, 154, 0, 0, 0, .long 126896536813568)), (154, (.lcmp, 155, 0, 0, 0, .null)), (155, (.ifCond .ne 7, 158, 162, 0, 0, .null)), (158, (.iconst 1, 159, 0, 0, 0, .int 1)), (159, (.goto 4, 162, 163, 0, 0, .null)), (162, (.iconst 0, 163, 0, 0, 0, .int 0)), (163, (.istore 6, 165, 0, 0, 0, .null)), (165, (.iload 6, 167, 0, 0, 0, .null)), (167, (.ifCond .eq 7, 170, 174, 0, 0, .null)), (170, (.iload_n 2, 171, 0, 0, 0, .null)), (171, (.goto 10, 174, 181, 0, 0, .null)), (174, (.aload_n 0, 175, 0, 0, 0, .null)), (175, (.iload_n 2, 176, 0, 0, 0, .null)), (176, (.iload 5, 178, 0, 0, 0, .null)), (178, (.invokevirtual 184, 181, 158, 3, 11, .null)), (181, (.istore_n 2, 182, 0, 0, 0, .null)), (182, (.iload 6, 184, 0, 0, 0, .null)), (184, (.ifCond .ne 13, 187, 197, 0, 0, .null)), (187, (.aload_n 0, 188, 0, 0, 0, .null)), (188, (.getfield 69, 191, 11, 29, 0, .null)), (191, (.iload 5, 193, 0, 0, 0, .null)), (193, (.baload, 194, 0, 0, 0, .null)), (194, (.ifCond .ne 7, 197, 201, 0, 0, .null)), (197, (.iload_n 2, 198, 0, 0, 0, .null)), (198, (.goto 10, 201, 208, 0, 0, .null)), (201, (.aload_n 0, 202, 0, 0, 0, .null)), (202, (.iload_n 2, 203, 0, 0, 0, .null)), (203, (.iload 5, 205, 0, 0, 0, .null)), (205, (.invokevirtual 191, 208, 159, 3, 11, .null)), (208, (.istore_n 2, 209, 0, 0, 0, .null)), (209, (.iload 6, 211, 0, 0, 0, .null)), (211, (.ifCond .eq 13, 214, 224, 0, 0, .null)), (214, (.aload_n 0, 215, 0, 0, 0, .null)), (215, (.getfield 66, 218, 11, 28, 0, .null)), (218, (.iload 5, 220, 0, 0, 0, .null)), (220, (.iaload, 221, 0, 0, 0, .null)), (221, (.goto 10, 224, 231, 0, 0, .null)), (224, (.aload_n 0, 225, 0, 0, 0, .null)), (225, (.getfield 60, 228, 11, 26, 0, .null)), (228, (.iload 5, 230, 0, 0, 0, .null)), (230, (.iaload, 231, 0, 0, 0, .null)), (231, (.istore_n 3, 232, 0, 0, 0, .null)), (232, (.iinc 4 1, 235, 0, 0, 0, .int 1)), (235, (.goto (-218), 238, 17, 0, 0, .null)), (238, (.aload_n 0, 239, 0, 0, 0, .null)), (239, (.iload_n 2, 240, 0, 0, 0, .null)), (240, (.iload_n 1, 241, 0, 0, 0, .null)), (241, (.invokevirtual 191, 244, 159, 3, 11, .null)), (244, (.ireturn, 245, 0, 0, 0, .null))]
/-- AssertionGateModel.digest(I)I -/
def tb162 : mB := [(0, (.aload_n 0, 1, 0, 0, 0, .null)), (1, (.invokevirtual 169, 4, 153, 1, 11, .null)), (4, (.istore_n 2, 5, 0, 0, 0, .null)), (5, (.iload_n 1, 6, 0, 0, 0, .null)), (6, (.ifCond .lt 8, 9, 14, 0, 0, .null)), (9, (.iload_n 1, 10, 0, 0, 0, .null)), (10, (.iload_n 2, 11, 0, 0, 0, .null)), (11, (.if_icmp .lt 7, 14, 18, 0, 0, .null)), (14, (.iconst (-1), 15, 0, 0, 0, .int (-1))), (15, (.goto 8, 18, 23, 0, 0, .null)), (18, (.aload_n 0, 19, 0, 0, 0, .null)), (19, (.iload_n 1, 20, 0, 0, 0, .null)), (20, (.invokevirtual 196, 23, 161, 2, 11, .null)), (23, (.ireturn, 24, 0, 0, 0, .null))]
/-- AssertionGateModel.seal(II)I -/
def tb163 : mB := [(0, (.aload_n 0, 1, 0, 0, 0, .null)), (1, (.iload_n 2, 2, 0, 0, 0, .null)), (2, (.invokevirtual 199, 5, 162, 2, 11, .null)), (5, (.istore_n 3, 6, 0, 0, 0, .null)), (6, (.iload_n 1, 7, 0, 0, 0, .null)), (7, (.invokestatic 93, 10, 125, 1, 99, .null)), (10, (.ifCond .eq 16, 13, 26, 0, 0, .null)), (13, (.aload_n 0, 14, 0, 0, 0, .null)), (14, (.getfield 22, 17, 11, 9, 0, .null)), (17, (.iload_n 1, 18, 0, 0, 0, .null)), (18, (.iaload, 19, 0, 0, 0, .null)), (19, (.ifCond .eq 7, 22, 26, 0, 0, .null)), (22, (.iload_n 3, 23, 0, 0, 0, .null)), (23, (.ifCond .ge 7, 26, 30, 0, 0, .null)), (26, (.iconst (-1), 27, 0, 0, 0, .int (-1))), (27, (.goto 19, 30, 46, 0, 0, .null)), (30, (.iload_n 3, 31, 0, 0, 0, .null)), (31, (.aload_n 0, 32, 0, 0, 0, .null)), (32, (.getfield 25, 35, 11, 10, 0, .null)), (35, (.iload_n 1, 36, 0, 0, 0, .null)), (36, (.iaload, 37, 0, 0, 0, .null)), (37, (.aload_n 0, 38, 0, 0, 0, .null)), (38, (.getfield 22, 41, 11, 9, 0, .null)), (41, (.iload_n 1, 42, 0, 0, 0, .null)), (42, (.iaload, 43, 0, 0, 0, .null)), (43, (.invokestatic 202, 46, 133, 3, 99, .null)), (46, (.ireturn, 47, 0, 0, 0, .null))]
/-- AssertionGateModel.pack(II)J -/
def tb164 : mB := [(0, (.lconst 0, 1, 0, 0, 0, .long 0)), (1, (.lstore_n 3, 2, 0, 0, 0, .null)), (2, (.iconst 0, 3, 0, 0, 0, .int 0)), (3, (.istore 5, 5, 0, 0, 0, .null)), (5, (.iload_n 1, 6, 0, 0, 0, .null)), (6, (.istore 6, 8, 0, 0, 0, .null)), (8, (.iload 6, 10, 0, 0, 0, .null)), (10, (.iload_n 2, 11, 0, 0, 0, .null)), (11, (.if_icmp .ge 60, 14, 71, 0, 0, .null)), (14, (.iload 5, 16, 0, 0, 0, .null)), (16, (.ifCond .ne 15, 19, 31, 0, 0, .null)), (19, (.aload_n 0, 20, 0, 0, 0, .null)), (20, (.getfield 7, 23, 11, 3, 0, .null)), (23, (.iload 6, 25, 0, 0, 0, .null)), (25, (.iaload, 26, 0, 0, 0, .null)), (26, (.bipush 60, 28, 0, 0, 0, .int 60)), (28, (.if_icmp .ne 7, 31, 35, 0, 0, .null)), (31, (.iconst 1, 32, 0, 0, 0, .int 1)), (32, (.goto 4, 35, 36, 0, 0, .null)), (35, (.iconst 0, 36, 0, 0, 0, .int 0)), (36, (.istore 5, 38, 0, 0, 0, .null)), (38, (.iload 6, 40, 0, 0, 0, .null)), (40, (.iload_n 1, 41, 0, 0, 0, .null)), (41, (.bipush 8, 43, 0, 0, 0, .int 8)), (43, (.iadd, 44, 0, 0, 0, .null)), (44, (.if_icmp .ge 19, 47, 63, 0, 0, .null)), (47, (.lload_n 3, 48, 0, 0, 0, .null)), (48, (.bipush 8, 50, 0, 0, 0, .int 8)), (50, (.lshl, 51, 0, 0, 0, .null)), (51, (.aload_n 0, 52, 0, 0, 0, .null)), (52, (.getfield 7, 55, 11, 3, 0, .null)), (55, (.iload 6, 57, 0, 0, 0, .null)), (57, (.iaload, 58, 0, 0, 0, .null)), (58, (.i2l, 59, 0, 0, 0, .null)), (59, (.lor, 60, 0, 0, 0, .null)), (60, (.goto 4, 63, 64, 0, 0, .null)), (63, (.lload_n 3, 64, 0, 0, 0, .null)), (64, (.lstore_n 3, 65, 0, 0, 0, .null)), (65, (.iinc 6 1, 68, 0, 0, 0, .int 1)), (68, (.goto (-60), 71, 8, 0, 0, .null)), (71, (.iload 5, 73, 0, 0, 0, .null)), (73, (.ifCond .ne 11, 76, 84, 0, 0, .null)), (76, (.iload_n 2, 77, 0, 0, 0, .null)), (77, (.iload_n 1, 78, 0, 0, 0, .null)), (78, (.isub, 79, 0, 0, 0, .null)), (79, (.bipush 8, 81, 0, 0, 0, .int 8)), (81, (.if_icmp .le 7, 84, 88, 0, 0, .null)), (84, (.lconst 0, 85, 0, 0, 0, .long 0)), (85, (.goto 4, 88, 89, 0, 0, .null)), (88, (.lload_n 3, 89, 0, 0, 0, .null)), (89, (.lreturn, 90, 0, 0, 0, .null))]
/-- AssertionGateModel.wordOf(I)J -/
def tb165 : mB := [(0, (.aload_n 0, 1, 0, 0, 0, .null)), (1, (.aload_n 0, 2, 0, 0, 0, .null)), (2, (.getfield 60, 5, 11, 26, 0, .null)), (5, (.iload_n 1, 6, 0, 0, 0, .null)), (6, (.iaload, 7, 0, 0, 0, .null)), (7, (.aload_n 0, 8, 0, 0, 0, .null)), (8, (.getfield 63, 11, 11, 27, 0, .null)), (11, (.iload_n 1, 12, 0, 0, 0, .null)), (12, (.iaload, 13, 0, 0, 0, .null)), (13, (.invokevirtual 206, 16, 164, 3, 11, .null)), (16, (.lreturn, 17, 0, 0, 0, .null))]
/-- AssertionGateModel.keyOf(IJ)J -/
def tb166 : mB := [(0, (.aload_n 0, 1, 0, 0, 0, .null)), (1, (.iload_n 1, 2, 0, 0, 0, .null)), (2, (.lload_n 2, 3, 0, 0, 0, .null)), (3, (.invokevirtual 142, 6, 148, 3, 11, .null)), (6, (.istore 4, 8, 0, 0, 0, .null)), (8, (.iload 4, 10, 0, 0, 0, .null)), (10, (.ifCond .ge 7, 13, 17, 0, 0, .null)), (13, (.lconst 0, 14, 0, 0, 0, .long 0)), (14, (.goto 21, 17, 35, 0, 0, .null)), (17, (.aload_n 0, 18, 0, 0, 0, .null)), (18, (.aload_n 0, 19, 0, 0, 0, .null)), (19, (.getfield 78, 22, 11, 32, 0, .null)), (22, (.iload 4, 24, 0, 0, 0, .null)), (24, (.iaload, 25, 0, 0, 0, .null)), (25, (.aload_n 0, 26, 0, 0, 0, .null)), (26, (.getfield 81, 29, 11, 33, 0, .null)), (29, (.iload 4, 31, 0, 0, 0, .null)), (31, (.iaload, 32, 0, 0, 0, .null)), (32, (.invokevirtual 206, 35, 164, 3, 11, .null)), (35, (.lreturn, 36, 0, 0, 0, .null))]
/-- AssertionGateModel.numberOf(IJ)I -/
def tb167 : mB := [(0, (.aload_n 0, 1, 0, 0, 0, .null)), (1, (.iload_n 1, 2, 0, 0, 0, .null)), (2, (.lload_n 2, 3, 0, 0, 0, .null)), (3, (.invokevirtual 142, 6, 148, 3, 11, .null)), (6, (.istore 4, 8, 0, 0, 0, .null)), (8, (.iload 4, 10, 0, 0, 0, .null)), (10, (.ifCond .lt 42, 13, 52, 0, 0, .null)), (13, (.aload_n 0, 14, 0, 0, 0, .null)), (14, (.getfield 81, 17, 11, 33, 0, .null)), (17, (.iload 4, 19, 0, 0, 0, .null)), (19, (.iaload, 20, 0, 0, 0, .null)), (20, (.aload_n 0, 21, 0, 0, 0, .null)), (21, (.getfield 78, 24, 11, 32, 0, .null)), (24, (.iload 4, 26, 0, 0, 0, .null)), (26, (.iaload, 27, 0, 0, 0, .null)), (27, (.isub, 28, 0, 0, 0, .null)), (28, (.iconst 1, 29, 0, 0, 0, .int 1)), (29, (.if_icmp .lt 23, 32, 52, 0, 0, .null)), (32, (.aload_n 0, 33, 0, 0, 0, .null)), (33, (.getfield 81, 36, 11, 33, 0, .null)), (36, (.iload 4, 38, 0, 0, 0, .null)), (38, (.iaload, 39, 0, 0, 0, .null)), (39, (.aload_n 0, 40, 0, 0, 0, .null)), (40, (.getfield 78, 43, 11, 32, 0, .null)), (43, (.iload 4, 45, 0, 0, 0, .null)), (45, (.iaload, 46, 0, 0, 0, .null)), (46, (.isub, 47, 0, 0, 0, .null)), (47, (.bipush 9, 49, 0, 0, 0, .int 9)), (49, (.if_icmp .le 5, 52, 54, 0, 0, .null)), (52, (.iconst (-1), 53, 0, 0, 0, .int (-1))), (53, (.ireturn, 54, 0, 0, 0, .null)), (54, (.iconst 0, 55, 0, 0, 0, .int 0)), (55, (.istore 5, 57, 0, 0, 0, .null)), (57, (.iconst 1, 58, 0, 0, 0, .int 1)), (58, (.istore 6, 60, 0, 0, 0, .null)), (60, (.aload_n 0, 61, 0, 0, 0, .null)), (61, (.getfield 78, 64, 11, 32, 0, .null)), (64, (.iload 4, 66, 0, 0, 0, .null)), (66, (.iaload, 67, 0, 0, 0, .null)), (67, (.istore 7, 69, 0, 0, 0, .null)), (69, (.iload 7, 71, 0, 0, 0, .null)), (71, (.aload_n 0, 72, 0, 0, 0, .null)), (72, (.getfield 81, 75, 11, 33, 0, .null)), (75, (.iload 4, 77, 0, 0, 0, .null)), (77, (.iaload, 78, 0, 0, 0, .null)), (78, (.if_icmp .ge 73, 81, 151, 0, 0, .null)), (81, (.iload 6, 83, 0, 0, 0, .null)), (83, (.ifCond .eq 31, 86, 114, 0, 0, .null)), (86, (.aload_n 0, 87, 0, 0, 0, .null)), (87, (.getfield 7, 90, 11, 3, 0, .null)), (90, (.iload 7, 92, 0, 0, 0, .null)), (92, (.iaload, 93, 0, 0, 0, .null)), (93, (.bipush 48, 95, 0, 0, 0, .int 48)), (95, (.if_icmp .lt 19, 98, 114, 0, 0, .null)), (98, (.aload_n 0, 99, 0, 0, 0, .null)), (99, (.getfield 7, 102, 11, 3, 0, .null)), (102, (.iload 7, 104, 0, 0, 0, .null)), (104, (.iaload, 105, 0, 0, 0, .null)), (105, (.bipush 57, 107, 0, 0, 0, .int 57)), (107, (.if_icmp .gt 7, 110, 114, 0, 0, .null)), (110, (.iconst 1, 111, 0, 0, 0, .int 1)), (111, (.goto 4, 114, 115, 0, 0, .null)), (114, (.iconst 0, 115, 0, 0, 0, .int 0)), (115, (.istore 6, 117, 0, 0, 0, .null)), (117, (.iload 6, 119, 0, 0, 0, .null)), (119, (.ifCond .eq 22, 122, 141, 0, 0, .null)), (122, (.iload 5, 124, 0, 0, 0, .null)), (124, (.bipush 10, 126, 0, 0, 0, .int 10)), (126, (.imul, 127, 0, 0, 0, .null)), (127, (.aload_n 0, 128, 0, 0, 0, .null)), (128, (.getfield 7, 131, 11, 3, 0, .null)), (131, (.iload 7, 133, 0, 0, 0, .null)), (133, (.iaload, 134, 0, 0, 0, .null)), (134, (.iadd, 135, 0, 0, 0, .null)), (135, (.bipush 48, 137, 0, 0, 0, .int 48)), (137, (.isub, 138, 0, 0, 0, .null)), (138, (.goto 5, 141, 143, 0, 0, .null)), (141, (.iload 5, 143, 0, 0, 0, .null)), (143, (.istore 5, 145, 0, 0, 0, .null)), (145, (.iinc 7 1, 148, 0, 0, 0, .int 1)), (148, (.goto (-79), 151, 69, 0, 0, .null)), (151, (.iload 6, 153, 0, 0, 0, .null)), (153, (.ifCond .eq 8, 156, 161, 0, 0, .null)), (156, (.iload 5, 158, 0, 0, 0, .null)), (158, (.goto 4, 161, 162, 0, 0, .null)), (161, (.iconst (-1), 162, 0, 0, 0, .int (-1))), (162, (.ireturn, 163, 0, 0, 0, .null))]
/-- AssertionGateModel.same(II)Z -/
def tb168 : mB := [(0, (.aload_n 0, 1, 0, 0, 0, .null)), (1, (.getfield 81, 4, 11, 33, 0, .null)), (4, (.iload_n 1, 5, 0, 0, 0, .null)), (5, (.iaload, 6, 0, 0, 0, .null)), (6, (.aload_n 0, 7, 0, 0, 0, .null)), (7, (.getfield 78, 10, 11, 32, 0, .null)), (10, (.iload_n 1, 11, 0, 0, 0, .null)), (11, (.iaload, 12, 0, 0, 0, .null)), (12, (.isub, 13, 0, 0, 0, .null)), (13, (.istore_n 3, 14, 0, 0, 0, .null)), (14, (.iload_n 3, 15, 0, 0, 0, .null)), (15, (.aload_n 0, 16, 0, 0, 0, .null)), (16, (.getfield 81, 19, 11, 33, 0, .null)), (19, (.iload_n 2, 20, 0, 0, 0, .null)), (20, (.iaload, 21, 0, 0, 0, .null)), (21, (.aload_n 0, 22, 0, 0, 0, .null)), (22, (.getfield 78, 25, 11, 32, 0, .null)), (25, (.iload_n 2, 26, 0, 0, 0, .null)), (26, (.iaload, 27, 0, 0, 0, .null)), (27, (.isub, 28, 0, 0, 0, .null)), (28, (.if_icmp .ne 7, 31, 35, 0, 0, .null)), (31, (.iconst 1, 32, 0, 0, 0, .int 1)), (32, (.goto 4, 35, 36, 0, 0, .null)), (35, (.iconst 0, 36, 0, 0, 0, .int 0)), (36, (.istore 4, 38, 0, 0, 0, .null)), (38, (.iconst 0, 39, 0, 0, 0, .int 0)), (39, (.istore 5, 41, 0, 0, 0, .null)), (41, (.iload 5, 43, 0, 0, 0, .null)), (43, (.iload_n 3, 44, 0, 0, 0, .null)), (44, (.if_icmp .ge 52, 47, 96, 0, 0, .null)), (47, (.iload 4, 49, 0, 0, 0, .null)), (49, (.ifCond .eq 47, 52, 96, 0, 0, .null)), (52, (.aload_n 0, 53, 0, 0, 0, .null)), (53, (.getfield 7, 56, 11, 3, 0, .null)), (56, (.aload_n 0, 57, 0, 0, 0, .null)), (57, (.getfield 78, 60, 11, 32, 0, .null)), (60, (.iload_n 1, 61, 0, 0, 0, .null)), (61, (.iaload, 62, 0, 0, 0, .null)), (62, (.iload 5, 64, 0, 0, 0, .null)), (64, (.iadd, 65, 0, 0, 0, .null)), (65, (.iaload, 66, 0, 0, 0, .null)), (66, (.aload_n 0, 67, 0, 0, 0, .null)), (67, (.getfield 7, 70, 11, 3, 0, .null)), (70, (.aload_n 0, 71, 0, 0, 0, .null)), (71, (.getfield 78, 74, 11, 32, 0, .null)), (74, (.iload_n 2, 75, 0, 0, 0, .null)), (75, (.iaload, 76, 0, 0, 0, .null)), (76, (.iload 5, 78, 0, 0, 0, .null)), (78, (.iadd, 79, 0, 0, 0, .null)), (79, (.iaload, 80, 0, 0, 0, .null)), (80, (.if_icmp .ne 7, 83, 87, 0, 0, .null)), (83, (.iconst 1, 84, 0, 0, 0, .int 1)), (84, (.goto 4, 87, 88, 0, 0, .null)), (87, (.iconst 0, 88, 0, 0, 0, .int 0)), (88, (.istore 4, 90, 0, 0, 0, .null)), (90, (.iinc 5 1, 93, 0, 0, 0, .int 1)), (93, (.goto (-52), 96, 41, 0, 0, .null)), (96, (.iload 4, 98, 0, 0, 0, .null)), (98, (.ireturn, 99, 0, 0, 0, .null))]
/-- AssertionGateModel.children(IJ)I -/
def tb169 : mB := [(0, (.iconst 0, 1, 0, 0, 0, .int 0)), (1, (.istore 4, 3, 0, 0, 0, .null)), (3, (.iconst 0, 4, 0, 0, 0, .int 0)), (4, (.istore 5, 6, 0, 0, 0, .null)), (6, (.iload 5, 8, 0, 0, 0, .null)), (8, (.aload_n 0, 9, 0, 0, 0, .null)), (9, (.getfield 146, 12, 11, 22, 0, .null)), (12, (.if_icmp .ge 42, 15, 54, 0, 0, .null)), (15, (.iload 4, 17, 0, 0, 0, .null)), (17, (.aload_n 0, 18, 0, 0, 0, .null)), (18, (.getfield 54, 21, 11, 24, 0, .null)), (21, (.iload 5, 23, 0, 0, 0, .null)), (23, (.iaload, 24, 0, 0, 0, .null)), (24, (.iload_n 1, 25, 0, 0, 0, .null)), (25, (.if_icmp .ne 19, 28, 44, 0, 0, .null)), (28, (.aload_n 0, 29, 0, 0, 0, .null)), (29, (.getfield 51, 32, 11, 23, 0, .null)), (32, (.iload 5, 34, 0, 0, 0, .null)), (34, (.laload, 35, 0, 0, 0, .null)), (35, (.lload_n 2, 36, 0, 0, 0, .null)), (36, (.lcmp, 37, 0, 0, 0, .null)), (37, (.ifCond .ne 7, 40, 44, 0, 0, .null)), (40, (.iconst 1, 41, 0, 0, 0, .int 1)), (41, (.goto 4, 44, 45, 0, 0, .null)), (44, (.iconst 0, 45, 0, 0, 0, .int 0)), (45, (.iadd, 46, 0, 0, 0, .null)), (46, (.istore 4, 48, 0, 0, 0, .null)), (48, (.iinc 5 1, 51, 0, 0, 0, .int 1)), (51, (.goto (-45), 54, 6, 0, 0, .null)), (54, (.iload 4, 56, 0, 0, 0, .null)), (56, (.ireturn, 57, 0, 0, 0, .null))]
/-- AssertionGateModel.child(IJ)I -/
def tb170 : mB := [(0, (.iconst 0, 1, 0, 0, 0, .int 0)), (1, (.istore 4, 3, 0, 0, 0, .null)), (3, (.iload 4, 5, 0, 0, 0, .null)), (5, (.aload_n 0, 6, 0, 0, 0, .null)), (6, (.getfield 146, 9, 11, 22, 0, .null)), (9, (.if_icmp .ge 35, 12, 44, 0, 0, .null)), (12, (.aload_n 0, 13, 0, 0, 0, .null)), (13, (.getfield 54, 16, 11, 24, 0, .null)), (16, (.iload 4, 18, 0, 0, 0, .null)), (18, (.iaload, 19, 0, 0, 0, .null)), (19, (.iload_n 1, 20, 0, 0, 0, .null)), (20, (.if_icmp .ne 18, 23, 38, 0, 0, .null)), (23, (.aload_n 0, 24, 0, 0, 0, .null)), (24, (.getfield 51, 27, 11, 23, 0, .null)), (27, (.iload 4, 29, 0, 0, 0, .null)), (29, (.laload, 30, 0, 0, 0, .null)), (30, (.lload_n 2, 31, 0, 0, 0, .null)), (31, (.lcmp, 32, 0, 0, 0, .null)), (32, (.ifCond .ne 6, 35, 38, 0, 0, .null)), (35, (.iload 4, 37, 0, 0, 0, .null)), (37, (.ireturn, 38, 0, 0, 0, .null)), (38, (.iinc 4 1, 41, 0, 0, 0, .int 1)), (41, (.goto (-38), 44, 3, 0, 0, .null)), (44, (.iconst (-1), 45, 0, 0, 0, .int (-1))), (45, (.ireturn, 46, 0, 0, 0, .null))]
/-- AssertionGateModel.oneWord(IJ)Z -/
def tb171 : mB := [(0, (.aload_n 0, 1, 0, 0, 0, .null)), (1, (.iload_n 1, 2, 0, 0, 0, .null)), (2, (.lload_n 2, 3, 0, 0, 0, .null)), (3, (.invokevirtual 210, 6, 169, 3, 11, .null)), (6, (.iconst 1, 7, 0, 0, 0, .int 1)), (7, (.if_icmp .ne 22, 10, 29, 0, 0, .null)), (10, (.aload_n 0, 11, 0, 0, 0, .null)), (11, (.aload_n 0, 12, 0, 0, 0, .null)), (12, (.iload_n 1, 13, 0, 0, 0, .null)), (13, (.lload_n 2, 14, 0, 0, 0, .null)), (14, (.invokevirtual 213, 17, 170, 3, 11, .null)), (17, (.invokevirtual 216, 20, 165, 2, 11, .null)), (20, (.lconst 0, 21, 0, 0, 0, .long 0)), (21, (.lcmp, 22, 0, 0, 0, .null)), (22, (.ifCond .eq 7, 25, 29, 0, 0, .null)), (25, (.iconst 1, 26, 0, 0, 0, .int 1)), (26, (.goto 4, 29, 30, 0, 0, .null)), (29, (.iconst 0, 30, 0, 0, 0, .int 0)), (30, (.ireturn, 31, 0, 0, 0, .null))]
/-- AssertionGateModel.sigs(I)Z -/
def tb172 : mB := [(0, (.aload_n 0, 1, 0, 0, 0, .null)), (1, (.iload_n 1, 2, 0, 0, 0, .null)), (2, (.ldc2_w 194, 5, 0, 0, 0, .long 126896536813568)), (5, (.invokevirtual 213, 8, 170, 3, 11, .null)), (8, (.istore_n 2, 9, 0, 0, 0, .null)), (9, (.iload_n 2, 10, 0, 0, 0, .null)), (10, (.ifCond .lt 37, 13, 47, 0, 0, .null)), (13, (.aload_n 0, 14, 0, 0, 0, .null)), (14, (.iload_n 1, 15, 0, 0, 0, .null)), (15, (.ldc2_w 194, 18, 0, 0, 0, .long 126896536813568)), (18, (.invokevirtual 210, 21, 169, 3, 11, .null)), (21, (.iconst 1, 22, 0, 0, 0, .int 1)), (22, (.if_icmp .ne 29, 25, 51, 0, 0, .null)), (25, (.aload_n 0, 26, 0, 0, 0, .null)), (26, (.iload_n 2, 27, 0, 0, 0, .null)), (27, (.ldc2_w 220, 30, 0, 0, 0, .long 125779828539392)), (30, (.invokevirtual 142, 33, 148, 3, 11, .null)), (33, (.ifCond .lt 18, 36, 51, 0, 0, .null)), (36, (.aload_n 0, 37, 0, 0, 0, .null)), (37, (.iload_n 2, 38, 0, 0, 0, .null)), (38, (.ldc2_w 222, 41, 0, 0, 0, .long 129742372077568)), (41, (.invokevirtual 224, 44, 167, 3, 11, .null)), (44, (.ifCond .lt 7, 47, 51, 0, 0, .null)), (47, (.iconst 1, 48, 0, 0, 0, .int 1)), (48, (.goto 4, 51, 52, 0, 0, .null)), (51, (.iconst 0, 52, 0, 0, 0, .int 0)), (52, (.ireturn, 53, 0, 0, 0, .null))]
/-- AssertionGateModel.twice()Z -/
def tb173 : mB := [(0, (.iconst 0, 1, 0, 0, 0, .int 0)), (1, (.istore_n 1, 2, 0, 0, 0, .null)), (2, (.iconst 0, 3, 0, 0, 0, .int 0)), (3, (.istore_n 2, 4, 0, 0, 0, .null)), (4, (.iload_n 2, 5, 0, 0, 0, .null)), (5, (.aload_n 0, 6, 0, 0, 0, .null)), (6, (.getfield 146, 9, 11, 22, 0, .null)), (9, (.if_icmp .ge 73, 12, 82, 0, 0, .null)), (12, (.iconst 0, 13, 0, 0, 0, .int 0)), (13, (.istore_n 3, 14, 0, 0, 0, .null)), (14, (.iload_n 3, 15, 0, 0, 0, .null)), (15, (.iload_n 2, 16, 0, 0, 0, .null)), (16, (.if_icmp .ge 60, 19, 76, 0, 0, .null)), (19, (.aload_n 0, 20, 0, 0, 0, .null)), (20, (.iload_n 2, 21, 0, 0, 0, .null)), (21, (.ldc2_w 227, 24, 0, 0, 0, .long 115878217646080)), (24, (.invokevirtual 142, 27, 148, 3, 11, .null)), (27, (.istore 4, 29, 0, 0, 0, .null)), (29, (.aload_n 0, 30, 0, 0, 0, .null)), (30, (.iload_n 3, 31, 0, 0, 0, .null)), (31, (.ldc2_w 227, 34, 0, 0, 0, .long 115878217646080)), (34, (.invokevirtual 142, 37, 148, 3, 11, .null)), (37, (.istore 5, 39, 0, 0, 0, .null)), (39, (.iload_n 1, 40, 0, 0, 0, .null)), (40, (.ifCond .ne 24, 43, 64, 0, 0, .null)), (43, (.iload 4, 45, 0, 0, 0, .null)), (45, (.ifCond .lt 23, 48, 68, 0, 0, .null)), (48, (.iload 5, 50, 0, 0, 0, .null)), (50, (.ifCond .lt 18, 53, 68, 0, 0, .null)), (53, (.aload_n 0, 54, 0, 0, 0, .null)), (54, (.iload 4, 56, 0, 0, 0, .null)), (56, (.iload 5, 58, 0, 0, 0, .null)), (58, (.invokevirtual 229, 61, 168, 3, 11, .null)), (61, (.ifCond .eq 7, 64, 68, 0, 0, .null)), (64, (.iconst 1, 65, 0, 0, 0, .int 1)), (65, (.goto 4, 68, 69, 0, 0, .null)), (68, (.iconst 0, 69, 0, 0, 0, .int 0)), (69, (.istore_n 1, 70, 0, 0, 0, .null)), (70, (.iinc 3 1, 73, 0, 0, 0, .int 1)), (73, (.goto (-59), 76, 14, 0, 0, .null)), (76, (.iinc 2 1, 79, 0, 0, 0, .int 1)), (79, (.goto (-75), 82, 4, 0, 0, .null)), (82, (.iload_n 1, 83, 0, 0, 0, .null)), (83, (.ireturn, 84, 0, 0, 0, .null))]
/-- AssertionGateModel.isResponse()Z -/
def tb174 : mB := [(0, (.aload_n 0, 1, 0, 0, 0, .null)), (1, (.getfield 51, 4, 11, 23, 0, .null)), (4, (.iconst 0, 5, 0, 0, 0, .int 0)), (5, (.laload, 6, 0, 0, 0, .null)), (6, (.ldc2_w 232, 9, 0, 0, 0, .long 125780053983232)), (9, (.lcmp, 10, 0, 0, 0, .null)), (10, (.ifCond .ne 50, 13, 60, 0, 0, .null)), (13, (.aload_n 0, 14, 0, 0, 0, .null)), (14, (.iconst 0, 15, 0, 0, 0, .int 0)), (15, (.ldc2_w 227, 18, 0, 0, 0, .long 115878217646080)), (18, (.invokevirtual 234, 21, 166, 3, 11, .null)), (21, (.lconst 0, 22, 0, 0, 0, .long 0)), (22, (.lcmp, 23, 0, 0, 0, .null)), (23, (.ifCond .eq 37, 26, 60, 0, 0, .null)), (26, (.aload_n 0, 27, 0, 0, 0, .null)), (27, (.iconst 0, 28, 0, 0, 0, .int 0)), (28, (.ldc2_w 238, 31, 0, 0, 0, .long 128020090191872)), (31, (.invokevirtual 142, 34, 148, 3, 11, .null)), (34, (.ifCond .lt 26, 37, 60, 0, 0, .null)), (37, (.aload_n 0, 38, 0, 0, 0, .null)), (38, (.iconst 0, 39, 0, 0, 0, .int 0)), (39, (.ldc2_w 240, 42, 0, 0, 0, .long 115940293345280)), (42, (.invokevirtual 142, 45, 148, 3, 11, .null)), (45, (.ifCond .lt 15, 48, 60, 0, 0, .null)), (48, (.aload_n 0, 49, 0, 0, 0, .null)), (49, (.iconst 0, 50, 0, 0, 0, .int 0)), (50, (.invokevirtual 242, 53, 172, 2, 11, .null)), (53, (.ifCond .eq 7, 56, 60, 0, 0, .null)), (56, (.iconst 1, 57, 0, 0, 0, .int 1)), (57, (.goto 4, 60, 61, 0, 0, .null)), (60, (.iconst 0, 61, 0, 0, 0, .int 0)), (61, (.istore_n 1, 62, 0, 0, 0, .null)), (62, (.iload_n 1, 63, 0, 0, 0, .null)), (63, (.ifCond .eq 37, 66, 100, 0, 0, .null)), (66, (.aload_n 0, 67, 0, 0, 0, .null)), (67, (.iconst 0, 68, 0, 0, 0, .int 0)), (68, (.ldc2_w 245, 71, 0, 0, 0, .long 115944571535360)), (71, (.invokevirtual 247, 74, 171, 3, 11, .null)), (74, (.ifCond .eq 26, 77, 100, 0, 0, .null)), (77, (.aload_n 0, 78, 0, 0, 0, .null)), (78, (.iconst 0, 79, 0, 0, 0, .int 0)), (79, (.ldc2_w 251, 82, 0, 0, 0, .long 126943688392704)), (82, (.invokevirtual 247, 85, 171, 3, 11, .null)), (85, (.ifCond .eq 15, 88, 100, 0, 0, .null)), (88, (.aload_n 0, 89, 0, 0, 0, .null)), (89, (.iconst 0, 90, 0, 0, 0, .int 0)), (90, (.ldc2_w 253, 93, 0, 0, 0, .long 107148485722112)), (93, (.invokevirtual 210, 96, 169, 3, 11, .null)), (96, (.iconst 1, 97, 0, 0, 0, .int 1)), (97, (.if_icmp .eq 5, 100, 102, 0, 0, .null)), (100, (.iconst 0, 101, 0, 0, 0, .int 0)), (101, (.ireturn, 102, 0, 0, 0, .null)), (102, (.aload_n 0, 103, 0, 0, 0, .null)), (103, (.iconst 0, 104, 0, 0, 0, .int 0)), (104, (.ldc2_w 253, 107, 0, 0, 0, .long 107148485722112)), (107, (.invokevirtual 213, 110, 170, 3, 11, .null)), (110, (.istore_n 2, 111, 0, 0, 0, .null)), (111, (.aload_n 0, 112, 0, 0, 0, .null)), (112, (.iload_n 2, 113, 0, 0, 0, .null)), (113, (.ldc2_w 227, 116, 0, 0, 0, .long 115878217646080)), (116, (.invokevirtual 234, 119, 166, 3, 11, .null)), (119, (.lconst 0, 120, 0, 0, 0, .long 0)), (120, (.lcmp, 121, 0, 0, 0, .null)), (121, (.ifCond .eq 46, 124, 167, 0, 0, .null)), (124, (.aload_n 0, 125, 0, 0, 0, .null)), (125, (.iload_n 2, 126, 0, 0, 0, .null)), (126, (.invokevirtual 242, 129, 172, 2, 11, .null)), (129, (.ifCond .eq 38, 132, 167, 0, 0, .null)), (132, (.aload_n 0, 133, 0, 0, 0, .null)), (133, (.iload_n 2, 134, 0, 0, 0, .null)), (134, (.ldc2_w 245, 137, 0, 0, 0, .long 115944571535360)), (137, (.invokevirtual 247, 140, 171, 3, 11, .null)), (140, (.ifCond .eq 27, 143, 167, 0, 0, .null)), (143, (.aload_n 0, 144, 0, 0, 0, .null)), (144, (.iload_n 2, 145, 0, 0, 0, .null)), (145, (.ldc2_w 255, 148, 0, 0, 0, .long 109330244567040)), (148, (.invokevirtual 210, 151, 169, 3, 11, .null)), (151, (.iconst 1, 152, 0, 0, 0, .int 1)), (152, (.if_icmp .ne 15, 155, 167, 0, 0, .null)), (155, (.aload_n 0, 156, 0, 0, 0, .null)), (156, (.iload_n 2, 157, 0, 0, 0, .null)), (157, (.ldc2_w 257, 160, 0, 0, 0, .long 126947999481856)), (160, (.invokevirtual 210, 163, 169, 3, 11, .null)), (163, (.iconst 1, 164, 0, 0, 0, .int 1)), (164, (.if_icmp .eq 5, 167, 169, 0, 0, .null)), (167, (.iconst 0, 168, 0, 0, 0, .int 0)), (168, (.ireturn, 169, 0, 0, 0, .null)), (169, (.aload_n 0, 170, 0, 0, 0, .null)), (170, (.iload_n 2, 171, 0, 0, 0, .null)), (171, (.ldc2_w 255, 174, 0, 0, 0, .long 109330244567040)), (174, (.invokevirtual 213, 177, 170, 3, 11, .null)), (177, (.istore_n 3, 178, 0, 0, 0, .null)), (178, (.aload_n 0, 179, 0, 0, 0, .null)), (179, (.iload_n 2, 180, 0, 0, 0, .null)), (180, (.ldc2_w 257, 183, 0, 0, 0, .long 126947999481856)), (183, (.invokevirtual 213, 186, 170, 3, 11, .null)), (186, (.istore 4, 188, 0, 0, 0, .null)), (188, (.aload_n 0, 189, 0, 0, 0, .null)), (189, (.iload_n 3, 190, 0, 0, 0, .null)), (190, (.ldc2_w 259, 193, 0, 0, 0, .long 107156816789504)), (193, (.invokevirtual 142, 196, 148, 3, 11, .null)), (196, (.ifCond .lt 29, 199, 225, 0, 0, .null)), (199, (.aload_n 0, 200, 0, 0, 0, .null)), (200, (.iload_n 3, 201, 0, 0, 0, .null)), (201, (.ldc2_w 261, 204, 0, 0, 0, .long 121367185850368)), (204, (.invokevirtual 224, 207, 167, 3, 11, .null)), (207, (.ifCond .lt 18, 210, 225, 0, 0, .null)), (210, (.aload_n 0, 211, 0, 0, 0, .null)), (211, (.iload_n 3, 212, 0, 0, 0, .null)), (212, (.ldc2_w 263, 215, 0, 0, 0, .long 121424647815168)), (215, (.invokevirtual 224, 218, 167, 3, 11, .null)), (218, (.ifCond .lt 7, 221, 225, 0, 0, .null)), (221, (.iconst 1, 222, 0, 0, 0, .int 1)), (222, (.goto 4, 225, 226, 0, 0, .null)), (225, (.iconst 0, 226, 0, 0, 0, .int 0)), (226, (.istore 5, 228, 0, 0, 0, .null)), (228, (.iload 5, 230, 0, 0, 0, .null)), (230, (.ifCond .eq 28, 233, 258, 0, 0, .null)), (233, (.aload_n 0, 234, 0, 0, 0, .null)), (234, (.iload 4, 236, 0, 0, 0, .null)), (236, (.ldc2_w 265, 239, 0, 0, 0, .long 121364726218752)), (239, (.invokevirtual 247, 242, 171, 3, 11, .null)), (242, (.ifCond .eq 16, 245, 258, 0, 0, .null)), (245, (.aload_n 0, 246, 0, 0, 0, .null)), (246, (.iload 4, 248, 0, 0, 0, .null)), (248, (.ldc2_w 267, 251, 0, 0, 0, .long 109330244698112)), (251, (.invokevirtual 210, 254, 169, 3, 11, .null)), (254, (.iconst 1, 255, 0, 0, 0, .int 1)), (255, (.if_icmp .eq 5, 258, 260, 0, 0, .null)), (258, (.iconst 0, 259, 0, 0, 0, .int 0)), (259, (.ireturn, 260, 0, 0, 0, .null)), (260, (.aload_n 0, 261, 0, 0, 0, .null)), (261, (.iload 4, 263, 0, 0, 0, .null)), (263, (.ldc2_w 267, 266, 0, 0, 0, .long 109330244698112)), (266, (.invokevirtual 213, 269, 170, 3, 11, .null)), (269, (.istore 6, 271, 0, 0, 0, .null)), (271, (.aload_n 0, 272, 0, 0, 0, .null)), (272, (.iload 6, 274, 0, 0, 0, .null)), (274, (.ldc2_w 240, 277, 0, 0, 0, .long 115940293345280)), (277, (.invokevirtual 142, 280, 148, 3, 11, .null)), (280, (.ifCond .lt 31, 283, 311, 0, 0, .null)), (283, (.aload_n 0, 284, 0, 0, 0, .null)), (284, (.iload 6, 286, 0, 0, 0, .null)), (286, (.ldc2_w 269, 289, 0, 0, 0, .long 125771406376960)), (289, (.invokevirtual 142, 292, 148, 3, 11, .null)), (292, (.ifCond .lt 19, 295, 311, 0, 0, .null)), (295, (.aload_n 0, 296, 0, 0, 0, .null)), (296, (.iload 6, 298, 0, 0, 0, .null)), (298, (.ldc2_w 263, 301, 0, 0, 0, .long 121424647815168)), (301, (.invokevirtual 224, 304, 167, 3, 11, .null)), (304, (.ifCond .lt 7, 307, 311, 0, 0, .null)), (307, (.iconst 1, 308, 0, 0, 0, .int 1)), (308, (.goto 4, 311, 312, 0, 0, .null)), (311, (.iconst 0, 312, 0, 0, 0, .int 0)), (312, (.ireturn, 313, 0, 0, 0, .null))]
/-- AssertionGateModel.isLogout()Z -/
def tb175 : mB := [(0, (.aload_n 0, 1, 0, 0, 0, .null)), (1, (.getfield 51, 4, 11, 23, 0, .null)), (4, (.iconst 0, 5, 0, 0, 0, .int 0)), (5, (.laload, 6, 0, 0, 0, .null)), (6, (.ldc2_w 271, 9, 0, 0, 0, .long 122550248013824)), (9, (.lcmp, 10, 0, 0, 0, .null)), (10, (.ifCond .ne 61, 13, 71, 0, 0, .null)), (13, (.aload_n 0, 14, 0, 0, 0, .null)), (14, (.iconst 0, 15, 0, 0, 0, .int 0)), (15, (.ldc2_w 227, 18, 0, 0, 0, .long 115878217646080)), (18, (.invokevirtual 234, 21, 166, 3, 11, .null)), (21, (.lconst 0, 22, 0, 0, 0, .long 0)), (22, (.lcmp, 23, 0, 0, 0, .null)), (23, (.ifCond .eq 48, 26, 71, 0, 0, .null)), (26, (.aload_n 0, 27, 0, 0, 0, .null)), (27, (.iconst 0, 28, 0, 0, 0, .int 0)), (28, (.ldc2_w 238, 31, 0, 0, 0, .long 128020090191872)), (31, (.invokevirtual 142, 34, 148, 3, 11, .null)), (34, (.ifCond .lt 37, 37, 71, 0, 0, .null)), (37, (.aload_n 0, 38, 0, 0, 0, .null)), (38, (.iconst 0, 39, 0, 0, 0, .int 0)), (39, (.ldc2_w 245, 42, 0, 0, 0, .long 115944571535360)), (42, (.invokevirtual 247, 45, 171, 3, 11, .null)), (45, (.ifCond .eq 26, 48, 71, 0, 0, .null)), (48, (.aload_n 0, 49, 0, 0, 0, .null)), (49, (.iconst 0, 50, 0, 0, 0, .int 0)), (50, (.ldc2_w 265, 53, 0, 0, 0, .long 121364726218752)), (53, (.invokevirtual 247, 56, 171, 3, 11, .null)), (56, (.ifCond .eq 15, 59, 71, 0, 0, .null)), (59, (.aload_n 0, 60, 0, 0, 0, .null)), (60, (.iconst 0, 61, 0, 0, 0, .int 0)), (61, (.invokevirtual 242, 64, 172, 2, 11, .null)), (64, (.ifCond .eq 7, 67, 71, 0, 0, .null)), (67, (.iconst 1, 68, 0, 0, 0, .int 1)), (68, (.goto 4, 71, 72, 0, 0, .null)), (71, (.iconst 0, 72, 0, 0, 0, .int 0)), (72, (.ireturn, 73, 0, 0, 0, .null))]
/-- AssertionGateModel.named(I)I -/
def tb176 : mB := [(0, (.aload_n 0, 1, 0, 0, 0, .null)), (1, (.aload_n 0, 2, 0, 0, 0, .null)), (2, (.iload_n 1, 3, 0, 0, 0, .null)), (3, (.ldc2_w 245, 6, 0, 0, 0, .long 115944571535360)), (6, (.invokevirtual 213, 9, 170, 3, 11, .null)), (9, (.invokevirtual 216, 12, 165, 2, 11, .null)), (12, (.ldc2_w 273, 15, 0, 0, 0, .long 28720)), (15, (.lsub, 16, 0, 0, 0, .null)), (16, (.lstore_n 2, 17, 0, 0, 0, .null)), (17, (.lload_n 2, 18, 0, 0, 0, .null)), (18, (.lconst 0, 19, 0, 0, 0, .long 0)), (19, (.lcmp, 20, 0, 0, 0, .null)), (20, (.ifCond .lt 11, 23, 31, 0, 0, .null)), (23, (.lload_n 2, 24, 0, 0, 0, .null)), (24, (.ldc2_w 275, 27, 0, 0, 0, .long 3)), (27, (.lcmp, 28, 0, 0, 0, .null)), (28, (.ifCond .le 7, 31, 35, 0, 0, .null)), (31, (.iconst (-1), 32, 0, 0, 0, .int (-1))), (32, (.goto 5, 35, 37, 0, 0, .null)), (35, (.lload_n 2, 36, 0, 0, 0, .null)), (36, (.l2i, 37, 0, 0, 0, .null)), (37, (.ireturn, 38, 0, 0, 0, .null))]
/-- AssertionGateModel.sound(I)Z -/
def tb177 : mB := [(0, (.aload_n 0, 1, 0, 0, 0, .null)), (1, (.iload_n 1, 2, 0, 0, 0, .null)), (2, (.ldc2_w 194, 5, 0, 0, 0, .long 126896536813568)), (5, (.invokevirtual 213, 8, 170, 3, 11, .null)), (8, (.istore_n 2, 9, 0, 0, 0, .null)), (9, (.iload_n 2, 10, 0, 0, 0, .null)), (10, (.ifCond .ge 5, 13, 15, 0, 0, .null)), (13, (.iconst 1, 14, 0, 0, 0, .int 1)), (14, (.ireturn, 15, 0, 0, 0, .null)), (15, (.aload_n 0, 16, 0, 0, 0, .null)), (16, (.iload_n 1, 17, 0, 0, 0, .null)), (17, (.invokevirtual 277, 20, 176, 2, 11, .null)), (20, (.istore_n 3, 21, 0, 0, 0, .null)), (21, (.aload_n 0, 22, 0, 0, 0, .null)), (22, (.iload_n 2, 23, 0, 0, 0, .null)), (23, (.ldc2_w 222, 26, 0, 0, 0, .long 129742372077568)), (26, (.invokevirtual 224, 29, 167, 3, 11, .null)), (29, (.istore 4, 31, 0, 0, 0, .null)), (31, (.iload_n 3, 32, 0, 0, 0, .null)), (32, (.ifCond .lt 46, 35, 78, 0, 0, .null)), (35, (.aload_n 0, 36, 0, 0, 0, .null)), (36, (.getfield 16, 39, 11, 7, 0, .null)), (39, (.iload_n 3, 40, 0, 0, 0, .null)), (40, (.iaload, 41, 0, 0, 0, .null)), (41, (.ifCond .eq 37, 44, 78, 0, 0, .null)), (44, (.iload 4, 46, 0, 0, 0, .null)), (46, (.aload_n 0, 47, 0, 0, 0, .null)), (47, (.getfield 16, 50, 11, 7, 0, .null)), (50, (.iload_n 3, 51, 0, 0, 0, .null)), (51, (.iaload, 52, 0, 0, 0, .null)), (52, (.if_icmp .ge 26, 55, 78, 0, 0, .null)), (55, (.aload_n 0, 56, 0, 0, 0, .null)), (56, (.aload_n 0, 57, 0, 0, 0, .null)), (57, (.iload_n 2, 58, 0, 0, 0, .null)), (58, (.ldc2_w 220, 61, 0, 0, 0, .long 125779828539392)), (61, (.invokevirtual 142, 64, 148, 3, 11, .null)), (64, (.aload_n 0, 65, 0, 0, 0, .null)), (65, (.iload_n 1, 66, 0, 0, 0, .null)), (66, (.ldc2_w 227, 69, 0, 0, 0, .long 115878217646080)), (69, (.invokevirtual 142, 72, 148, 3, 11, .null)), (72, (.invokevirtual 229, 75, 168, 3, 11, .null)), (75, (.ifCond .ne 5, 78, 80, 0, 0, .null)), (78, (.iconst 0, 79, 0, 0, 0, .int 0)), (79, (.ireturn, 80, 0, 0, 0, .null)), (80, (.iload 4, 82, 0, 0, 0, .null)), (82, (.aload_n 0, 83, 0, 0, 0, .null)), (83, (.getfield 19, 86, 11, 8, 0, .null)), (86, (.iload_n 3, 87, 0, 0, 0, .null)), (87, (.iaload, 88, 0, 0, 0, .null)), (88, (.aload_n 0, 89, 0, 0, 0, .null)), (89, (.getfield 16, 92, 11, 7, 0, .null)), (92, (.iload_n 3, 93, 0, 0, 0, .null)), (93, (.iaload, 94, 0, 0, 0, .null)), (94, (.invokestatic 202, 97, 133, 3, 99, .null)), (97, (.aload_n 0, 98, 0, 0, 0, .null)), (98, (.iload_n 1, 99, 0, 0, 0, .null)), (99, (.invokevirtual 196, 102, 161, 2, 11, .null)), (102, (.if_icmp .ne 7, 105, 109, 0, 0, .null)), (105, (.iconst 1, 106, 0, 0, 0, .int 1)), (106, (.goto 4, 109, 110, 0, 0, .null)), (109, (.iconst 0, 110, 0, 0, 0, .int 0)), (110, (.ireturn, 111, 0, 0, 0, .null))]
/-- AssertionGateModel.isSeen(J)Z -/
def tb178 : mB := [(0, (.iconst 0, 1, 0, 0, 0, .int 0)), (1, (.istore_n 3, 2, 0, 0, 0, .null)), (2, (.iconst 0, 3, 0, 0, 0, .int 0)), (3, (.istore 4, 5, 0, 0, 0, .null)), (5, (.iload 4, 7, 0, 0, 0, .null)), (7, (.aload_n 0, 8, 0, 0, 0, .null)), (8, (.getfield 280, 11, 11, 19, 0, .null)), (11, (.if_icmp .ge 31, 14, 42, 0, 0, .null)), (14, (.iload_n 3, 15, 0, 0, 0, .null)), (15, (.ifCond .ne 15, 18, 30, 0, 0, .null)), (18, (.aload_n 0, 19, 0, 0, 0, .null)), (19, (.getfield 48, 22, 11, 20, 0, .null)), (22, (.iload 4, 24, 0, 0, 0, .null)), (24, (.laload, 25, 0, 0, 0, .null)), (25, (.lload_n 1, 26, 0, 0, 0, .null)), (26, (.lcmp, 27, 0, 0, 0, .null)), (27, (.ifCond .ne 7, 30, 34, 0, 0, .null)), (30, (.iconst 1, 31, 0, 0, 0, .int 1)), (31, (.goto 4, 34, 35, 0, 0, .null)), (34, (.iconst 0, 35, 0, 0, 0, .int 0)), (35, (.istore_n 3, 36, 0, 0, 0, .null)), (36, (.iinc 4 1, 39, 0, 0, 0, .int 1)), (39, (.goto (-34), 42, 5, 0, 0, .null)), (42, (.iload_n 3, 43, 0, 0, 0, .null)), (43, (.ireturn, 44, 0, 0, 0, .null))]
/-- AssertionGateModel.see(J)V -/
def tb179 : mB := [(0, (.aload_n 0, 1, 0, 0, 0, .null)), (1, (.getfield 48, 4, 11, 20, 0, .null)), (4, (.aload_n 0, 5, 0, 0, 0, .null)), (5, (.getfield 280, 8, 11, 19, 0, .null)), (8, (.lload_n 1, 9, 0, 0, 0, .null)), (9, (.lastore, 10, 0, 0, 0, .null)), (10, (.aload_n 0, 11, 0, 0, 0, .null)), (11, (.dup, 12, 0, 0, 0, .null)), (12, (.getfield 280, 15, 11, 19, 0, .null)), (15, (.iconst 1, 16, 0, 0, 0, .int 1)), (16, (.iadd, 17, 0, 0, 0, .null)), (17, (.putfield 280, 20, 11, 19, 0, .null)), (20, (.return_, 21, 0, 0, 0, .null))]
/-- AssertionGateModel.faults(I)I -/
def tb180 : mB := [(0, (.aload_n 0, 1, 0, 0, 0, .null)), (1, (.iload_n 1, 2, 0, 0, 0, .null)), (2, (.ldc2_w 255, 5, 0, 0, 0, .long 109330244567040)), (5, (.invokevirtual 213, 8, 170, 3, 11, .null)), (8, (.istore_n 2, 9, 0, 0, 0, .null)), (9, (.aload_n 0, 10, 0, 0, 0, .null)), (10, (.iload_n 1, 11, 0, 0, 0, .null)), (11, (.ldc2_w 257, 14, 0, 0, 0, .long 126947999481856)), (14, (.invokevirtual 213, 17, 170, 3, 11, .null)), (17, (.istore_n 3, 18, 0, 0, 0, .null)), (18, (.aload_n 0, 19, 0, 0, 0, .null)), (19, (.iload_n 3, 20, 0, 0, 0, .null)), (20, (.ldc2_w 267, 23, 0, 0, 0, .long 109330244698112)), (23, (.invokevirtual 213, 26, 170, 3, 11, .null)), (26, (.istore 4, 28, 0, 0, 0, .null)), (28, (.aload_n 0, 29, 0, 0, 0, .null)), (29, (.iconst 0, 30, 0, 0, 0, .int 0)), (30, (.ldc2_w 240, 33, 0, 0, 0, .long 115940293345280)), (33, (.invokevirtual 224, 36, 167, 3, 11, .null)), (36, (.istore 5, 38, 0, 0, 0, .null)), (38, (.aload_n 0, 39, 0, 0, 0, .null)), (39, (.aload_n 0, 40, 0, 0, 0, .null)), (40, (.iconst 0, 41, 0, 0, 0, .int 0)), (41, (.ldc2_w 251, 44, 0, 0, 0, .long 126943688392704)), (44, (.invokevirtual 213, 47, 170, 3, 11, .null)), (47, (.invokevirtual 216, 50, 165, 2, 11, .null)), (50, (.ldc2_w 283, 53, 0, 0, 0, .long 28523)), (53, (.lcmp, 54, 0, 0, 0, .null)), (54, (.ifCond .eq 6, 57, 60, 0, 0, .null)), (57, (.bipush (-9), 59, 0, 0, 0, .int (-9))), (59, (.ireturn, 60, 0, 0, 0, .null)), (60, (.aload_n 0, 61, 0, 0, 0, .null)), (61, (.iload 5, 63, 0, 0, 0, .null)), (63, (.invokevirtual 107, 66, 131, 2, 11, .null)), (66, (.ifCond .eq 18, 69, 84, 0, 0, .null)), (69, (.aload_n 0, 70, 0, 0, 0, .null)), (70, (.getfield 31, 73, 11, 13, 0, .null)), (73, (.iload 5, 75, 0, 0, 0, .null)), (75, (.iaload, 76, 0, 0, 0, .null)), (76, (.aload_n 0, 77, 0, 0, 0, .null)), (77, (.iconst 0, 78, 0, 0, 0, .int 0)), (78, (.invokevirtual 277, 81, 176, 2, 11, .null)), (81, (.if_icmp .eq 6, 84, 87, 0, 0, .null)), (84, (.bipush (-10), 86, 0, 0, 0, .int (-10))), (86, (.ireturn, 87, 0, 0, 0, .null)), (87, (.aload_n 0, 88, 0, 0, 0, .null)), (88, (.iload_n 2, 89, 0, 0, 0, .null)), (89, (.ldc2_w 259, 92, 0, 0, 0, .long 107156816789504)), (92, (.invokevirtual 234, 95, 166, 3, 11, .null)), (95, (.ldc2_w 285, 98, 0, 0, 0, .long 29552)), (98, (.lcmp, 99, 0, 0, 0, .null)), (99, (.ifCond .eq 6, 102, 105, 0, 0, .null)), (102, (.bipush (-11), 104, 0, 0, 0, .int (-11))), (104, (.ireturn, 105, 0, 0, 0, .null)), (105, (.aload_n 0, 106, 0, 0, 0, .null)), (106, (.iload_n 2, 107, 0, 0, 0, .null)), (107, (.ldc2_w 261, 110, 0, 0, 0, .long 121367185850368)), (110, (.invokevirtual 224, 113, 167, 3, 11, .null)), (113, (.aload_n 0, 114, 0, 0, 0, .null)), (114, (.getfield 101, 117, 11, 2, 0, .null)), (117, (.aload_n 0, 118, 0, 0, 0, .null)), (118, (.getfield 84, 121, 11, 0, 0, .null)), (121, (.iadd, 122, 0, 0, 0, .null)), (122, (.if_icmp .gt 23, 125, 145, 0, 0, .null)), (125, (.aload_n 0, 126, 0, 0, 0, .null)), (126, (.iload_n 2, 127, 0, 0, 0, .null)), (127, (.ldc2_w 263, 130, 0, 0, 0, .long 121424647815168)), (130, (.invokevirtual 224, 133, 167, 3, 11, .null)), (133, (.aload_n 0, 134, 0, 0, 0, .null)), (134, (.getfield 101, 137, 11, 2, 0, .null)), (137, (.aload_n 0, 138, 0, 0, 0, .null)), (138, (.getfield 84, 141, 11, 0, 0, .null)), (141, (.isub, 142, 0, 0, 0, .null)), (142, (.if_icmp .gt 6, 145, 148, 0, 0, .null)), (145, (.bipush (-12), 147, 0, 0, 0, .int (-12))), (147, (.ireturn, 148, 0, 0, 0, .null)), (148, (.aload_n 0, 149, 0, 0, 0, .null)), (149, (.iload 4, 151, 0, 0, 0, .null)), (151, (.ldc2_w 269, 154, 0, 0, 0, .long 125771406376960)), (154, (.invokevirtual 234, 157, 166, 3, 11, .null)), (157, (.ldc2_w 287, 160, 0, 0, 0, .long 6382451)), (160, (.lcmp, 161, 0, 0, 0, .null)), (161, (.ifCond .ne 48, 164, 209, 0, 0, .null)), (164, (.aload_n 0, 165, 0, 0, 0, .null)), (165, (.aload_n 0, 166, 0, 0, 0, .null)), (166, (.iload 4, 168, 0, 0, 0, .null)), (168, (.ldc2_w 240, 171, 0, 0, 0, .long 115940293345280)), (171, (.invokevirtual 142, 174, 148, 3, 11, .null)), (174, (.aload_n 0, 175, 0, 0, 0, .null)), (175, (.iconst 0, 176, 0, 0, 0, .int 0)), (176, (.ldc2_w 240, 179, 0, 0, 0, .long 115940293345280)), (179, (.invokevirtual 142, 182, 148, 3, 11, .null)), (182, (.invokevirtual 229, 185, 168, 3, 11, .null)), (185, (.ifCond .eq 24, 188, 209, 0, 0, .null)), (188, (.aload_n 0, 189, 0, 0, 0, .null)), (189, (.iload 4, 191, 0, 0, 0, .null)), (191, (.ldc2_w 263, 194, 0, 0, 0, .long 121424647815168)), (194, (.invokevirtual 224, 197, 167, 3, 11, .null)), (197, (.aload_n 0, 198, 0, 0, 0, .null)), (198, (.getfield 101, 201, 11, 2, 0, .null)), (201, (.aload_n 0, 202, 0, 0, 0, .null)), (202, (.getfield 84, 205, 11, 0, 0, .null)), (205, (.isub, 206, 0, 0, 0, .null)), (206, (.if_icmp .gt 6, 209, 212, 0, 0, .null)), (209, (.bipush (-13), 211, 0, 0, 0, .int (-13))), (211, (.ireturn, 212, 0, 0, 0, .null)), (212, (.iconst 0, 213, 0, 0, 0, .int 0)), (213, (.ireturn, 214, 0, 0, 0, .null))]
/-- AssertionGateModel.accept(I)I -/
def tb181 : mB := [(0, (.aload_n 0, 1, 0, 0, 0, .null)), (1, (.iload_n 1, 2, 0, 0, 0, .null)), (2, (.ldc2_w 227, 5, 0, 0, 0, .long 115878217646080)), (5, (.invokevirtual 234, 8, 166, 3, 11, .null)), (8, (.lstore_n 2, 9, 0, 0, 0, .null)), (9, (.aload_n 0, 10, 0, 0, 0, .null)), (10, (.iload_n 1, 11, 0, 0, 0, .null)), (11, (.invokevirtual 289, 14, 180, 2, 11, .null)), (14, (.istore 4, 16, 0, 0, 0, .null)), (16, (.iload 4, 18, 0, 0, 0, .null)), (18, (.ifCond .eq 6, 21, 24, 0, 0, .null)), (21, (.iload 4, 23, 0, 0, 0, .null)), (23, (.ireturn, 24, 0, 0, 0, .null)), (24, (.aload_n 0, 25, 0, 0, 0, .null)), (25, (.lload_n 2, 26, 0, 0, 0, .null)), (26, (.invokevirtual 292, 29, 178, 2, 11, .null)), (29, (.ifCond .eq 6, 32, 35, 0, 0, .null)), (32, (.bipush (-14), 34, 0, 0, 0, .int (-14))), (34, (.ireturn, 35, 0, 0, 0, .null)), (35, (.aload_n 0, 36, 0, 0, 0, .null)), (36, (.getfield 296, 39, 11, 15, 0, .null)), (39, (.bipush 20, 41, 0, 0, 0, .int 20)), (41, (.if_icmp .ge 12, 44, 53, 0, 0, .null)), (44, (.aload_n 0, 45, 0, 0, 0, .null)), (45, (.getfield 280, 48, 11, 19, 0, .null)), (48, (.bipush 40, 50, 0, 0, 0, .int 40)), (50, (.if_icmp .lt 6, 53, 56, 0, 0, .null)), (53, (.bipush (-15), 55, 0, 0, 0, .int (-15))), (55, (.ireturn, 56, 0, 0, 0, .null)), (56, (.aload_n 0, 57, 0, 0, 0, .null)), (57, (.lload_n 2, 58, 0, 0, 0, .null)), (58, (.invokevirtual 299, 61, 179, 2, 11, .null)), (61, (.aload_n 0, 62, 0, 0, 0, .null)), (62, (.getfield 34, 65, 11, 14, 0, .null)), (65, (.aload_n 0, 66, 0, 0, 0, .null)), (66, (.iconst 0, 67, 0, 0, 0, .int 0)), (67, (.ldc2_w 240, 70, 0, 0, 0, .long 115940293345280)), (70, (.invokevirtual 224, 73, 167, 3, 11, .null)), (73, (.iconst 1, 74, 0, 0, 0, .int 1)), (74, (.bastore, 75, 0, 0, 0, .null)), (75, (.aload_n 0, 76, 0, 0, 0, .null)), (76, (.getfield 38, 79, 11, 16, 0, .null)), (79, (.aload_n 0, 80, 0, 0, 0, .null)), (80, (.getfield 296, 83, 11, 15, 0, .null)), (83, (.aload_n 0, 84, 0, 0, 0, .null)), (84, (.iconst 0, 85, 0, 0, 0, .int 0)), (85, (.invokevirtual 277, 88, 176, 2, 11, .null)), (88, (.iastore, 89, 0, 0, 0, .null)), (89, (.aload_n 0, 90, 0, 0, 0, .null)), (90, (.iload_n 1, 91, 0, 0, 0, .null)), (91, (.ldc2_w 257, 94, 0, 0, 0, .long 126947999481856)), (94, (.invokevirtual 213, 97, 170, 3, 11, .null)), (97, (.istore 5, 99, 0, 0, 0, .null)), (99, (.aload_n 0, 100, 0, 0, 0, .null)), (100, (.getfield 41, 103, 11, 17, 0, .null)), (103, (.aload_n 0, 104, 0, 0, 0, .null)), (104, (.getfield 296, 107, 11, 15, 0, .null)), (107, (.aload_n 0, 108, 0, 0, 0, .null)), (108, (.aload_n 0, 109, 0, 0, 0, .null)), (109, (.iload 5, 111, 0, 0, 0, .null)), (111, (.ldc2_w 265, 114, 0, 0, 0, .long 121364726218752)), (114, (.invokevirtual 213, 117, 170, 3, 11, .null)), (117, (.invokevirtual 216, 120, 165, 2, 11, .null)), (120, (.lastore, 121, 0, 0, 0, .null)), (121, (.aload_n 0, 122, 0, 0, 0, .null)), (122, (.dup, 123, 0, 0, 0, .null)), (123, (.getfield 296, 126, 11, 15, 0, .null)), (126, (.iconst 1, 127, 0, 0, 0, .int 1)), (127, (.iadd, 128, 0, 0, 0, .null)), (128, (.putfield 296, 131, 11, 15, 0, .null)), (131, (.aload_n 0, 132, 0, 0, 0, .null)), (132, (.getfield 296, 135, 11, 15, 0, .null)), (135, (.iconst 1, 136, 0, 0, 0, .int 1)), (136, (.isub, 137, 0, 0, 0, .null)), (137, (.ireturn, 138, 0, 0, 0, .null))]
/-- AssertionGateModel.logout()I -/
def tb182 : mB := [(0, (.aload_n 0, 1, 0, 0, 0, .null)), (1, (.iconst 0, 2, 0, 0, 0, .int 0)), (2, (.ldc2_w 227, 5, 0, 0, 0, .long 115878217646080)), (5, (.invokevirtual 234, 8, 166, 3, 11, .null)), (8, (.lstore_n 1, 9, 0, 0, 0, .null)), (9, (.aload_n 0, 10, 0, 0, 0, .null)), (10, (.lload_n 1, 11, 0, 0, 0, .null)), (11, (.invokevirtual 292, 14, 178, 2, 11, .null)), (14, (.ifCond .eq 6, 17, 20, 0, 0, .null)), (17, (.bipush (-14), 19, 0, 0, 0, .int (-14))), (19, (.ireturn, 20, 0, 0, 0, .null)), (20, (.aload_n 0, 21, 0, 0, 0, .null)), (21, (.getfield 280, 24, 11, 19, 0, .null)), (24, (.bipush 40, 26, 0, 0, 0, .int 40)), (26, (.if_icmp .lt 6, 29, 32, 0, 0, .null)), (29, (.bipush (-15), 31, 0, 0, 0, .int (-15))), (31, (.ireturn, 32, 0, 0, 0, .null)), (32, (.aload_n 0, 33, 0, 0, 0, .null)), (33, (.lload_n 1, 34, 0, 0, 0, .null)), (34, (.invokevirtual 299, 37, 179, 2, 11, .null)), (37, (.iconst 0, 38, 0, 0, 0, .int 0)), (38, (.istore_n 3, 39, 0, 0, 0, .null)), (39, (.iconst 0, 40, 0, 0, 0, .int 0)), (40, (.istore 4, 42, 0, 0, 0, .null)), (42, (.iload 4, 44, 0, 0, 0, .null)), (44, (.aload_n 0, 45, 0, 0, 0, .null)), (45, (.getfield 296, 48, 11, 15, 0, .null)), (48, (.if_icmp .ge 68, 51, 116, 0, 0, .null)), (51, (.aload_n 0, 52, 0, 0, 0, .null)), (52, (.getfield 45, 55, 11, 18, 0, .null)), (55, (.iload 4, 57, 0, 0, 0, .null)), (57, (.baload, 58, 0, 0, 0, .null)), (58, (.ifCond .ne 52, 61, 110, 0, 0, .null)), (61, (.aload_n 0, 62, 0, 0, 0, .null)), (62, (.getfield 38, 65, 11, 16, 0, .null)), (65, (.iload 4, 67, 0, 0, 0, .null)), (67, (.iaload, 68, 0, 0, 0, .null)), (68, (.aload_n 0, 69, 0, 0, 0, .null)), (69, (.iconst 0, 70, 0, 0, 0, .int 0)), (70, (.invokevirtual 277, 73, 176, 2, 11, .null)), (73, (.if_icmp .ne 37, 76, 110, 0, 0, .null)), (76, (.aload_n 0, 77, 0, 0, 0, .null)), (77, (.getfield 41, 80, 11, 17, 0, .null)), (80, (.iload 4, 82, 0, 0, 0, .null)), (82, (.laload, 83, 0, 0, 0, .null)), (83, (.aload_n 0, 84, 0, 0, 0, .null)), (84, (.aload_n 0, 85, 0, 0, 0, .null)), (85, (.iconst 0, 86, 0, 0, 0, .int 0)), (86, (.ldc2_w 265, 89, 0, 0, 0, .long 121364726218752)), (89, (.invokevirtual 213, 92, 170, 3, 11, .null)), (92, (.invokevirtual 216, 95, 165, 2, 11, .null)), (95, (.lcmp, 96, 0, 0, 0, .null)), (96, (.ifCond .ne 14, 99, 110, 0, 0, .null)), (99, (.aload_n 0, 100, 0, 0, 0, .null)), (100, (.getfield 45, 103, 11, 18, 0, .null)), (103, (.iload 4, 105, 0, 0, 0, .null)), (105, (.iconst 1, 106, 0, 0, 0, .int 1)), (106, (.bastore, 107, 0, 0, 0, .null)), (107, (.iinc 3 1, 110, 0, 0, 0, .int 1)), (110, (.iinc 4 1, 113, 0, 0, 0, .int 1)), (113, (.goto (-71), 116, 42, 0, 0, .null)), (116, (.bipush 100, 118, 0, 0, 0, .int 100)), (118, (.iload_n 3, 119, 0, 0, 0, .null)), (119, (.iadd, 120, 0, 0, 0, .null)), (120, (.ireturn, 121, 0, 0, 0, .null))]
/-- AssertionGateModel.consume()I -/
def tb183 : mB := [(0, (.aload_n 0, 1, 0, 0, 0, .null)), (1, (.invokevirtual 169, 4, 153, 1, 11, .null)), (4, (.istore_n 1, 5, 0, 0, 0, .null)), (5, (.iload_n 1, 6, 0, 0, 0, .null)), (6, (.ifCond .ge 5, 9, 11, 0, 0, .null)), (9, (.iload_n 1, 10, 0, 0, 0, .null)), (10, (.ireturn, 11, 0, 0, 0, .null)), (11, (.aload_n 0, 12, 0, 0, 0, .null)), (12, (.invokevirtual 303, 15, 173, 1, 11, .null)), (15, (.ifCond .eq 6, 18, 21, 0, 0, .null)), (18, (.bipush (-3), 20, 0, 0, 0, .int (-3))), (20, (.ireturn, 21, 0, 0, 0, .null)), (21, (.aload_n 0, 22, 0, 0, 0, .null)), (22, (.invokevirtual 306, 25, 174, 1, 11, .null)), (25, (.istore_n 2, 26, 0, 0, 0, .null)), (26, (.iload_n 2, 27, 0, 0, 0, .null)), (27, (.ifCond .ne 13, 30, 40, 0, 0, .null)), (30, (.aload_n 0, 31, 0, 0, 0, .null)), (31, (.invokevirtual 309, 34, 175, 1, 11, .null)), (34, (.ifCond .ne 6, 37, 40, 0, 0, .null)), (37, (.bipush (-4), 39, 0, 0, 0, .int (-4))), (39, (.ireturn, 40, 0, 0, 0, .null)), (40, (.iload_n 2, 41, 0, 0, 0, .null)), (41, (.ifCond .eq 14, 44, 55, 0, 0, .null)), (44, (.aload_n 0, 45, 0, 0, 0, .null)), (45, (.iconst 0, 46, 0, 0, 0, .int 0)), (46, (.ldc2_w 253, 49, 0, 0, 0, .long 107148485722112)), (49, (.invokevirtual 213, 52, 170, 3, 11, .null)), (52, (.goto 4, 55, 56, 0, 0, .null)), (55, (.iconst 0, 56, 0, 0, 0, .int 0)), (56, (.istore_n 3, 57, 0, 0, 0, .null)), (57, (.aload_n 0, 58, 0, 0, 0, .null)), (58, (.iconst 0, 59, 0, 0, 0, .int 0)), (59, (.ldc2_w 194, 62, 0, 0, 0, .long 126896536813568)), (62, (.invokevirtual 213, 65, 170, 3, 11, .null)), (65, (.ifCond .ge 17, 68, 82, 0, 0, .null)), (68, (.aload_n 0, 69, 0, 0, 0, .null)), (69, (.iload_n 3, 70, 0, 0, 0, .null)), (70, (.ldc2_w 194, 73, 0, 0, 0, .long 126896536813568)), (73, (.invokevirtual 213, 76, 170, 3, 11, .null)), (76, (.ifCond .ge 6, 79, 82, 0, 0, .null)), (79, (.bipush (-5), 81, 0, 0, 0, .int (-5))), (81, (.ireturn, 82, 0, 0, 0, .null)), (82, (.aload_n 0, 83, 0, 0, 0, .null)), (83, (.iconst 0, 84, 0, 0, 0, .int 0)), (84, (.invokevirtual 312, 87, 177, 2, 11, .null)), (87, (.ifCond .eq 11, 90, 98, 0, 0, .null)), (90, (.aload_n 0, 91, 0, 0, 0, .null)), (91, (.iload_n 3, 92, 0, 0, 0, .null)), (92, (.invokevirtual 312, 95, 177, 2, 11, .null)), (95, (.ifCond .ne 6, 98, 101, 0, 0, .null)), (98, (.bipush (-6), 100, 0, 0, 0, .int (-6))), (100, (.ireturn, 101, 0, 0, 0, .null)), (101, (.aload_n 0, 102, 0, 0, 0, .null)), (102, (.aload_n 0, 103, 0, 0, 0, .null)), (103, (.iconst 0, 104, 0, 0, 0, .int 0)), (104, (.ldc2_w 245, 107, 0, 0, 0, .long 115944571535360)), (107, (.invokevirtual 213, 110, 170, 3, 11, .null)), (110, (.invokevirtual 216, 113, 165, 2, 11, .null)), (113, (.aload_n 0, 114, 0, 0, 0, .null)), (114, (.aload_n 0, 115, 0, 0, 0, .null)), (115, (.iload_n 3, 116, 0, 0, 0, .null)), (116, (.ldc2_w 245, 119, 0, 0, 0, .long 115944571535360)), (119, (.invokevirtual 213, 122, 170, 3, 11, .null)), (122, (.invokevirtual 216, 125, 165, 2, 11, .null)), (125, (.lcmp, 126, 0, 0, 0, .null)), (126, (.ifCond .eq 6, 129, 132, 0, 0, .null)), (129, (.bipush (-7), 131, 0, 0, 0, .int (-7))), (131, (.ireturn, 132, 0, 0, 0, .null)), (132, (.aload_n 0, 133, 0, 0, 0, .null)), (133, (.iconst 0, 134, 0, 0, 0, .int 0)), (134, (.ldc2_w 238, 137, 0, 0, 0, .long 128020090191872)), (137, (.invokevirtual 234, 140, 166, 3, 11, .null)), (140, (.ldc2_w 287, 143, 0, 0, 0, .long 6382451)), (143, (.lcmp, 144, 0, 0, 0, .null)), (144, (.ifCond .eq 6, 147, 150, 0, 0, .null)), (147, (.bipush (-8), 149, 0, 0, 0, .int (-8))), (149, (.ireturn, 150, 0, 0, 0, .null)), (150, (.iload_n 2, 151, 0, 0, 0, .null)), (151, (.ifCond .eq 11, 154, 162, 0, 0, .null)), (154, (.aload_n 0, 155, 0, 0, 0, .null)), (155, (.iload_n 3, 156, 0, 0, 0, .null)), (156, (.invokevirtual 315, 159, 181, 2, 11, .null)), (159, (.goto 7, 162, 166, 0, 0, .null)), (162, (.aload_n 0, 163, 0, 0, 0, .null)), (163, (.invokevirtual 318, 166, 182, 1, 11, .null)), (166, (.ireturn, 167, 0, 0, 0, .null))]
/-- AssertionGateModel.session(I)I -/
def tb184 : mB := [(0, (.iload_n 1, 1, 0, 0, 0, .null)), (1, (.ifCond .lt 11, 4, 12, 0, 0, .null)), (4, (.iload_n 1, 5, 0, 0, 0, .null)), (5, (.aload_n 0, 6, 0, 0, 0, .null)), (6, (.getfield 296, 9, 11, 15, 0, .null)), (9, (.if_icmp .lt 7, 12, 16, 0, 0, .null)), (12, (.iconst (-1), 13, 0, 0, 0, .int (-1))), (13, (.goto 24, 16, 37, 0, 0, .null)), (16, (.aload_n 0, 17, 0, 0, 0, .null)), (17, (.getfield 45, 20, 11, 18, 0, .null)), (20, (.iload_n 1, 21, 0, 0, 0, .null)), (21, (.baload, 22, 0, 0, 0, .null)), (22, (.ifCond .eq 7, 25, 29, 0, 0, .null)), (25, (.iconst 0, 26, 0, 0, 0, .int 0)), (26, (.goto 11, 29, 37, 0, 0, .null)), (29, (.iconst 1, 30, 0, 0, 0, .int 1)), (30, (.aload_n 0, 31, 0, 0, 0, .null)), (31, (.getfield 38, 34, 11, 16, 0, .null)), (34, (.iload_n 1, 35, 0, 0, 0, .null)), (35, (.iaload, 36, 0, 0, 0, .null)), (36, (.iadd, 37, 0, 0, 0, .null)), (37, (.ireturn, 38, 0, 0, 0, .null))]
/-- AssertionGateModel.name(II)I -/
def tb185 : mB := [(0, (.iload_n 1, 1, 0, 0, 0, .null)), (1, (.ifCond .lt 15, 4, 16, 0, 0, .null)), (4, (.iload_n 1, 5, 0, 0, 0, .null)), (5, (.aload_n 0, 6, 0, 0, 0, .null)), (6, (.getfield 296, 9, 11, 15, 0, .null)), (9, (.if_icmp .ge 7, 12, 16, 0, 0, .null)), (12, (.iload_n 2, 13, 0, 0, 0, .null)), (13, (.ifCond .ge 5, 16, 18, 0, 0, .null)), (16, (.iconst (-1), 17, 0, 0, 0, .int (-1))), (17, (.ireturn, 18, 0, 0, 0, .null)), (18, (.iconst 0, 19, 0, 0, 0, .int 0)), (19, (.istore_n 3, 20, 0, 0, 0, .null)), (20, (.aload_n 0, 21, 0, 0, 0, .null)), (21, (.getfield 41, 24, 11, 17, 0, .null)), (24, (.iload_n 1, 25, 0, 0, 0, .null)), (25, (.laload, 26, 0, 0, 0, .null)), (26, (.lstore 4, 28, 0, 0, 0, .null)), (28, (.lload 4, 30, 0, 0, 0, .null)), (30, (.lconst 0, 31, 0, 0, 0, .long 0)), (31, (.lcmp, 32, 0, 0, 0, .null)), (32, (.ifCond .eq 16, 35, 48, 0, 0, .null)), (35, (.iinc 3 1, 38, 0, 0, 0, .int 1)), (38, (.lload 4, 40, 0, 0, 0, .null)), (40, (.bipush 8, 42, 0, 0, 0, .int 8)), (42, (.lshr, 43, 0, 0, 0, .null)), (43, (.lstore 4, 45, 0, 0, 0, .null)), (45, (.goto (-17), 48, 28, 0, 0, .null)), (48, (.iload_n 2, 49, 0, 0, 0, .null)), (49, (.iload_n 3, 50, 0, 0, 0, .null)), (50, (.if_icmp .lt 7, 53, 57, 0, 0, .null)), (53, (.iconst (-1), 54, 0, 0, 0, .int (-1))), (54, (.goto 23, 57, 77, 0, 0, .null)), (57, (.aload_n 0, 58, 0, 0, 0, .null)), (58, (.getfield 41, 61, 11, 17, 0, .null)), (61, (.iload_n 1, 62, 0, 0, 0, .null)), (62, (.laload, 63, 0, 0, 0, .null)), (63, (.bipush 8, 65, 0, 0, 0, .int 8)), (65, (.iload_n 3, 66, 0, 0, 0, .null)), (66, (.iconst 1, 67, 0, 0, 0, .int 1)), (67, (.isub, 68, 0, 0, 0, .null)), (68, (.iload_n 2, 69, 0, 0, 0, .null)), (69, (.isub, 70, 0, 0, 0, .null)), (70, (.imul, 71, 0, 0, 0, .null)), (71, (.lshr, 72, 0, 0, 0, .null)), (72, (.ldc2_w 173, 75, 0, 0, 0, .long 255)), (75, (.land, 76, 0, 0, 0, .null)), (76, (.l2i, 77, 0, 0, 0, .null)), (77, (.ireturn, 78, 0, 0, 0, .null))]
/-- AssertionGateModel.put(J)V -/
def tb186 : mB := [(0, (.bipush 56, 2, 0, 0, 0, .int 56)), (2, (.istore_n 3, 3, 0, 0, 0, .null)), (3, (.iload_n 3, 4, 0, 0, 0, .null)), (4, (.ifCond .lt 45, 7, 49, 0, 0, .null)), (7, (.lload_n 1, 8, 0, 0, 0, .null)), (8, (.iload_n 3, 9, 0, 0, 0, .null)), (9, (.lshr, 10, 0, 0, 0, .null)), (10, (.ldc2_w 173, 13, 0, 0, 0, .long 255)), (13, (.land, 14, 0, 0, 0, .null)), (14, (.l2i, 15, 0, 0, 0, .null)), (15, (.istore 4, 17, 0, 0, 0, .null)), (17, (.iload 4, 19, 0, 0, 0, .null)), (19, (.ifCond .eq 24, 22, 43, 0, 0, .null)), (22, (.aload_n 0, 23, 0, 0, 0, .null)), (23, (.getfield 7, 26, 11, 3, 0, .null)), (26, (.aload_n 0, 27, 0, 0, 0, .null)), (27, (.getfield 113, 30, 11, 4, 0, .null)), (30, (.iload 4, 32, 0, 0, 0, .null)), (32, (.iastore, 33, 0, 0, 0, .null)), (33, (.aload_n 0, 34, 0, 0, 0, .null)), (34, (.dup, 35, 0, 0, 0, .null)), (35, (.getfield 113, 38, 11, 4, 0, .null)), (38, (.iconst 1, 39, 0, 0, 0, .int 1)), (39, (.iadd, 40, 0, 0, 0, .null)), (40, (.putfield 113, 43, 11, 4, 0, .null)), (43, (.iinc 3 (-8), 46, 0, 0, 0, .int (-8))), (46, (.goto (-43), 49, 3, 0, 0, .null)), (49, (.return_, 50, 0, 0, 0, .null))]
/-- AssertionGateModel.putNumber(I)V -/
def tb187 : mB := [(0, (.iconst 1, 1, 0, 0, 0, .int 1)), (1, (.istore_n 2, 2, 0, 0, 0, .null)), (2, (.iload_n 1, 3, 0, 0, 0, .null)), (3, (.iload_n 2, 4, 0, 0, 0, .null)), (4, (.idiv, 5, 0, 0, 0, .null)), (5, (.bipush 10, 7, 0, 0, 0, .int 10)), (7, (.if_icmp .lt 11, 10, 18, 0, 0, .null)), (10, (.iload_n 2, 11, 0, 0, 0, .null)), (11, (.bipush 10, 13, 0, 0, 0, .int 10)), (13, (.imul, 14, 0, 0, 0, .null)), (14, (.istore_n 2, 15, 0, 0, 0, .null)), (15, (.goto (-13), 18, 2, 0, 0, .null)), (18, (.iload_n 2, 19, 0, 0, 0, .null)), (19, (.ifCond .le 39, 22, 58, 0, 0, .null)), (22, (.aload_n 0, 23, 0, 0, 0, .null)), (23, (.getfield 7, 26, 11, 3, 0, .null)), (26, (.aload_n 0, 27, 0, 0, 0, .null)), (27, (.getfield 113, 30, 11, 4, 0, .null)), (30, (.bipush 48, 32, 0, 0, 0, .int 48)), (32, (.iload_n 1, 33, 0, 0, 0, .null)), (33, (.iload_n 2, 34, 0, 0, 0, .null)), (34, (.idiv, 35, 0, 0, 0, .null)), (35, (.bipush 10, 37, 0, 0, 0, .int 10)), (37, (.irem, 38, 0, 0, 0, .null)), (38, (.iadd, 39, 0, 0, 0, .null)), (39, (.iastore, 40, 0, 0, 0, .null)), (40, (.aload_n 0, 41, 0, 0, 0, .null)), (41, (.dup, 42, 0, 0, 0, .null)), (42, (.getfield 113, 45, 11, 4, 0, .null)), (45, (.iconst 1, 46, 0, 0, 0, .int 1)), (46, (.iadd, 47, 0, 0, 0, .null)), (47, (.putfield 113, 50, 11, 4, 0, .null)), (50, (.iload_n 2, 51, 0, 0, 0, .null)), (51, (.bipush 10, 53, 0, 0, 0, .int 10)), (53, (.idiv, 54, 0, 0, 0, .null)), (54, (.istore_n 2, 55, 0, 0, 0, .null)), (55, (.goto (-37), 58, 18, 0, 0, .null)), (58, (.return_, 59, 0, 0, 0, .null))]
/-- AssertionGateModel.putSig(II)V -/
def tb188 : mB := [(0, (.iload_n 2, 1, 0, 0, 0, .null)), (1, (.ifCond .ge 4, 4, 5, 0, 0, .null)), (4, (.return_, 5, 0, 0, 0, .null)), (5, (.aload_n 0, 6, 0, 0, 0, .null)), (6, (.ldc2_w 321, 9, 0, 0, 0, .long 4355941156244317542)), (9, (.invokevirtual 323, 12, 186, 2, 11, .null)), (12, (.aload_n 0, 13, 0, 0, 0, .null)), (13, (.ldc2_w 326, 16, 0, 0, 0, .long 15650)), (16, (.invokevirtual 323, 19, 186, 2, 11, .null)), (19, (.aload_n 0, 20, 0, 0, 0, .null)), (20, (.iload_n 1, 21, 0, 0, 0, .null)), (21, (.i2l, 22, 0, 0, 0, .null)), (22, (.invokevirtual 323, 25, 186, 2, 11, .null)), (25, (.aload_n 0, 26, 0, 0, 0, .null)), (26, (.aload_n 0, 27, 0, 0, 0, .null)), (27, (.getfield 328, 30, 11, 21, 0, .null)), (30, (.invokevirtual 331, 33, 187, 2, 11, .null)), (33, (.aload_n 0, 34, 0, 0, 0, .null)), (34, (.ldc2_w 335, 37, 0, 0, 0, .long 146573507874)), (37, (.invokevirtual 323, 40, 186, 2, 11, .null)), (40, (.aload_n 0, 41, 0, 0, 0, .null)), (41, (.iload_n 2, 42, 0, 0, 0, .null)), (42, (.invokevirtual 331, 45, 187, 2, 11, .null)), (45, (.aload_n 0, 46, 0, 0, 0, .null)), (46, (.ldc2_w 337, 49, 0, 0, 0, .long 2240318)), (49, (.invokevirtual 323, 52, 186, 2, 11, .null)), (52, (.return_, 53, 0, 0, 0, .null))]
/-- AssertionGateModel.putIssuer(I)V -/
def tb189 : mB := [(0, (.aload_n 0, 1, 0, 0, 0, .null)), (1, (.ldc2_w 339, 4, 0, 0, 0, .long 66423606165104)), (4, (.invokevirtual 323, 7, 186, 2, 11, .null)), (7, (.aload_n 0, 8, 0, 0, 0, .null)), (8, (.iload_n 1, 9, 0, 0, 0, .null)), (9, (.invokevirtual 331, 12, 187, 2, 11, .null)), (12, (.aload_n 0, 13, 0, 0, 0, .null)), (13, (.ldc2_w 341, 16, 0, 0, 0, .long 66174330303294)), (16, (.invokevirtual 323, 19, 186, 2, 11, .null)), (19, (.return_, 20, 0, 0, 0, .null))]
/-- AssertionGateModel.putUser(I)V -/
def tb190 : mB := [(0, (.aload_n 0, 1, 0, 0, 0, .null)), (1, (.ldc2_w 343, 4, 0, 0, 0, .long 17009863328874101)), (4, (.invokevirtual 323, 7, 186, 2, 11, .null)), (7, (.aload_n 0, 8, 0, 0, 0, .null)), (8, (.iload_n 1, 9, 0, 0, 0, .null)), (9, (.invokevirtual 331, 12, 187, 2, 11, .null)), (12, (.aload_n 0, 13, 0, 0, 0, .null)), (13, (.ldc2_w 345, 16, 0, 0, 0, .long 16940649730106686)), (16, (.invokevirtual 323, 19, 186, 2, 11, .null)), (19, (.return_, 20, 0, 0, 0, .null))]
/-- AssertionGateModel.putSubject(III)V -/
def tb191 : mB := [(0, (.aload_n 0, 1, 0, 0, 0, .null)), (1, (.ldc2_w 347, 4, 0, 0, 0, .long 66466588289598)), (4, (.invokevirtual 323, 7, 186, 2, 11, .null)), (7, (.aload_n 0, 8, 0, 0, 0, .null)), (8, (.iload_n 2, 9, 0, 0, 0, .null)), (9, (.invokevirtual 349, 12, 190, 2, 11, .null)), (12, (.aload_n 0, 13, 0, 0, 0, .null)), (13, (.ldc2_w 352, 16, 0, 0, 0, .long 4351444184920516978)), (16, (.invokevirtual 323, 19, 186, 2, 11, .null)), (19, (.aload_n 0, 20, 0, 0, 0, .null)), (20, (.ldc2_w 354, 23, 0, 0, 0, .long 7617826)), (23, (.invokevirtual 323, 26, 186, 2, 11, .null)), (26, (.aload_n 0, 27, 0, 0, 0, .null)), (27, (.iload_n 1, 28, 0, 0, 0, .null)), (28, (.invokevirtual 331, 31, 187, 2, 11, .null)), (31, (.aload_n 0, 32, 0, 0, 0, .null)), (32, (.ldc2_w 356, 35, 0, 0, 0, .long 9605807895297314)), (35, (.invokevirtual 323, 38, 186, 2, 11, .null)), (38, (.aload_n 0, 39, 0, 0, 0, .null)), (39, (.iload_n 3, 40, 0, 0, 0, .null)), (40, (.invokevirtual 331, 43, 187, 2, 11, .null)), (43, (.aload_n 0, 44, 0, 0, 0, .null)), (44, (.ldc2_w 358, 47, 0, 0, 0, .long 2459091167954674273)), (47, (.invokevirtual 323, 50, 186, 2, 11, .null)), (50, (.aload_n 0, 51, 0, 0, 0, .null)), (51, (.ldc2_w 360, 54, 0, 0, 0, .long 7166109018379530099)), (54, (.invokevirtual 323, 57, 186, 2, 11, .null)), (57, (.aload_n 0, 58, 0, 0, 0, .null)), (58, (.ldc2_w 362, 61, 0, 0, 0, .long 1969383998)), (61, (.invokevirtual 323, 64, 186, 2, 11, .null)), (64, (.return_, 65, 0, 0, 0, .null))]
/-- AssertionGateModel.fill(IIIIII)V -/
def tb192 : mB := [(0, (.aload_n 0, 1, 0, 0, 0, .null)), (1, (.iconst 0, 2, 0, 0, 0, .int 0)), (2, (.putfield 113, 5, 11, 4, 0, .null)), (5, (.aload_n 0, 6, 0, 0, 0, .null)), (6, (.ldc2_w 364, 9, 0, 0, 0, .long 4355655336097507684)), (9, (.invokevirtual 323, 12, 186, 2, 11, .null)), (12, (.aload_n 0, 13, 0, 0, 0, .null)), (13, (.ldc2_w 366, 16, 0, 0, 0, .long 4006514)), (16, (.invokevirtual 323, 19, 186, 2, 11, .null)), (19, (.aload_n 0, 20, 0, 0, 0, .null)), (20, (.aload_n 0, 21, 0, 0, 0, .null)), (21, (.getfield 328, 24, 11, 21, 0, .null)), (24, (.invokevirtual 331, 27, 187, 2, 11, .null)), (27, (.aload_n 0, 28, 0, 0, 0, .null)), (28, (.ldc2_w 368, 31, 0, 0, 0, .long 9605786472037666)), (31, (.invokevirtual 323, 34, 186, 2, 11, .null)), (34, (.aload_n 0, 35, 0, 0, 0, .null)), (35, (.iload_n 2, 36, 0, 0, 0, .null)), (36, (.invokevirtual 331, 39, 187, 2, 11, .null)), (39, (.aload_n 0, 40, 0, 0, 0, .null)), (40, (.ldc2_w 370, 43, 0, 0, 0, .long 2459093417660146019)), (43, (.invokevirtual 323, 46, 186, 2, 11, .null)), (46, (.aload_n 0, 47, 0, 0, 0, .null)), (47, (.ldc2_w 372, 50, 0, 0, 0, .long 7545406)), (50, (.invokevirtual 323, 53, 186, 2, 11, .null)), (53, (.aload_n 0, 54, 0, 0, 0, .null)), (54, (.iload_n 1, 55, 0, 0, 0, .null)), (55, (.invokevirtual 374, 58, 189, 2, 11, .null)), (58, (.aload_n 0, 59, 0, 0, 0, .null)), (59, (.ldc2_w 377, 62, 0, 0, 0, .long 4355953226508300139)), (62, (.invokevirtual 323, 65, 186, 2, 11, .null)), (65, (.aload_n 0, 66, 0, 0, 0, .null)), (66, (.ldc2_w 379, 69, 0, 0, 0, .long 4336811909869485628)), (69, (.invokevirtual 323, 72, 186, 2, 11, .null)), (72, (.aload_n 0, 73, 0, 0, 0, .null)), (73, (.ldc2_w 381, 76, 0, 0, 0, .long 7022083160828109885)), (76, (.invokevirtual 323, 79, 186, 2, 11, .null)), (79, (.aload_n 0, 80, 0, 0, 0, .null)), (80, (.ldc2_w 383, 83, 0, 0, 0, .long 8801)), (83, (.invokevirtual 323, 86, 186, 2, 11, .null)), (86, (.aload_n 0, 87, 0, 0, 0, .null)), (87, (.aload_n 0, 88, 0, 0, 0, .null)), (88, (.getfield 328, 91, 11, 21, 0, .null)), (91, (.invokevirtual 331, 94, 187, 2, 11, .null)), (94, (.aload_n 0, 95, 0, 0, 0, .null)), (95, (.ldc2_w 385, 98, 0, 0, 0, .long 8766)), (98, (.invokevirtual 323, 101, 186, 2, 11, .null)), (101, (.aload_n 0, 102, 0, 0, 0, .null)), (102, (.iload_n 1, 103, 0, 0, 0, .null)), (103, (.invokevirtual 374, 106, 189, 2, 11, .null)), (106, (.aload_n 0, 107, 0, 0, 0, .null)), (107, (.iload_n 2, 108, 0, 0, 0, .null)), (108, (.iload_n 3, 109, 0, 0, 0, .null)), (109, (.aload_n 0, 110, 0, 0, 0, .null)), (110, (.getfield 101, 113, 11, 2, 0, .null)), (113, (.iload 4, 115, 0, 0, 0, .null)), (115, (.iadd, 116, 0, 0, 0, .null)), (116, (.invokevirtual 387, 119, 191, 4, 11, .null)), (119, (.aload_n 0, 120, 0, 0, 0, .null)), (120, (.ldc2_w 391, 123, 0, 0, 0, .long 4351444184886960501)), (123, (.invokevirtual 323, 126, 186, 2, 11, .null)), (126, (.aload_n 0, 127, 0, 0, 0, .null)), (127, (.ldc2_w 393, 130, 0, 0, 0, .long 7222967256570011758)), (130, (.invokevirtual 323, 133, 186, 2, 11, .null)), (133, (.aload_n 0, 134, 0, 0, 0, .null)), (134, (.ldc2_w 395, 137, 0, 0, 0, .long 6438178)), (137, (.invokevirtual 323, 140, 186, 2, 11, .null)), (140, (.aload_n 0, 141, 0, 0, 0, .null)), (141, (.aload_n 0, 142, 0, 0, 0, .null)), (142, (.getfield 101, 145, 11, 2, 0, .null)), (145, (.invokevirtual 331, 148, 187, 2, 11, .null)), (148, (.aload_n 0, 149, 0, 0, 0, .null)), (149, (.ldc2_w 356, 152, 0, 0, 0, .long 9605807895297314)), (152, (.invokevirtual 323, 155, 186, 2, 11, .null)), (155, (.aload_n 0, 156, 0, 0, 0, .null)), (156, (.aload_n 0, 157, 0, 0, 0, .null)), (157, (.getfield 101, 160, 11, 2, 0, .null)), (160, (.iload 4, 162, 0, 0, 0, .null)), (162, (.iadd, 163, 0, 0, 0, .null)), (163, (.invokevirtual 331, 166, 187, 2, 11, .null)), (166, (.aload_n 0, 167, 0, 0, 0, .null)), (167, (.ldc2_w 337, 170, 0, 0, 0, .long 2240318)), (170, (.invokevirtual 323, 173, 186, 2, 11, .null)), (173, (.aload_n 0, 174, 0, 0, 0, .null)), (174, (.bipush 97, 176, 0, 0, 0, .int 97)), (176, (.iload 5, 178, 0, 0, 0, .null)), (178, (.invokevirtual 397, 181, 188, 3, 11, .null)), (181, (.aload_n 0, 182, 0, 0, 0, .null)), (182, (.ldc2_w 401, 185, 0, 0, 0, .long 16940594197917246)), (185, (.invokevirtual 323, 188, 186, 2, 11, .null)), (188, (.aload_n 0, 189, 0, 0, 0, .null)), (189, (.bipush 114, 191, 0, 0, 0, .int 114)), (191, (.iload 6, 193, 0, 0, 0, .null)), (193, (.invokevirtual 397, 196, 188, 3, 11, .null)), (196, (.aload_n 0, 197, 0, 0, 0, .null)), (197, (.ldc2_w 403, 200, 0, 0, 0, .long 16940666977480766)), (200, (.invokevirtual 323, 203, 186, 2, 11, .null)), (203, (.return_, 204, 0, 0, 0, .null))]
/-- AssertionGateModel.signature(II)I -/
def tb193 : mB := [(0, (.aload_n 0, 1, 0, 0, 0, .null)), (1, (.invokevirtual 169, 4, 153, 1, 11, .null)), (4, (.istore_n 3, 5, 0, 0, 0, .null)), (5, (.aload_n 0, 6, 0, 0, 0, .null)), (6, (.iload_n 2, 7, 0, 0, 0, .null)), (7, (.iload_n 3, 8, 0, 0, 0, .null)), (8, (.if_icmp .ge 7, 11, 15, 0, 0, .null)), (11, (.iload_n 2, 12, 0, 0, 0, .null)), (12, (.goto 4, 15, 16, 0, 0, .null)), (15, (.iconst 0, 16, 0, 0, 0, .int 0)), (16, (.invokevirtual 196, 19, 161, 2, 11, .null)), (19, (.aload_n 0, 20, 0, 0, 0, .null)), (20, (.getfield 25, 23, 11, 10, 0, .null)), (23, (.iload_n 1, 24, 0, 0, 0, .null)), (24, (.iaload, 25, 0, 0, 0, .null)), (25, (.aload_n 0, 26, 0, 0, 0, .null)), (26, (.getfield 22, 29, 11, 9, 0, .null)), (29, (.iload_n 1, 30, 0, 0, 0, .null)), (30, (.iaload, 31, 0, 0, 0, .null)), (31, (.invokestatic 202, 34, 133, 3, 99, .null)), (34, (.ireturn, 35, 0, 0, 0, .null))]
/-- AssertionGateModel.issue(IIIII)Z -/
def tb194 : mB := [(0, (.iload_n 1, 1, 0, 0, 0, .null)), (1, (.invokestatic 93, 4, 125, 1, 99, .null)), (4, (.ifCond .eq 56, 7, 60, 0, 0, .null)), (7, (.aload_n 0, 8, 0, 0, 0, .null)), (8, (.getfield 22, 11, 11, 9, 0, .null)), (11, (.iload_n 1, 12, 0, 0, 0, .null)), (12, (.iaload, 13, 0, 0, 0, .null)), (13, (.ifCond .eq 47, 16, 60, 0, 0, .null)), (16, (.iload_n 2, 17, 0, 0, 0, .null)), (17, (.ifCond .lt 43, 20, 60, 0, 0, .null)), (20, (.iload_n 2, 21, 0, 0, 0, .null)), (21, (.bipush 99, 23, 0, 0, 0, .int 99)), (23, (.if_icmp .gt 37, 26, 60, 0, 0, .null)), (26, (.iload_n 3, 27, 0, 0, 0, .null)), (27, (.ifCond .lt 33, 30, 60, 0, 0, .null)), (30, (.iload_n 3, 31, 0, 0, 0, .null)), (31, (.bipush 99, 33, 0, 0, 0, .int 99)), (33, (.if_icmp .gt 27, 36, 60, 0, 0, .null)), (36, (.iload 4, 38, 0, 0, 0, .null)), (38, (.ifCond .lt 22, 41, 60, 0, 0, .null)), (41, (.iload 4, 43, 0, 0, 0, .null)), (43, (.sipush 999, 46, 0, 0, 0, .int 999)), (46, (.if_icmp .gt 14, 49, 60, 0, 0, .null)), (49, (.iload 5, 51, 0, 0, 0, .null)), (51, (.ifCond .lt 9, 54, 60, 0, 0, .null)), (54, (.iload 5, 56, 0, 0, 0, .null)), (56, (.iconst 3, 57, 0, 0, 0, .int 3)), (57, (.if_icmp .le 5, 60, 62, 0, 0, .null)), (60, (.iconst 0, 61, 0, 0, 0, .int 0)), (61, (.ireturn, 62, 0, 0, 0, .null)), (62, (.aload_n 0, 63, 0, 0, 0, .null)), (63, (.iload_n 1, 64, 0, 0, 0, .null)), (64, (.iload_n 2, 65, 0, 0, 0, .null)), (65, (.iload_n 3, 66, 0, 0, 0, .null)), (66, (.iload 4, 68, 0, 0, 0, .null)), (68, (.iconst (-1), 69, 0, 0, 0, .int (-1))), (69, (.iconst (-1), 70, 0, 0, 0, .int (-1))), (70, (.invokevirtual 405, 73, 192, 7, 11, .null)), (73, (.iload 5, 75, 0, 0, 0, .null)), (75, (.iconst 1, 76, 0, 0, 0, .int 1)), (76, (.iand, 77, 0, 0, 0, .null)), (77, (.iconst 1, 78, 0, 0, 0, .int 1)), (78, (.if_icmp .ne 12, 81, 90, 0, 0, .null)), (81, (.aload_n 0, 82, 0, 0, 0, .null)), (82, (.iload_n 1, 83, 0, 0, 0, .null)), (83, (.iconst 3, 84, 0, 0, 0, .int 3)), (84, (.invokevirtual 409, 87, 193, 3, 11, .null)), (87, (.goto 4, 90, 91, 0, 0, .null)), (90, (.iconst (-1), 91, 0, 0, 0, .int (-1))), (91, (.istore 6, 93, 0, 0, 0, .null)), (93, (.aload_n 0, 94, 0, 0, 0, .null)), (94, (.iload_n 1, 95, 0, 0, 0, .null)), (95, (.iload_n 2, 96, 0, 0, 0, .null)), (96, (.iload_n 3, 97, 0, 0, 0, .null)), (97, (.iload 4, 99, 0, 0, 0, .null)), (99, (.iload 6, 101, 0, 0, 0, .null)), (101, (.iconst (-1), 102, 0, 0, 0, .int (-1))), (102, (.invokevirtual 405, 105, 192, 7, 11, .null)), (105, (.iload 5, 107, 0, 0, 0, .null)), (107, (.iconst 2, 108, 0, 0, 0, .int 2)), (108, (.if_icmp .lt 12, 111, 120, 0, 0, .null)), (111, (.aload_n 0, 112, 0, 0, 0, .null)), (112, (.iload_n 1, 113, 0, 0, 0, .null)), (113, (.iconst 0, 114, 0, 0, 0, .int 0)), (114, (.invokevirtual 409, 117, 193, 3, 11, .null)), (117, (.goto 4, 120, 121, 0, 0, .null)), (120, (.iconst (-1), 121, 0, 0, 0, .int (-1))), (121, (.istore 7, 123, 0, 0, 0, .null)), (123, (.aload_n 0, 124, 0, 0, 0, .null)), (124, (.iload_n 1, 125, 0, 0, 0, .null)), (125, (.iload_n 2, 126, 0, 0, 0, .null)), (126, (.iload_n 3, 127, 0, 0, 0, .null)), (127, (.iload 4, 129, 0, 0, 0, .null)), (129, (.iload 6, 131, 0, 0, 0, .null)), (131, (.iload 7, 133, 0, 0, 0, .null)), (133, (.invokevirtual 405, 136, 192, 7, 11, .null)), (136, (.aload_n 0, 137, 0, 0, 0, .null)), (137, (.dup, 138, 0, 0, 0, .null)), (138, (.getfield 328, 141, 11, 21, 0, .null)), (141, (.iconst 1, 142, 0, 0, 0, .int 1)), (142, (.iadd, 143, 0, 0, 0, .null)), (143, (.putfield 328, 146, 11, 21, 0, .null)), (146, (.iconst 1, 147, 0, 0, 0, .int 1)), (147, (.ireturn, 148, 0, 0, 0, .null))]
/-- AssertionGateModel.fillOut(III)V -/
def tb195 : mB := [(0, (.aload_n 0, 1, 0, 0, 0, .null)), (1, (.iconst 0, 2, 0, 0, 0, .int 0)), (2, (.putfield 113, 5, 11, 4, 0, .null)), (5, (.aload_n 0, 6, 0, 0, 0, .null)), (6, (.ldc2_w 412, 9, 0, 0, 0, .long 4354828506310992957)), (9, (.invokevirtual 323, 12, 186, 2, 11, .null)), (12, (.aload_n 0, 13, 0, 0, 0, .null)), (13, (.ldc2_w 414, 16, 0, 0, 0, .long 8815)), (16, (.invokevirtual 323, 19, 186, 2, 11, .null)), (19, (.aload_n 0, 20, 0, 0, 0, .null)), (20, (.aload_n 0, 21, 0, 0, 0, .null)), (21, (.getfield 328, 24, 11, 21, 0, .null)), (24, (.invokevirtual 331, 27, 187, 2, 11, .null)), (27, (.aload_n 0, 28, 0, 0, 0, .null)), (28, (.ldc2_w 370, 31, 0, 0, 0, .long 2459093417660146019)), (31, (.invokevirtual 323, 34, 186, 2, 11, .null)), (34, (.aload_n 0, 35, 0, 0, 0, .null)), (35, (.ldc2_w 372, 38, 0, 0, 0, .long 7545406)), (38, (.invokevirtual 323, 41, 186, 2, 11, .null)), (41, (.aload_n 0, 42, 0, 0, 0, .null)), (42, (.iload_n 1, 43, 0, 0, 0, .null)), (43, (.invokevirtual 374, 46, 189, 2, 11, .null)), (46, (.aload_n 0, 47, 0, 0, 0, .null)), (47, (.iload_n 2, 48, 0, 0, 0, .null)), (48, (.invokevirtual 349, 51, 190, 2, 11, .null)), (51, (.aload_n 0, 52, 0, 0, 0, .null)), (52, (.bipush 111, 54, 0, 0, 0, .int 111)), (54, (.iload_n 3, 55, 0, 0, 0, .null)), (55, (.invokevirtual 397, 58, 188, 3, 11, .null)), (58, (.aload_n 0, 59, 0, 0, 0, .null)), (59, (.ldc2_w 416, 62, 0, 0, 0, .long 66174431097918)), (62, (.invokevirtual 323, 65, 186, 2, 11, .null)), (65, (.return_, 66, 0, 0, 0, .null))]
/-- AssertionGateModel.leave(II)Z -/
def tb196 : mB := [(0, (.iload_n 1, 1, 0, 0, 0, .null)), (1, (.invokestatic 93, 4, 125, 1, 99, .null)), (4, (.ifCond .eq 22, 7, 26, 0, 0, .null)), (7, (.aload_n 0, 8, 0, 0, 0, .null)), (8, (.getfield 22, 11, 11, 9, 0, .null)), (11, (.iload_n 1, 12, 0, 0, 0, .null)), (12, (.iaload, 13, 0, 0, 0, .null)), (13, (.ifCond .eq 13, 16, 26, 0, 0, .null)), (16, (.iload_n 2, 17, 0, 0, 0, .null)), (17, (.ifCond .lt 9, 20, 26, 0, 0, .null)), (20, (.iload_n 2, 21, 0, 0, 0, .null)), (21, (.bipush 99, 23, 0, 0, 0, .int 99)), (23, (.if_icmp .le 5, 26, 28, 0, 0, .null)), (26, (.iconst 0, 27, 0, 0, 0, .int 0)), (27, (.ireturn, 28, 0, 0, 0, .null)), (28, (.aload_n 0, 29, 0, 0, 0, .null)), (29, (.iload_n 1, 30, 0, 0, 0, .null)), (30, (.iload_n 2, 31, 0, 0, 0, .null)), (31, (.iconst (-1), 32, 0, 0, 0, .int (-1))), (32, (.invokevirtual 418, 35, 195, 4, 11, .null)), (35, (.aload_n 0, 36, 0, 0, 0, .null)), (36, (.iload_n 1, 37, 0, 0, 0, .null)), (37, (.iconst 0, 38, 0, 0, 0, .int 0)), (38, (.invokevirtual 409, 41, 193, 3, 11, .null)), (41, (.istore_n 3, 42, 0, 0, 0, .null)), (42, (.aload_n 0, 43, 0, 0, 0, .null)), (43, (.iload_n 1, 44, 0, 0, 0, .null)), (44, (.iload_n 2, 45, 0, 0, 0, .null)), (45, (.iload_n 3, 46, 0, 0, 0, .null)), (46, (.invokevirtual 418, 49, 195, 4, 11, .null)), (49, (.aload_n 0, 50, 0, 0, 0, .null)), (50, (.dup, 51, 0, 0, 0, .null)), (51, (.getfield 328, 54, 11, 21, 0, .null)), (54, (.iconst 1, 55, 0, 0, 0, .int 1)), (55, (.iadd, 56, 0, 0, 0, .null)), (56, (.putfield 328, 59, 11, 21, 0, .null)), (59, (.iconst 1, 60, 0, 0, 0, .int 1)), (60, (.ireturn, 61, 0, 0, 0, .null))]
/-- AssertionGateLaw.cell([II)I -/
def tb197 : mB := [(0, (.iload_n 1, 1, 0, 0, 0, .null)), (1, (.aload_n 0, 2, 0, 0, 0, .null)), (2, (.arraylength, 3, 0, 0, 0, .null)), (3, (.if_icmp .ge 9, 6, 12, 0, 0, .null)), (6, (.aload_n 0, 7, 0, 0, 0, .null)), (7, (.iload_n 1, 8, 0, 0, 0, .null)), (8, (.iaload, 9, 0, 0, 0, .null)), (9, (.goto 4, 12, 13, 0, 0, .null)), (12, (.iconst 0, 13, 0, 0, 0, .int 0)), (13, (.ireturn, 14, 0, 0, 0, .null))]
/-- AssertionGateLaw.law([I)Z -/
def tbL : mB := [(0, (.new 7, 3, 0, 0, 0, .null)), (3, (.dup, 4, 0, 0, 0, .null)), (4, (.aload_n 0, 5, 0, 0, 0, .null)), (5, (.iconst 0, 6, 0, 0, 0, .int 0)), (6, (.invokestatic 9, 9, 197, 2, 99, .null)), (9, (.aload_n 0, 10, 0, 0, 0, .null)), (10, (.iconst 1, 11, 0, 0, 0, .int 1)), (11, (.invokestatic 9, 14, 197, 2, 99, .null)), (14, (.invokespecial 15, 17, 0, 3, 98, .null)), (17, (.astore_n 1, 18, 0, 0, 0, .null)), (18, (.new 18, 21, 11, 0, 0, .null)), (21, (.dup, 22, 0, 0, 0, .null)), (22, (.aload_n 0, 23, 0, 0, 0, .null)), (23, (.iconst 0, 24, 0, 0, 0, .int 0)), (24, (.invokestatic 9, 27, 197, 2, 99, .null)), (27, (.aload_n 0, 28, 0, 0, 0, .null)), (28, (.iconst 1, 29, 0, 0, 0, .int 1)), (29, (.invokestatic 9, 32, 197, 2, 99, .null)), (32, (.invokespecial 20, 35, 124, 3, 98, .null)), (35, (.astore_n 2, 36, 0, 0, 0, .null)), (36, (.iconst 2, 37, 0, 0, 0, .int 2)), (37, (.istore_n 3, 38, 0, 0, 0, .null)), (38, (.iload_n 3, 39, 0, 0, 0, .null)), (39, (.aload_n 0, 40, 0, 0, 0, .null)), (40, (.arraylength, 41, 0, 0, 0, .null)), (41, (.bipush 6, 43, 0, 0, 0, .int 6)), (43, (.isub, 44, 0, 0, 0, .null)), (44, (.if_icmp .gt 652, 47, 696, 0, 0, .null)), (47, (.aload_n 0, 48, 0, 0, 0, .null)), (48, (.iload_n 3, 49, 0, 0, 0, .null)), (49, (.iaload, 50, 0, 0, 0, .null)), (50, (.bipush 31, 52, 0, 0, 0, .int 31)), (52, (.iand, 53, 0, 0, 0, .null)), (53, (.tableswitch 637 0 19 #[95, 138, 181, 204, 227, 290, 323, 348, 383, 416, 439, 450, 463, 486, 499, 522, 555, 568, 591, 624], 53, 0, 0, 0, .null)), (148, (.aload_n 1, 149, 0, 0, 0, .null)), (149, (.aload_n 0, 150, 0, 0, 0, .null)), (150, (.iload_n 3, 151, 0, 0, 0, .null)), (151, (.iconst 1, 152, 0, 0, 0, .int 1)), (152, (.iadd, 153, 0, 0, 0, .null)), (153, (.iaload, 154, 0, 0, 0, .null)), (154, (.aload_n 0, 155, 0, 0, 0, .null)), (155, (.iload_n 3, 156, 0, 0, 0, .null)), (156, (.iconst 2, 157, 0, 0, 0, .int 2)), (157, (.iadd, 158, 0, 0, 0, .null)), (158, (.iaload, 159, 0, 0, 0, .null)), (159, (.aload_n 0, 160, 0, 0, 0, .null)), (160, (.iload_n 3, 161, 0, 0, 0, .null)), (161, (.iconst 3, 162, 0, 0, 0, .int 3)), (162, (.iadd, 163, 0, 0, 0, .null)), (163, (.iaload, 164, 0, 0, 0, .null)), (164, (.invokevirtual 21, 167, 1, 4, 0, .null)), (167, (.aload_n 2, 168, 0, 0, 0, .null)), (168, (.aload_n 0, 169, 0, 0, 0, .null)), (169, (.iload_n 3, 170, 0, 0, 0, .null)), (170, (.iconst 1, 171, 0, 0, 0, .int 1)), (171, (.iadd, 172, 0, 0, 0, .null)), (172, (.iaload, 173, 0, 0, 0, .null)), (173, (.aload_n 0, 174, 0, 0, 0, .null)), (174, (.iload_n 3, 175, 0, 0, 0, .null)), (175, (.iconst 2, 176, 0, 0, 0, .int 2)), (176, (.iadd, 177, 0, 0, 0, .null)), (177, (.iaload, 178, 0, 0, 0, .null)), (178, (.aload_n 0, 179, 0, 0, 0, .null)), (179, (.iload_n 3, 180, 0, 0, 0, .null)), (180, (.iconst 3, 181, 0, 0, 0, .int 3)), (181, (.iadd, 182, 0, 0, 0, .null)), (182, (.iaload, 183, 0, 0, 0, .null)), (183, (.invokevirtual 25, 186, 127, 4, 11, .null)), (186, (.if_icmp .eq 504, 189, 690, 0, 0, .null)), (189, (.iconst 0, 190, 0, 0, 0, .int 0)), (190, (.ireturn, 191, 0, 0, 0, .null)), (191, (.aload_n 1, 192, 0, 0, 0, .null)), (192, (.aload_n 0, 193, 0, 0, 0, .null)), (193, (.iload_n 3, 194, 0, 0, 0, .null)), (194, (.iconst 1, 195, 0, 0, 0, .int 1)), (195, (.iadd, 196, 0, 0, 0, .null)), (196, (.iaload, 197, 0, 0, 0, .null)), (197, (.aload_n 0, 198, 0, 0, 0, .null)), (198, (.iload_n 3, 199, 0, 0, 0, .null)), (199, (.iconst 2, 200, 0, 0, 0, .int 2)), (200, (.iadd, 201, 0, 0, 0, .null)), (201, (.iaload, 202, 0, 0, 0, .null)), (202, (.aload_n 0, 203, 0, 0, 0, .null)), (203, (.iload_n 3, 204, 0, 0, 0, .null)), (204, (.iconst 3, 205, 0, 0, 0, .int 3)), (205, (.iadd, 206, 0, 0, 0, .null)), (206, (.iaload, 207, 0, 0, 0, .null)), (207, (.invokevirtual 26, 210, 2, 4, 0, .null)), (210, (.aload_n 2, 211, 0, 0, 0, .null)), (211, (.aload_n 0, 212, 0, 0, 0, .null)), (212, (.iload_n 3, 213, 0, 0, 0, .null)), (213, (.iconst 1, 214, 0, 0, 0, .int 1)), (214, (.iadd, 215, 0, 0, 0, .null)), (215, (.iaload, 216, 0, 0, 0, .null)), (216, (.aload_n 0, 217, 0, 0, 0, .null)), (217, (.iload_n 3, 218, 0, 0, 0, .null)), (218, (.iconst 2, 219, 0, 0, 0, .int 2)), (219, (.iadd, 220, 0, 0, 0, .null)), (220, (.iaload, 221, 0, 0, 0, .null)), (221, (.aload_n 0, 222, 0, 0, 0, .null)), (222, (.iload_n 3, 223, 0, 0, 0, .null)), (223, (.iconst 3, 224, 0, 0, 0, .int 3)), (224, (.iadd, 225, 0, 0, 0, .null)), (225, (.iaload, 226, 0, 0, 0, .null)), (226, (.invokevirtual 29, 229, 128, 4, 11, .null)), (229, (.if_icmp .eq 461, 232, 690, 0, 0, .null)), (232, (.iconst 0, 233, 0, 0, 0, .int 0)), (233, (.ireturn, 234, 0, 0, 0, .null)), (234, (.aload_n 1, 235, 0, 0, 0, .null)), (235, (.aload_n 0, 236, 0, 0, 0, .null)), (236, (.iload_n 3, 237, 0, 0, 0, .null)), (237, (.iconst 1, 238, 0, 0, 0, .int 1)), (238, (.iadd, 239, 0, 0, 0, .null)), (239, (.iaload, 240, 0, 0, 0, .null)), (240, (.invokevirtual 30, 243, 4, 2, 0, .null)), (243, (.aload_n 2, 244, 0, 0, 0, .null)), (244, (.aload_n 0, 245, 0, 0, 0, .null)), (245, (.iload_n 3, 246, 0, 0, 0, .null)), (246, (.iconst 1, 247, 0, 0, 0, .int 1)), (247, (.iadd, 248, 0, 0, 0, .null)), (248, (.iaload, 249, 0, 0, 0, .null)), (249, (.invokevirtual 34, 252, 129, 2, 11, .null)), (252, (.if_icmp .eq 438, 255, 690, 0, 0, .null)), (255, (.iconst 0, 256, 0, 0, 0, .int 0)), (256, (.ireturn, 257, 0, 0, 0, .null)), (257, (.aload_n 1, 258, 0, 0, 0, .null)), (258, (.aload_n 0, 259, 0, 0, 0, .null)), (259, (.iload_n 3, 260, 0, 0, 0, .null)), (260, (.iconst 1, 261, 0, 0, 0, .int 1)), (261, (.iadd, 262, 0, 0, 0, .null)), (262, (.iaload, 263, 0, 0, 0, .null)), (263, (.invokevirtual 35, 266, 5, 2, 0, .null)), (266, (.aload_n 2, 267, 0, 0, 0, .null)), (267, (.aload_n 0, 268, 0, 0, 0, .null)), (268, (.iload_n 3, 269, 0, 0, 0, .null)), (269, (.iconst 1, 270, 0, 0, 0, .int 1)), (270, (.iadd, 271, 0, 0, 0, .null)), (271, (.iaload, 272, 0, 0, 0, .null)), (272, (.invokevirtual 39, 275, 130, 2, 11, .null)), (275, (.if_icmp .eq 415, 278, 690, 0, 0, .null)), (278, (.iconst 0, 279, 0, 0, 0, .int 0)), (279, (.ireturn, 280, 0, 0, 0, .null)), (280, (.aload_n 1, 281, 0, 0, 0, .null)), (281, (.aload_n 0, 282, 0, 0, 0, .null)), (282, (.iload_n 3, 283, 0, 0, 0, .null)), (283, (.iconst 1, 284, 0, 0, 0, .int 1)), (284, (.iadd, 285, 0, 0, 0, .null)), (285, (.iaload, 286, 0, 0, 0, .null)), (286, (.aload_n 0, 287, 0, 0, 0, .null)), (287, (.iload_n 3, 288, 0, 0, 0, .null)), (288, (.iconst 2, 289, 0, 0, 0, .int 2)), (289, (.iadd, 290, 0, 0, 0, .null)), (290, (.iaload, 291, 0, 0, 0, .null)), (291, (.aload_n 0, 292, 0, 0, 0, .null)), (292, (.iload_n 3, 293, 0, 0, 0, .null)), (293, (.iconst 3, 294, 0, 0, 0, .int 3)), (294, (.iadd, 295, 0, 0, 0, .null)), (295, (.iaload, 296, 0, 0, 0, .null)), (296, (.aload_n 0, 297, 0, 0, 0, .null)), (297, (.iload_n 3, 298, 0, 0, 0, .null)), (298, (.iconst 4, 299, 0, 0, 0, .int 4)), (299, (.iadd, 300, 0, 0, 0, .null)), (300, (.iaload, 301, 0, 0, 0, .null)), (301, (.aload_n 0, 302, 0, 0, 0, .null)), (302, (.iload_n 3, 303, 0, 0, 0, .null)), (303, (.iconst 5, 304, 0, 0, 0, .int 5)), (304, (.iadd, 305, 0, 0, 0, .null)), (305, (.iaload, 306, 0, 0, 0, .null)), (306, (.invokevirtual 40, 309, 6, 6, 0, .null)), (309, (.aload_n 2, 310, 0, 0, 0, .null)), (310, (.aload_n 0, 311, 0, 0, 0, .null)), (311, (.iload_n 3, 312, 0, 0, 0, .null)), (312, (.iconst 1, 313, 0, 0, 0, .int 1)), (313, (.iadd, 314, 0, 0, 0, .null)), (314, (.iaload, 315, 0, 0, 0, .null)), (315, (.aload_n 0, 316, 0, 0, 0, .null)), (316, (.iload_n 3, 317, 0, 0, 0, .null)), (317, (.iconst 2, 318, 0, 0, 0, .int 2)), (318, (.iadd, 319, 0, 0, 0, .null)), (319, (.iaload, 320, 0, 0, 0, .null)), (320, (.aload_n 0, 321, 0, 0, 0, .null)), (321, (.iload_n 3, 322, 0, 0, 0, .null)), (322, (.iconst 3, 323, 0, 0, 0, .int 3)), (323, (.iadd, 324, 0, 0, 0, .null)), (324, (.iaload, 325, 0, 0, 0, .null)), (325, (.aload_n 0, 326, 0, 0, 0, .null)), (326, (.iload_n 3, 327, 0, 0, 0, .null)), (327, (.iconst 4, 328, 0, 0, 0, .int 4)), (328, (.iadd, 329, 0, 0, 0, .null)), (329, (.iaload, 330, 0, 0, 0, .null)), (330, (.aload_n 0, 331, 0, 0, 0, .null)), (331, (.iload_n 3, 332, 0, 0, 0, .null)), (332, (.iconst 5, 333, 0, 0, 0, .int 5)), (333, (.iadd, 334, 0, 0, 0, .null)), (334, (.iaload, 335, 0, 0, 0, .null)), (335, (.invokevirtual 44, 338, 194, 6, 11, .null)), (338, (.if_icmp .eq 352, 341, 690, 0, 0, .null)), (341, (.iconst 0, 342, 0, 0, 0, .int 0)), (342, (.ireturn, 343, 0, 0, 0, .null)), (343, (.aload_n 1, 344, 0, 0, 0, .null)), (344, (.aload_n 0, 345, 0, 0, 0, .null)), (345, (.iload_n 3, 346, 0, 0, 0, .null)), (346, (.iconst 1, 347, 0, 0, 0, .int 1)), (347, (.iadd, 348, 0, 0, 0, .null)), (348, (.iaload, 349, 0, 0, 0, .null)), (349, (.aload_n 0, 350, 0, 0, 0, .null)), (350, (.iload_n 3, 351, 0, 0, 0, .null)), (351, (.iconst 2, 352, 0, 0, 0, .int 2)), (352, (.iadd, 353, 0, 0, 0, .null)), (353, (.iaload, 354, 0, 0, 0, .null)), (354, (.invokevirtual 45, 357, 12, 3, 0, .null)), (357, (.aload_n 2, 358, 0, 0, 0, .null)), (358, (.aload_n 0, 359, 0, 0, 0, .null)), (359, (.iload_n 3, 360, 0, 0, 0, .null)), (360, (.iconst 1, 361, 0, 0, 0, .int 1)), (361, (.iadd, 362, 0, 0, 0, .null)), (362, (.iaload, 363, 0, 0, 0, .null)), (363, (.aload_n 0, 364, 0, 0, 0, .null)), (364, (.iload_n 3, 365, 0, 0, 0, .null)), (365, (.iconst 2, 366, 0, 0, 0, .int 2)), (366, (.iadd, 367, 0, 0, 0, .null)), (367, (.iaload, 368, 0, 0, 0, .null)), (368, (.invokevirtual 49, 371, 196, 3, 11, .null)), (371, (.if_icmp .eq 319, 374, 690, 0, 0, .null)), (374, (.iconst 0, 375, 0, 0, 0, .int 0)), (375, (.ireturn, 376, 0, 0, 0, .null)), (376, (.aload_n 1, 377, 0, 0, 0, .null)), (377, (.aload_n 0, 378, 0, 0, 0, .null)), (378, (.iload_n 3, 379, 0, 0, 0, .null)), (379, (.iconst 1, 380, 0, 0, 0, .int 1)), (380, (.iadd, 381, 0, 0, 0, .null)), (381, (.iaload, 382, 0, 0, 0, .null)), (382, (.i2c, 383, 0, 0, 0, .null)), (383, (.invokevirtual 50, 386, 15, 2, 0, .null)), (386, (.aload_n 2, 387, 0, 0, 0, .null)), (387, (.aload_n 0, 388, 0, 0, 0, .null)), (388, (.iload_n 3, 389, 0, 0, 0, .null)), (389, (.iconst 1, 390, 0, 0, 0, .int 1)), (390, (.iadd, 391, 0, 0, 0, .null)), (391, (.iaload, 392, 0, 0, 0, .null)), (392, (.i2c, 393, 0, 0, 0, .null)), (393, (.invokevirtual 54, 396, 135, 2, 11, .null)), (396, (.if_icmp .eq 294, 399, 690, 0, 0, .null)), (399, (.iconst 0, 400, 0, 0, 0, .int 0)), (400, (.ireturn, 401, 0, 0, 0, .null)), (401, (.aload_n 1, 402, 0, 0, 0, .null)), (402, (.aload_n 0, 403, 0, 0, 0, .null)), (403, (.iload_n 3, 404, 0, 0, 0, .null)), (404, (.iconst 1, 405, 0, 0, 0, .int 1)), (405, (.iadd, 406, 0, 0, 0, .null)), (406, (.iaload, 407, 0, 0, 0, .null)), (407, (.aload_n 0, 408, 0, 0, 0, .null)), (408, (.iload_n 3, 409, 0, 0, 0, .null)), (409, (.iconst 2, 410, 0, 0, 0, .int 2)), (410, (.iadd, 411, 0, 0, 0, .null)), (411, (.iaload, 412, 0, 0, 0, .null)), (412, (.i2c, 413, 0, 0, 0, .null)), (413, (.invokevirtual 55, 416, 16, 3, 0, .null)), (416, (.aload_n 2, 417, 0, 0, 0, .null)), (417, (.aload_n 0, 418, 0, 0, 0, .null)), (418, (.iload_n 3, 419, 0, 0, 0, .null)), (419, (.iconst 1, 420, 0, 0, 0, .int 1)), (420, (.iadd, 421, 0, 0, 0, .null)), (421, (.iaload, 422, 0, 0, 0, .null)), (422, (.aload_n 0, 423, 0, 0, 0, .null)), (423, (.iload_n 3, 424, 0, 0, 0, .null)), (424, (.iconst 2, 425, 0, 0, 0, .int 2)), (425, (.iadd, 426, 0, 0, 0, .null)), (426, (.iaload, 427, 0, 0, 0, .null)), (427, (.i2c, 428, 0, 0, 0, .null)), (428, (.invokevirtual 59, 431, 136, 3, 11, .null)), (431, (.if_icmp .eq 259, 434, 690, 0, 0, .null)), (434, (.iconst 0, 435, 0, 0, 0, .int 0)), (435, (.ireturn, 436, 0, 0, 0, .null)), (436, (.aload_n 1, 437, 0, 0, 0, .null)), (437, (.aload_n 0, 438, 0, 0, 0, .null)), (438, (.iload_n 3, 439, 0, 0, 0, .null)), (439, (.iconst 1, 440, 0, 0, 0, .int 1)), (440, (.iadd, 441, 0, 0, 0, .null)), (441, (.iaload, 442, 0, 0, 0, .null)), (442, (.aload_n 0, 443, 0, 0, 0, .null)), (443, (.iload_n 3, 444, 0, 0, 0, .null)), (444, (.iconst 2, 445, 0, 0, 0, .int 2)), (445, (.iadd, 446, 0, 0, 0, .null)), (446, (.iaload, 447, 0, 0, 0, .null)), (447, (.invokevirtual 60, 450, 17, 3, 0, .null)), (450, (.aload_n 2, 451, 0, 0, 0, .null)), (451, (.aload_n 0, 452, 0, 0, 0, .null)), (452, (.iload_n 3, 453, 0, 0, 0, .null)), (453, (.iconst 1, 454, 0, 0, 0, .int 1)), (454, (.iadd, 455, 0, 0, 0, .null)), (455, (.iaload, 456, 0, 0, 0, .null)), (456, (.aload_n 0, 457, 0, 0, 0, .null)), (457, (.iload_n 3, 458, 0, 0, 0, .null)), (458, (.iconst 2, 459, 0, 0, 0, .int 2)), (459, (.iadd, 460, 0, 0, 0, .null)), (460, (.iaload, 461, 0, 0, 0, .null)), (461, (.invokevirtual 63, 464, 137, 3, 11, .null)), (464, (.if_icmp .eq 226, 467, 690, 0, 0, .null)), (467, (.iconst 0, 468, 0, 0, 0, .int 0)), (468, (.ireturn, 469, 0, 0, 0, .null)), (469, (.aload_n 1, 470, 0, 0, 0, .null)), (470, (.aload_n 0, 471, 0, 0, 0, .null)), (471, (.iload_n 3, 472, 0, 0, 0, .null)), (472, (.iconst 1, 473, 0, 0, 0, .int 1)), (473, (.iadd, 474, 0, 0, 0, .null)), (474, (.iaload, 475, 0, 0, 0, .null)), (475, (.invokevirtual 64, 478, 18, 2, 0, .null)), (478, (.aload_n 2, 479, 0, 0, 0, .null)), (479, (.aload_n 0, 480, 0, 0, 0, .null)), (480, (.iload_n 3, 481, 0, 0, 0, .null)), (481, (.iconst 1, 482, 0, 0, 0, .int 1)), (482, (.iadd, 483, 0, 0, 0, .null)), (483, (.iaload, 484, 0, 0, 0, .null)), (484, (.invokevirtual 67, 487, 138, 2, 11, .null)), (487, (.if_icmp .eq 203, 490, 690, 0, 0, .null)), (490, (.iconst 0, 491, 0, 0, 0, .int 0)), (491, (.ireturn, 492, 0, 0, 0, .null)), (492, (.aload_n 1, 493, 0, 0, 0, .null)), (493, (.invokevirtual 68, 496, 19, 1, 0, .null)), (496, (.aload_n 2, 497, 0, 0, 0, .null)), (497, (.invokevirtual 71, 500, 139, 1, 11, .null)), (500, (.goto 190, 503, 690, 0, 0, .null)), (503, (.aload_n 1, 504, 0, 0, 0, .null)), (504, (.invokevirtual 72, 507, 20, 1, 0, .null)), (507, (.aload_n 2, 508, 0, 0, 0, .null)), (508, (.invokevirtual 76, 511, 140, 1, 11, .null)), (511, (.if_icmp .eq 179, 514, 690, 0, 0, .null)), (514, (.iconst 0, 515, 0, 0, 0, .int 0)), (515, (.ireturn, 516, 0, 0, 0, .null)), (516, (.aload_n 1, 517, 0, 0, 0, .null)), (517, (.aload_n 0, 518, 0, 0, 0, .null)), (518, (.iload_n 3, 519, 0, 0, 0, .null)), (519, (.iconst 1, 520, 0, 0, 0, .int 1)), (520, (.iadd, 521, 0, 0, 0, .null)), (521, (.iaload, 522, 0, 0, 0, .null)), (522, (.invokevirtual 77, 525, 21, 2, 0, .null)), (525, (.aload_n 2, 526, 0, 0, 0, .null)), (526, (.aload_n 0, 527, 0, 0, 0, .null)), (527, (.iload_n 3, 528, 0, 0, 0, .null)), (528, (.iconst 1, 529, 0, 0, 0, .int 1)), (529, (.iadd, 530, 0, 0, 0, .null)), (530, (.iaload, 531, 0, 0, 0, .null)), (531, (.invokevirtual 80, 534, 141, 2, 11, .null)), (534, (.if_icmp .eq 156, 537, 690, 0, 0, .null)), (537, (.iconst 0, 538, 0, 0, 0, .int 0)), (538, (.ireturn, 539, 0, 0, 0, .null)), (539, (.aload_n 1, 540, 0, 0, 0, .null)), (540, (.invokevirtual 81, 543, 22, 1, 0, .null)), (543, (.aload_n 2, 544, 0, 0, 0, .null)), (544, (.invokevirtual 84, 547, 154, 1, 11, .null)), (547, (.if_icmp .eq 143, 550, 690, 0, 0, .null)), (550, (.iconst 0, 551, 0, 0, 0, .int 0)), (551, (.ireturn, 552, 0, 0, 0, .null)), (552, (.aload_n 1, 553, 0, 0, 0, .null)), (553, (.aload_n 0, 554, 0, 0, 0, .null)), (554, (.iload_n 3, 555, 0, 0, 0, .null)), (555, (.iconst 1, 556, 0, 0, 0, .int 1)), (556, (.iadd, 557, 0, 0, 0, .null)), (557, (.iaload, 558, 0, 0, 0, .null)), (558, (.invokevirtual 85, 561, 23, 2, 0, .null)), (561, (.aload_n 2, 562, 0, 0, 0, .null)), (562, (.aload_n 0, 563, 0, 0, 0, .null)), (563, (.iload_n 3, 564, 0, 0, 0, .null)), (564, (.iconst 1, 565, 0, 0, 0, .int 1)), (565, (.iadd, 566, 0, 0, 0, .null)), (566, (.iaload, 567, 0, 0, 0, .null)), (567, (.invokevirtual 88, 570, 162, 2, 11, .null)), (570, (.if_icmp .eq 120, 573, 690, 0, 0, .null)), (573, (.iconst 0, 574, 0, 0, 0, .int 0)), (574, (.ireturn, 575, 0, 0, 0, .null)), (575, (.aload_n 1, 576, 0, 0, 0, .null)), (576, (.aload_n 0, 577, 0, 0, 0, .null)), (577, (.iload_n 3, 578, 0, 0, 0, .null)), (578, (.iconst 1, 579, 0, 0, 0, .int 1)), (579, (.iadd, 580, 0, 0, 0, .null)), (580, (.iaload, 581, 0, 0, 0, .null)), (581, (.aload_n 0, 582, 0, 0, 0, .null)), (582, (.iload_n 3, 583, 0, 0, 0, .null)), (583, (.iconst 2, 584, 0, 0, 0, .int 2)), (584, (.iadd, 585, 0, 0, 0, .null)), (585, (.iaload, 586, 0, 0, 0, .null)), (586, (.invokevirtual 89, 589, 24, 3, 0, .null)), (589, (.aload_n 2, 590, 0, 0, 0, .null)), (590, (.aload_n 0, 591, 0, 0, 0, .null)), (591, (.iload_n 3, 592, 0, 0, 0, .null)), (592, (.iconst 1, 593, 0, 0, 0, .int 1)), (593, (.iadd, 594, 0, 0, 0, .null)), (594, (.iaload, 595, 0, 0, 0, .null)), (595, (.aload_n 0, 596, 0, 0, 0, .null)), (596, (.iload_n 3, 597, 0, 0, 0, .null)), (597, (.iconst 2, 598, 0, 0, 0, .int 2)), (598, (.iadd, 599, 0, 0, 0, .null)), (599, (.iaload, 600, 0, 0, 0, .null)), (600, (.invokevirtual 93, 603, 163, 3, 11, .null)), (603, (.if_icmp .eq 87, 606, 690, 0, 0, .null)), (606, (.iconst 0, 607, 0, 0, 0, .int 0)), (607, (.ireturn, 608, 0, 0, 0, .null)), (608, (.aload_n 1, 609, 0, 0, 0, .null)), (609, (.invokevirtual 94, 612, 26, 1, 0, .null)), (612, (.aload_n 2, 613, 0, 0, 0, .null)), (613, (.invokevirtual 97, 616, 183, 1, 11, .null)), (616, (.if_icmp .eq 74, 619, 690, 0, 0, .null)), (619, (.iconst 0, 620, 0, 0, 0, .int 0)), (620, (.ireturn, 621, 0, 0, 0, .null)), (621, (.aload_n 1, 622, 0, 0, 0, .null)), (622, (.aload_n 0, 623, 0, 0, 0, .null)), (623, (.iload_n 3, 624, 0, 0, 0, .null)), (624, (.iconst 1, 625, 0, 0, 0, .int 1)), (625, (.iadd, 626, 0, 0, 0, .null)), (626, (.iaload, 627, 0, 0, 0, .null)), (627, (.invokevirtual 98, 630, 27, 2, 0, .null)), (630, (.aload_n 2, 631, 0, 0, 0, .null)), (631, (.aload_n 0, 632, 0, 0, 0, .null)), (632, (.iload_n 3, 633, 0, 0, 0, .null)), (633, (.iconst 1, 634, 0, 0, 0, .int 1)), (634, (.iadd, 635, 0, 0, 0, .null)), (635, (.iaload, 636, 0, 0, 0, .null)), (636, (.invokevirtual 101, 639, 184, 2, 11, .null)), (639, (.if_icmp .eq 51, 642, 690, 0, 0, .null)), (642, (.iconst 0, 643, 0, 0, 0, .int 0)), (643, (.ireturn, 644, 0, 0, 0, .null)), (644, (.aload_n 1, 645, 0, 0, 0, .null)), (645, (.aload_n 0, 646, 0, 0, 0, .null)), (646, (.iload_n 3, 647, 0, 0, 0, .null)), (647, (.iconst 1, 648, 0, 0, 0, .int 1)), (648, (.iadd, 649, 0, 0, 0, .null)), (649, (.iaload, 650, 0, 0, 0, .null)), (650, (.aload_n 0, 651, 0, 0, 0, .null)), (651, (.iload_n 3, 652, 0, 0, 0, .null)), (652, (.iconst 2, 653, 0, 0, 0, .int 2)), (653, (.iadd, 654, 0, 0, 0, .null)), (654, (.iaload, 655, 0, 0, 0, .null)), (655, (.invokevirtual 102, 658, 28, 3, 0, .null)), (658, (.aload_n 2, 659, 0, 0, 0, .null)), (659, (.aload_n 0, 660, 0, 0, 0, .null)), (660, (.iload_n 3, 661, 0, 0, 0, .null)), (661, (.iconst 1, 662, 0, 0, 0, .int 1)), (662, (.iadd, 663, 0, 0, 0, .null)), (663, (.iaload, 664, 0, 0, 0, .null)), (664, (.aload_n 0, 665, 0, 0, 0, .null)), (665, (.iload_n 3, 666, 0, 0, 0, .null)), (666, (.iconst 2, 667, 0, 0, 0, .int 2)), (667, (.iadd, 668, 0, 0, 0, .null)), (668, (.iaload, 669, 0, 0, 0, .null)), (669, (.invokevirtual 105, 672, 185, 3, 11, .null)), (672, (.if_icmp .eq 18, 675, 690, 0, 0, .null)), (675, (.iconst 0, 676, 0, 0, 0, .int 0)), (676, (.ireturn, 677, 0, 0, 0, .null)), (677, (.aload_n 1, 678, 0, 0, 0, .null)), (678, (.invokevirtual 106, 681, 29, 1, 0, .null)), (681, (.aload_n 2, 682, 0, 0, 0, .null)), (682, (.invokevirtual 109, 685, 132, 1, 11, .null)), (685, (.if_icmp .eq 5, 688, 690, 0, 0, .null)), (688, (.iconst 0, 689, 0, 0, 0, .int 0)), (689, (.ireturn, 690, 0, 0, 0, .null)), (690, (.iinc 3 6, 693, 0, 0, 0, .int 6)), (693, (.goto (-655), 696, 38, 0, 0, .null)), (696, (.iconst 1, 697, 0, 0, 0, .int 1)), (697, (.ireturn, 698, 0, 0, 0, .null))]
def qM : List mM := [(tb0, 3, none), (tb1, 4, (some .boolean)), (tb2, 4, (some .boolean)), (tb3, 3, (some .boolean)), (tb4, 2, (some .boolean)), (tb5, 2, (some .int)), (tb6, 9, (some .boolean)), (tb7, 3, none), (tb8, 5, none), (tb9, 2, none), (tb10, 2, none), (tb11, 3, none), (tb12, 5, (some .boolean)), (tb13, 2, (some .boolean)), (tb14, 1, (some .boolean)), (tb15, 2, (some .boolean)), (tb16, 3, (some .boolean)), (tb17, 3, (some .boolean)), (tb18, 2, (some .boolean)), (tb19, 1, none), (tb20, 1, (some .int)), (tb21, 2, (some .int)), (tb22, 1, (some .int)), (tb23, 2, (some .int)), (tb24, 3, (some .int)), (tb25, 3, (some .int)), (tb26, 2, (some .int)), (tb27, 2, (some .int)), (tb28, 3, (some .int)), (tb29, 1, (some .int)), (tb30, 3, (some .int)), (tb31, 2, (some .int)), (tb32, 2, (some .boolean)), (tb33, 3, (some .int)), (tb34, 5, (some .boolean)), (tb35, 4, (some .int)), (tb36, 3, (some .boolean)), (tb37, 3, none), (tb38, 1, none), (tb39, 2, (some .int)), (tb40, 2, (some .boolean)), (tb41, 3, none), (tb42, 4, none), (tb43, 2, none), (tb44, 4, none), (tb45, 3, none), (tb46, 3, (some .int)), (tb47, 3, (some .int)), (tb48, 2, (some .boolean)), (tb49, 3, (some .int)), (tb50, 5, (some .boolean)), (tb51, 8, (some .int)), (tb52, 2, none), (tb53, 2, (some .boolean)), (tb54, 5, (some .int)), (tb55, 8, (some .boolean)), (tb56, 3, (some .boolean)), (tb57, 5, (some .int)), (tb58, 4, (some .int)), (tb59, 3, (some .int)), (tb60, 2, (some .int)), (tb61, 2, (some .int)), (tb62, 5, (some .boolean)), (tb63, 3, (some .boolean)), (tb64, 3, (some .boolean)), (tb65, 5, (some .int)), (tb66, 3, (some .boolean)), (tb67, 2, (some .int)), (tb68, 2, (some .int)), (tb69, 5, (some .boolean)), (tb70, 3, (some .boolean)), (tb71, 4, (some .boolean)), (tb72, 5, (some .boolean)), (tb73, 3, (some .boolean)), (tb74, 9, (some .int)), (tb75, 4, (some .boolean)), (tb76, 4, (some .boolean)), (tb77, 3, none), (tb78, 4, (some .int)), (tb79, 4, (some .boolean)), (tb80, 3, (some .int)), (tb81, 7, (some .int)), (tb82, 8, (some .int)), (tb83, 3, (some .int)), (tb84, 4, (some .int)), (tb85, 3, none), (tb86, 5, (some .int)), (tb87, 3, (some .int)), (tb88, 5, (some .int)), (tb89, 3, none), (tb90, 3, none), (tb91, 4, none), (tb92, 2, none), (tb93, 1, none), (tb94, 2, (some .boolean)), (tb95, 2, (some .boolean)), (tb96, 3, (some .int)), (tb97, 4, (some .boolean)), (tb98, 8, (some .int)), (tb99, 2, none), (tb100, 3, (some .int)), (tb101, 3, (some .boolean)), (tb102, 4, (some .boolean)), (tb103, 2, none), (tb104, 4, (some .int)), (tb105, 1, none), (tb106, 1, (some .boolean)), (tb107, 6, (some .int)), (tb108, 7, (some .int)), (tb109, 2, (some .int)), (tb110, 2, none), (tb111, 1, (some .boolean)), (tb112, 5, none), (tb113, 4, (some .int)), (tb114, 6, (some .boolean)), (tb115, 5, (some .int)), (tb116, 2, none), (tb117, 1, (some .boolean)), (tb118, 1, none), (tb119, 1, (some .boolean)), (tb120, 1, (some .boolean)), (tb121, 1, (some .boolean)), (tb122, 2, none), (tb123, 1, (some .boolean)), (tb124, 3, none), (tb125, 1, (some .boolean)), (tb126, 2, (some .boolean)), (tb127, 4, (some .boolean)), (tb128, 4, (some .boolean)), (tb129, 2, (some .boolean)), (tb130, 2, (some .int)), (tb131, 2, (some .boolean)), (tb132, 3, (some .int)), (tb133, 13, (some .int)), (tb134, 1, (some .boolean)), (tb135, 2, (some .boolean)), (tb136, 3, (some .boolean)), (tb137, 4, (some .boolean)), (tb138, 3, (some .boolean)), (tb139, 1, none), (tb140, 1, (some .int)), (tb141, 2, (some .int)), (tb142, 2, (some .boolean)), (tb143, 4, (some .boolean)), (tb144, 1, (some .boolean)), (tb145, 4, (some .int)), (tb146, 3, (some .int)), (tb147, 6, (some .int)), (tb148, 6, (some .int)), (tb149, 6, (some .int)), (tb150, 3, (some .int)), (tb151, 4, (some .int)), (tb152, 4, (some .int)), (tb153, 6, (some .int)), (tb154, 1, (some .int)), (tb155, 2, (some .int)), (tb156, 6, (some .int)), (tb157, 5, (some .int)), (tb158, 9, (some .int)), (tb159, 4, (some .int)), (tb160, 5, (some .int)), (tb161, 7, (some .int)), (tb162, 3, (some .int)), (tb163, 4, (some .int)), (tb164, 7, (some .long)), (tb165, 2, (some .long)), (tb166, 5, (some .long)), (tb167, 8, (some .int)), (tb168, 6, (some .boolean)), (tb169, 6, (some .int)), (tb170, 5, (some .int)), (tb171, 4, (some .boolean)), (tb172, 3, (some .boolean)), (tb173, 6, (some .boolean)), (tb174, 7, (some .boolean)), (tb175, 1, (some .boolean)), (tb176, 4, (some .int)), (tb177, 5, (some .boolean)), (tb178, 5, (some .boolean)), (tb179, 3, none), (tb180, 6, (some .int)), (tb181, 6, (some .int)), (tb182, 5, (some .int)), (tb183, 4, (some .int)), (tb184, 2, (some .int)), (tb185, 6, (some .int)), (tb186, 5, none), (tb187, 3, none), (tb188, 3, none), (tb189, 2, none), (tb190, 2, none), (tb191, 4, none), (tb192, 7, none), (tb193, 4, (some .int)), (tb194, 8, (some .boolean)), (tb195, 4, none), (tb196, 4, (some .boolean)), (tb197, 2, (some .int))]
def qSh : List mK := [.inr (0, [.inl 1, .inl 3, .inl 5, .inl 16, .inl 17, .inl 18, .inl 23, .inl 27, .inl 33, .inl 36, .inl 37, .inr true, .inr true, .inr true]), .inr (1, [.inl 2, .inr true]), .inl (1, 400, false), .inr (1, [.inl 4, .inr true]), .inl (1, 400, false), .inr (2, [.inl 1, .inr true, .inl 6, .inl 7, .inl 8, .inl 9, .inl 10, .inl 11, .inl 12, .inl 13, .inl 14, .inl 15]), .inl (0, 20, false), .inl (0, 20, false), .inl (0, 20, false), .inl (0, 20, false), .inl (0, 20, false), .inl (0, 20, false), .inl (0, 20, false), .inl (0, 80, false), .inl (0, 80, false), .inl (0, 80, false), .inr (3, [.inl 1, .inl 5, .inr true, .inr true]), .inr (4, [.inl 1, .inl 5, .inr true, .inr true]), .inr (5, [.inl 19, .inl 20, .inl 21, .inl 22]), .inl (0, 4, false), .inl (0, 4, false), .inl (0, 4, false), .inl (0, 4, false), .inr (6, [.inr true, .inl 24, .inl 25, .inl 26, .inr true]), .inl (0, 30, false), .inl (0, 30, false), .inl (2, 30, false), .inr (7, [.inl 28, .inl 29, .inl 30]), .inl (0, 20, false), .inl (2, 20, false), .inr (8, [.inr true, .inl 31, .inl 32, .inr true]), .inl (1, 160, false), .inl (0, 20, false), .inr (8, [.inr true, .inl 34, .inl 35, .inr true]), .inl (1, 320, false), .inl (0, 40, false), .inr (9, [.inl 5, .inr true, .inr true, .inr true, .inr true, .inr true, .inr true, .inr true, .inr true, .inr true, .inr true]), .inr (10, [.inl 5, .inr true, .inr true, .inr true]), .inr (11, [.inr true, .inr true, .inr true, .inl 39, .inr true, .inl 40, .inr true, .inl 41, .inl 42, .inl 43, .inl 44, .inr true, .inl 45, .inl 46, .inl 47, .inr true, .inl 48, .inl 49, .inl 50, .inr true, .inl 51, .inr true, .inr true, .inl 52, .inl 53, .inl 54, .inl 55, .inl 56, .inl 57, .inl 58, .inl 59, .inl 60, .inl 61, .inl 62, .inr false, .inr true]), .inl (0, 400, false), .inl (0, 400, false), .inl (0, 4, false), .inl (0, 4, false), .inl (0, 4, false), .inl (0, 4, false), .inl (0, 30, false), .inl (0, 30, false), .inl (2, 30, false), .inl (0, 20, false), .inl (3, 20, true), .inl (2, 20, false), .inl (3, 40, true), .inl (3, 20, true), .inl (0, 20, false), .inl (0, 20, false), .inl (0, 20, false), .inl (0, 20, false), .inl (0, 20, false), .inl (2, 20, false), .inl (0, 20, false), .inl (3, 80, true), .inl (0, 80, false), .inl (0, 80, false)]
abbrev qPR : Nat → List Value → mG → Option (mA mG) := mi_pr qL (mi_cp2 qSh)
abbrev TT (X : Nat × (Nat → Int32)) (d : Nat) (tb : mB) (ret : Option FieldType) (s : mS mG) (r : mA mG) : Prop := mi_T (mi_O2 qF X qSh) qPR qM d tb ret s r
abbrev RR (X : Nat × (Nat → Int32)) (d j : Nat) (as : List Value) (σ : mG) (r : mA mG) : Prop := mi_R (mi_O2 qF X qSh) qPR qM d j as σ r
end
section
/-! Words of the tables by their places: printed by a program. -/
theorem qt1 : ∀ w ∈ tables_1_1, w ∈ lw_tbl := fun _ h => List.mem_append_right _ (List.mem_append_left _ h)
theorem qt2 : ∀ w ∈ tables_1_2, w ∈ lw_tbl := fun _ h => List.mem_append_right _ (List.mem_append_right _ (List.mem_append_left _ h))
theorem qt3 : ∀ w ∈ tables_1_3, w ∈ lw_tbl := fun _ h => List.mem_append_right _ (List.mem_append_right _ (List.mem_append_right _ (List.mem_append_left _ h)))
theorem qt4 : ∀ w ∈ tables_1_4, w ∈ lw_tbl := fun _ h => List.mem_append_right _ (List.mem_append_right _ (List.mem_append_right _ (List.mem_append_right _ (List.mem_append_left _ h))))
theorem qt5 : ∀ w ∈ tables_1_5, w ∈ lw_tbl := fun _ h => List.mem_append_right _ (List.mem_append_right _ (List.mem_append_right _ (List.mem_append_right _ (List.mem_append_right _ (List.mem_append_left _ h)))))
theorem qt6 : ∀ w ∈ tables_1_6, w ∈ lw_tbl := fun _ h => List.mem_append_right _ (List.mem_append_right _ (List.mem_append_right _ (List.mem_append_right _ (List.mem_append_right _ (List.mem_append_right _ (h))))))
theorem qw0 : (Jvm.Cond.initialized "AssertionGateLaw") ∈ lw_tbl := qt1 _ (List.mem_of_getElem? (i := 0) rfl)
theorem qw1 : (Jvm.Cond.initialized "AssertionGate") ∈ lw_tbl := qt1 _ (List.mem_of_getElem? (i := 1) rfl)
theorem qw2 : (Jvm.Cond.initialized "AssertionGate$Page") ∈ lw_tbl := qt1 _ (List.mem_of_getElem? (i := 2) rfl)
theorem qw3 : (Jvm.Cond.initialized "AssertionGate$Message") ∈ lw_tbl := qt1 _ (List.mem_of_getElem? (i := 3) rfl)
theorem qw4 : (Jvm.Cond.initialized "AssertionGate$Reader") ∈ lw_tbl := qt1 _ (List.mem_of_getElem? (i := 4) rfl)
theorem qw5 : (Jvm.Cond.initialized "AssertionGate$Digester") ∈ lw_tbl := qt1 _ (List.mem_of_getElem? (i := 5) rfl)
theorem qw6 : (Jvm.Cond.initialized "AssertionGate$Issuers") ∈ lw_tbl := qt1 _ (List.mem_of_getElem? (i := 6) rfl)
theorem qw7 : (Jvm.Cond.initialized "AssertionGate$Requests") ∈ lw_tbl := qt1 _ (List.mem_of_getElem? (i := 7) rfl)
theorem qw8 : (Jvm.Cond.initialized "AssertionGate$Sessions") ∈ lw_tbl := qt1 _ (List.mem_of_getElem? (i := 8) rfl)
theorem qw9 : (Jvm.Cond.initialized "AssertionGate$Labels") ∈ lw_tbl := qt1 _ (List.mem_of_getElem? (i := 9) rfl)
theorem qw10 : (Jvm.Cond.initialized "AssertionGate$Response") ∈ lw_tbl := qt1 _ (List.mem_of_getElem? (i := 10) rfl)
theorem qw11 : (Jvm.Cond.initialized "AssertionGate$Logout") ∈ lw_tbl := qt1 _ (List.mem_of_getElem? (i := 11) rfl)
theorem qw12 : (Jvm.Cond.initialized "AssertionGateModel") ∈ lw_tbl := qt1 _ (List.mem_of_getElem? (i := 12) rfl)
theorem qw19 : (Jvm.Cond.classLink "AssertionGateLaw" (7 : Nat) "AssertionGate") ∈ lw_tbl := qt1 _ (List.mem_of_getElem? (i := 19) rfl)
theorem qw20 : (Jvm.Cond.instantiable "AssertionGate" (14 : Nat)) ∈ lw_tbl := qt1 _ (List.mem_of_getElem? (i := 20) rfl)
theorem qw21 : (Jvm.Cond.methodLink "AssertionGateLaw" (15 : Nat) ({ cls := "AssertionGate", name := "<init>", desc := "(II)V" } : Jvm.MethodName)) ∈ lw_tbl := qt1 _ (List.mem_of_getElem? (i := 21) rfl)
theorem qw22 : (Jvm.Cond.instanceMethod ({ cls := "AssertionGate", name := "<init>", desc := "(II)V" } : Jvm.MethodName)) ∈ lw_tbl := qt1 _ (List.mem_of_getElem? (i := 22) rfl)
theorem qw23 : (Jvm.Cond.code ({ cls := "AssertionGate", name := "<init>", desc := "(II)V" } : Jvm.MethodName) prog_1_method_1_code (3 : Nat) (Option.none : Option Jvm.ClassFile.FieldType)) ∈ lw_tbl := qt1 _ (List.mem_of_getElem? (i := 23) rfl)
theorem qw27 : (Jvm.Cond.classLink "AssertionGate" (7 : Nat) "AssertionGate$Page") ∈ lw_tbl := qt1 _ (List.mem_of_getElem? (i := 27) rfl)
theorem qw28 : (Jvm.Cond.instantiable "AssertionGate$Page" (2 : Nat)) ∈ lw_tbl := qt1 _ (List.mem_of_getElem? (i := 28) rfl)
theorem qw29 : (Jvm.Cond.methodLink "AssertionGate" (9 : Nat) ({ cls := "AssertionGate$Page", name := "<init>", desc := "()V" } : Jvm.MethodName)) ∈ lw_tbl := qt1 _ (List.mem_of_getElem? (i := 29) rfl)
theorem qw30 : (Jvm.Cond.instanceMethod ({ cls := "AssertionGate$Page", name := "<init>", desc := "()V" } : Jvm.MethodName)) ∈ lw_tbl := qt1 _ (List.mem_of_getElem? (i := 30) rfl)
theorem qw31 : (Jvm.Cond.code ({ cls := "AssertionGate$Page", name := "<init>", desc := "()V" } : Jvm.MethodName) prog_7_method_1_code (1 : Nat) (Option.none : Option Jvm.ClassFile.FieldType)) ∈ lw_tbl := qt1 _ (List.mem_of_getElem? (i := 31) rfl)
theorem qw33 : (Jvm.Cond.fieldLink "AssertionGate$Page" (9 : Nat) "AssertionGate$Page" "codes" "[C") ∈ lw_tbl := qt1 _ (List.mem_of_getElem? (i := 33) rfl)
theorem qw34 : (Jvm.Cond.fieldLink "AssertionGate" (216 : Nat) "AssertionGate$Page" "codes" "[C") ∈ lw_tbl := qt1 _ (List.mem_of_getElem? (i := 34) rfl)
theorem qw35 : (Jvm.Cond.fieldLink "AssertionGate$Page" (15 : Nat) "AssertionGate$Page" "size" "I") ∈ lw_tbl := qt1 _ (List.mem_of_getElem? (i := 35) rfl)
theorem qw36 : (Jvm.Cond.fieldLink "AssertionGate$Reader" (44 : Nat) "AssertionGate$Page" "size" "I") ∈ lw_tbl := qt1 _ (List.mem_of_getElem? (i := 36) rfl)
theorem qw37 : (Jvm.Cond.fieldLink "AssertionGate" (142 : Nat) "AssertionGate$Page" "size" "I") ∈ lw_tbl := qt1 _ (List.mem_of_getElem? (i := 37) rfl)
theorem qw43 : (Jvm.Cond.arrayClass Jvm.ClassFile.FieldType.char) ∈ lw_tbl := qt1 _ (List.mem_of_getElem? (i := 43) rfl)
theorem qw44 : (Jvm.Cond.classLink "AssertionGate" (19 : Nat) "AssertionGate$Message") ∈ lw_tbl := qt1 _ (List.mem_of_getElem? (i := 44) rfl)
theorem qw45 : (Jvm.Cond.instantiable "AssertionGate$Message" (12 : Nat)) ∈ lw_tbl := qt1 _ (List.mem_of_getElem? (i := 45) rfl)
theorem qw46 : (Jvm.Cond.methodLink "AssertionGate" (21 : Nat) ({ cls := "AssertionGate$Message", name := "<init>", desc := "(LAssertionGate$Page;)V" } : Jvm.MethodName)) ∈ lw_tbl := qt1 _ (List.mem_of_getElem? (i := 46) rfl)
theorem qw47 : (Jvm.Cond.instanceMethod ({ cls := "AssertionGate$Message", name := "<init>", desc := "(LAssertionGate$Page;)V" } : Jvm.MethodName)) ∈ lw_tbl := qt1 _ (List.mem_of_getElem? (i := 47) rfl)
theorem qw48 : (Jvm.Cond.code ({ cls := "AssertionGate$Message", name := "<init>", desc := "(LAssertionGate$Page;)V" } : Jvm.MethodName) prog_6_method_1_code (2 : Nat) (Option.none : Option Jvm.ClassFile.FieldType)) ∈ lw_tbl := qt1 _ (List.mem_of_getElem? (i := 48) rfl)
theorem qw50 : (Jvm.Cond.fieldLink "AssertionGate$Message" (9 : Nat) "AssertionGate$Message" "page" "LAssertionGate$Page;") ∈ lw_tbl := qt1 _ (List.mem_of_getElem? (i := 50) rfl)
theorem qw51 : (Jvm.Cond.fieldLink "AssertionGate$Message" (15 : Nat) "AssertionGate$Message" "count" "I") ∈ lw_tbl := qt1 _ (List.mem_of_getElem? (i := 51) rfl)
theorem qw52 : (Jvm.Cond.fieldLink "AssertionGate$Reader" (26 : Nat) "AssertionGate$Message" "count" "I") ∈ lw_tbl := qt1 _ (List.mem_of_getElem? (i := 52) rfl)
theorem qw53 : (Jvm.Cond.fieldLink "AssertionGate$Digester" (98 : Nat) "AssertionGate$Message" "count" "I") ∈ lw_tbl := qt1 _ (List.mem_of_getElem? (i := 53) rfl)
theorem qw54 : (Jvm.Cond.fieldLink "AssertionGate$Message" (19 : Nat) "AssertionGate$Message" "parent" "[I") ∈ lw_tbl := qt1 _ (List.mem_of_getElem? (i := 54) rfl)
theorem qw55 : (Jvm.Cond.fieldLink "AssertionGate$Digester" (68 : Nat) "AssertionGate$Message" "parent" "[I") ∈ lw_tbl := qt1 _ (List.mem_of_getElem? (i := 55) rfl)
theorem qw56 : (Jvm.Cond.fieldLink "AssertionGate$Reader" (104 : Nat) "AssertionGate$Message" "parent" "[I") ∈ lw_tbl := qt1 _ (List.mem_of_getElem? (i := 56) rfl)
theorem qw57 : (Jvm.Cond.fieldLink "AssertionGate$Message" (23 : Nat) "AssertionGate$Message" "start" "[I") ∈ lw_tbl := qt1 _ (List.mem_of_getElem? (i := 57) rfl)
theorem qw58 : (Jvm.Cond.fieldLink "AssertionGate$Digester" (32 : Nat) "AssertionGate$Message" "start" "[I") ∈ lw_tbl := qt1 _ (List.mem_of_getElem? (i := 58) rfl)
theorem qw59 : (Jvm.Cond.fieldLink "AssertionGate$Reader" (94 : Nat) "AssertionGate$Message" "start" "[I") ∈ lw_tbl := qt1 _ (List.mem_of_getElem? (i := 59) rfl)
theorem qw60 : (Jvm.Cond.fieldLink "AssertionGate$Message" (26 : Nat) "AssertionGate$Message" "nameEnd" "[I") ∈ lw_tbl := qt1 _ (List.mem_of_getElem? (i := 60) rfl)
theorem qw61 : (Jvm.Cond.fieldLink "AssertionGate$Digester" (80 : Nat) "AssertionGate$Message" "nameEnd" "[I") ∈ lw_tbl := qt1 _ (List.mem_of_getElem? (i := 61) rfl)
theorem qw62 : (Jvm.Cond.fieldLink "AssertionGate$Reader" (97 : Nat) "AssertionGate$Message" "nameEnd" "[I") ∈ lw_tbl := qt1 _ (List.mem_of_getElem? (i := 62) rfl)
theorem qw63 : (Jvm.Cond.fieldLink "AssertionGate$Message" (29 : Nat) "AssertionGate$Message" "bodyStart" "[I") ∈ lw_tbl := qt1 _ (List.mem_of_getElem? (i := 63) rfl)
theorem qw64 : (Jvm.Cond.fieldLink "AssertionGate$Digester" (95 : Nat) "AssertionGate$Message" "bodyStart" "[I") ∈ lw_tbl := qt1 _ (List.mem_of_getElem? (i := 64) rfl)
theorem qw65 : (Jvm.Cond.fieldLink "AssertionGate$Reader" (71 : Nat) "AssertionGate$Message" "bodyStart" "[I") ∈ lw_tbl := qt1 _ (List.mem_of_getElem? (i := 65) rfl)
theorem qw66 : (Jvm.Cond.fieldLink "AssertionGate$Message" (32 : Nat) "AssertionGate$Message" "bodyEnd" "[I") ∈ lw_tbl := qt1 _ (List.mem_of_getElem? (i := 66) rfl)
theorem qw67 : (Jvm.Cond.fieldLink "AssertionGate$Reader" (75 : Nat) "AssertionGate$Message" "bodyEnd" "[I") ∈ lw_tbl := qt1 _ (List.mem_of_getElem? (i := 67) rfl)
theorem qw68 : (Jvm.Cond.fieldLink "AssertionGate$Message" (35 : Nat) "AssertionGate$Message" "end" "[I") ∈ lw_tbl := qt1 _ (List.mem_of_getElem? (i := 68) rfl)
theorem qw69 : (Jvm.Cond.fieldLink "AssertionGate$Digester" (36 : Nat) "AssertionGate$Message" "end" "[I") ∈ lw_tbl := qt1 _ (List.mem_of_getElem? (i := 69) rfl)
theorem qw70 : (Jvm.Cond.fieldLink "AssertionGate$Reader" (78 : Nat) "AssertionGate$Message" "end" "[I") ∈ lw_tbl := qt1 _ (List.mem_of_getElem? (i := 70) rfl)
theorem qw71 : (Jvm.Cond.fieldLink "AssertionGate$Message" (38 : Nat) "AssertionGate$Message" "attributes" "[I") ∈ lw_tbl := qt1 _ (List.mem_of_getElem? (i := 71) rfl)
theorem qw72 : (Jvm.Cond.fieldLink "AssertionGate$Digester" (86 : Nat) "AssertionGate$Message" "attributes" "[I") ∈ lw_tbl := qt1 _ (List.mem_of_getElem? (i := 72) rfl)
theorem qw73 : (Jvm.Cond.fieldLink "AssertionGate$Message" (41 : Nat) "AssertionGate$Message" "slotStart" "[I") ∈ lw_tbl := qt1 _ (List.mem_of_getElem? (i := 73) rfl)
theorem qw74 : (Jvm.Cond.fieldLink "AssertionGate$Digester" (89 : Nat) "AssertionGate$Message" "slotStart" "[I") ∈ lw_tbl := qt1 _ (List.mem_of_getElem? (i := 74) rfl)
theorem qw75 : (Jvm.Cond.fieldLink "AssertionGate$Message" (44 : Nat) "AssertionGate$Message" "valueStart" "[I") ∈ lw_tbl := qt1 _ (List.mem_of_getElem? (i := 75) rfl)
theorem qw76 : (Jvm.Cond.fieldLink "AssertionGate$Message" (47 : Nat) "AssertionGate$Message" "valueEnd" "[I") ∈ lw_tbl := qt1 _ (List.mem_of_getElem? (i := 76) rfl)
theorem qw77 : (Jvm.Cond.fieldLink "AssertionGate$Digester" (92 : Nat) "AssertionGate$Message" "valueEnd" "[I") ∈ lw_tbl := qt1 _ (List.mem_of_getElem? (i := 77) rfl)
theorem qw103 : (Jvm.Cond.arrayClass Jvm.ClassFile.FieldType.int) ∈ lw_tbl := qt1 _ (List.mem_of_getElem? (i := 103) rfl)
theorem qw104 : (Jvm.Cond.classLink "AssertionGate" (28 : Nat) "AssertionGate$Reader") ∈ lw_tbl := qt1 _ (List.mem_of_getElem? (i := 104) rfl)
theorem qw105 : (Jvm.Cond.instantiable "AssertionGate$Reader" (4 : Nat)) ∈ lw_tbl := qt1 _ (List.mem_of_getElem? (i := 105) rfl)
theorem qw106 : (Jvm.Cond.methodLink "AssertionGate" (30 : Nat) ({ cls := "AssertionGate$Reader", name := "<init>", desc := "(LAssertionGate$Page;LAssertionGate$Message;)V" } : Jvm.MethodName)) ∈ lw_tbl := qt1 _ (List.mem_of_getElem? (i := 106) rfl)
theorem qw107 : (Jvm.Cond.instanceMethod ({ cls := "AssertionGate$Reader", name := "<init>", desc := "(LAssertionGate$Page;LAssertionGate$Message;)V" } : Jvm.MethodName)) ∈ lw_tbl := qt1 _ (List.mem_of_getElem? (i := 107) rfl)
theorem qw108 : (Jvm.Cond.code ({ cls := "AssertionGate$Reader", name := "<init>", desc := "(LAssertionGate$Page;LAssertionGate$Message;)V" } : Jvm.MethodName) prog_8_method_1_code (3 : Nat) (Option.none : Option Jvm.ClassFile.FieldType)) ∈ lw_tbl := qt1 _ (List.mem_of_getElem? (i := 108) rfl)
theorem qw110 : (Jvm.Cond.fieldLink "AssertionGate$Reader" (9 : Nat) "AssertionGate$Reader" "page" "LAssertionGate$Page;") ∈ lw_tbl := qt1 _ (List.mem_of_getElem? (i := 110) rfl)
theorem qw111 : (Jvm.Cond.fieldLink "AssertionGate$Reader" (15 : Nat) "AssertionGate$Reader" "message" "LAssertionGate$Message;") ∈ lw_tbl := qt1 _ (List.mem_of_getElem? (i := 111) rfl)
theorem qw112 : (Jvm.Cond.fieldLink "AssertionGate$Reader" (19 : Nat) "AssertionGate$Reader" "open" "I") ∈ lw_tbl := qt1 _ (List.mem_of_getElem? (i := 112) rfl)
theorem qw113 : (Jvm.Cond.fieldLink "AssertionGate$Reader" (23 : Nat) "AssertionGate$Reader" "depth" "I") ∈ lw_tbl := qt1 _ (List.mem_of_getElem? (i := 113) rfl)
theorem qw123 : (Jvm.Cond.classLink "AssertionGate" (37 : Nat) "AssertionGate$Digester") ∈ lw_tbl := qt1 _ (List.mem_of_getElem? (i := 123) rfl)
theorem qw124 : (Jvm.Cond.instantiable "AssertionGate$Digester" (4 : Nat)) ∈ lw_tbl := qt1 _ (List.mem_of_getElem? (i := 124) rfl)
theorem qw125 : (Jvm.Cond.methodLink "AssertionGate" (39 : Nat) ({ cls := "AssertionGate$Digester", name := "<init>", desc := "(LAssertionGate$Page;LAssertionGate$Message;)V" } : Jvm.MethodName)) ∈ lw_tbl := qt1 _ (List.mem_of_getElem? (i := 125) rfl)
theorem qw126 : (Jvm.Cond.instanceMethod ({ cls := "AssertionGate$Digester", name := "<init>", desc := "(LAssertionGate$Page;LAssertionGate$Message;)V" } : Jvm.MethodName)) ∈ lw_tbl := qt1 _ (List.mem_of_getElem? (i := 126) rfl)
theorem qw127 : (Jvm.Cond.code ({ cls := "AssertionGate$Digester", name := "<init>", desc := "(LAssertionGate$Page;LAssertionGate$Message;)V" } : Jvm.MethodName) prog_2_method_1_code (3 : Nat) (Option.none : Option Jvm.ClassFile.FieldType)) ∈ lw_tbl := qt1 _ (List.mem_of_getElem? (i := 127) rfl)
theorem qw129 : (Jvm.Cond.fieldLink "AssertionGate$Digester" (9 : Nat) "AssertionGate$Digester" "page" "LAssertionGate$Page;") ∈ lw_tbl := qt1 _ (List.mem_of_getElem? (i := 129) rfl)
theorem qw130 : (Jvm.Cond.fieldLink "AssertionGate$Digester" (15 : Nat) "AssertionGate$Digester" "message" "LAssertionGate$Message;") ∈ lw_tbl := qt1 _ (List.mem_of_getElem? (i := 130) rfl)
theorem qw131 : (Jvm.Cond.fieldLink "AssertionGate$Digester" (19 : Nat) "AssertionGate$Digester" "digest" "I") ∈ lw_tbl := qt1 _ (List.mem_of_getElem? (i := 131) rfl)
theorem qw132 : (Jvm.Cond.fieldLink "AssertionGate$Digester" (23 : Nat) "AssertionGate$Digester" "next" "I") ∈ lw_tbl := qt1 _ (List.mem_of_getElem? (i := 132) rfl)
theorem qw142 : (Jvm.Cond.classLink "AssertionGate" (44 : Nat) "AssertionGate$Issuers") ∈ lw_tbl := qt1 _ (List.mem_of_getElem? (i := 142) rfl)
theorem qw143 : (Jvm.Cond.instantiable "AssertionGate$Issuers" (4 : Nat)) ∈ lw_tbl := qt1 _ (List.mem_of_getElem? (i := 143) rfl)
theorem qw144 : (Jvm.Cond.methodLink "AssertionGate" (46 : Nat) ({ cls := "AssertionGate$Issuers", name := "<init>", desc := "()V" } : Jvm.MethodName)) ∈ lw_tbl := qt1 _ (List.mem_of_getElem? (i := 144) rfl)
theorem qw145 : (Jvm.Cond.instanceMethod ({ cls := "AssertionGate$Issuers", name := "<init>", desc := "()V" } : Jvm.MethodName)) ∈ lw_tbl := qt1 _ (List.mem_of_getElem? (i := 145) rfl)
theorem qw146 : (Jvm.Cond.code ({ cls := "AssertionGate$Issuers", name := "<init>", desc := "()V" } : Jvm.MethodName) prog_3_method_1_code (1 : Nat) (Option.none : Option Jvm.ClassFile.FieldType)) ∈ lw_tbl := qt1 _ (List.mem_of_getElem? (i := 146) rfl)
theorem qw148 : (Jvm.Cond.fieldLink "AssertionGate$Issuers" (9 : Nat) "AssertionGate$Issuers" "trustedModulus" "[I") ∈ lw_tbl := qt1 _ (List.mem_of_getElem? (i := 148) rfl)
theorem qw149 : (Jvm.Cond.fieldLink "AssertionGate" (104 : Nat) "AssertionGate$Issuers" "trustedModulus" "[I") ∈ lw_tbl := qt1 _ (List.mem_of_getElem? (i := 149) rfl)
theorem qw150 : (Jvm.Cond.fieldLink "AssertionGate$Issuers" (15 : Nat) "AssertionGate$Issuers" "trustedExponent" "[I") ∈ lw_tbl := qt1 _ (List.mem_of_getElem? (i := 150) rfl)
theorem qw151 : (Jvm.Cond.fieldLink "AssertionGate" (108 : Nat) "AssertionGate$Issuers" "trustedExponent" "[I") ∈ lw_tbl := qt1 _ (List.mem_of_getElem? (i := 151) rfl)
theorem qw152 : (Jvm.Cond.fieldLink "AssertionGate$Issuers" (18 : Nat) "AssertionGate$Issuers" "privateModulus" "[I") ∈ lw_tbl := qt1 _ (List.mem_of_getElem? (i := 152) rfl)
theorem qw153 : (Jvm.Cond.fieldLink "AssertionGate" (111 : Nat) "AssertionGate$Issuers" "privateModulus" "[I") ∈ lw_tbl := qt1 _ (List.mem_of_getElem? (i := 153) rfl)
theorem qw154 : (Jvm.Cond.fieldLink "AssertionGate$Issuers" (21 : Nat) "AssertionGate$Issuers" "privateExponent" "[I") ∈ lw_tbl := qt1 _ (List.mem_of_getElem? (i := 154) rfl)
theorem qw155 : (Jvm.Cond.fieldLink "AssertionGate" (114 : Nat) "AssertionGate$Issuers" "privateExponent" "[I") ∈ lw_tbl := qt1 _ (List.mem_of_getElem? (i := 155) rfl)
theorem qw165 : (Jvm.Cond.classLink "AssertionGate" (51 : Nat) "AssertionGate$Requests") ∈ lw_tbl := qt1 _ (List.mem_of_getElem? (i := 165) rfl)
theorem qw166 : (Jvm.Cond.instantiable "AssertionGate$Requests" (5 : Nat)) ∈ lw_tbl := qt1 _ (List.mem_of_getElem? (i := 166) rfl)
theorem qw167 : (Jvm.Cond.methodLink "AssertionGate" (53 : Nat) ({ cls := "AssertionGate$Requests", name := "<init>", desc := "(I)V" } : Jvm.MethodName)) ∈ lw_tbl := qt1 _ (List.mem_of_getElem? (i := 167) rfl)
theorem qw168 : (Jvm.Cond.instanceMethod ({ cls := "AssertionGate$Requests", name := "<init>", desc := "(I)V" } : Jvm.MethodName)) ∈ lw_tbl := qt1 _ (List.mem_of_getElem? (i := 168) rfl)
theorem qw169 : (Jvm.Cond.code ({ cls := "AssertionGate$Requests", name := "<init>", desc := "(I)V" } : Jvm.MethodName) prog_9_method_1_code (2 : Nat) (Option.none : Option Jvm.ClassFile.FieldType)) ∈ lw_tbl := qt1 _ (List.mem_of_getElem? (i := 169) rfl)
theorem qw171 : (Jvm.Cond.fieldLink "AssertionGate$Requests" (9 : Nat) "AssertionGate$Requests" "life" "I") ∈ lw_tbl := qt1 _ (List.mem_of_getElem? (i := 171) rfl)
theorem qw172 : (Jvm.Cond.fieldLink "AssertionGate$Requests" (15 : Nat) "AssertionGate$Requests" "issuer" "[I") ∈ lw_tbl := qt1 _ (List.mem_of_getElem? (i := 172) rfl)
theorem qw173 : (Jvm.Cond.fieldLink "AssertionGate$Requests" (19 : Nat) "AssertionGate$Requests" "madeAt" "[I") ∈ lw_tbl := qt1 _ (List.mem_of_getElem? (i := 173) rfl)
theorem qw174 : (Jvm.Cond.fieldLink "AssertionGate$Requests" (22 : Nat) "AssertionGate$Requests" "answered" "[Z") ∈ lw_tbl := qt1 _ (List.mem_of_getElem? (i := 174) rfl)
theorem qw175 : (Jvm.Cond.fieldLink "AssertionGate$Requests" (26 : Nat) "AssertionGate$Requests" "count" "I") ∈ lw_tbl := qt1 _ (List.mem_of_getElem? (i := 175) rfl)
theorem qw187 : (Jvm.Cond.arrayClass Jvm.ClassFile.FieldType.boolean) ∈ lw_tbl := qt1 _ (List.mem_of_getElem? (i := 187) rfl)
theorem qw188 : (Jvm.Cond.classLink "AssertionGate" (60 : Nat) "AssertionGate$Sessions") ∈ lw_tbl := qt1 _ (List.mem_of_getElem? (i := 188) rfl)
theorem qw189 : (Jvm.Cond.instantiable "AssertionGate$Sessions" (3 : Nat)) ∈ lw_tbl := qt1 _ (List.mem_of_getElem? (i := 189) rfl)
theorem qw190 : (Jvm.Cond.methodLink "AssertionGate" (62 : Nat) ({ cls := "AssertionGate$Sessions", name := "<init>", desc := "()V" } : Jvm.MethodName)) ∈ lw_tbl := qt1 _ (List.mem_of_getElem? (i := 190) rfl)
theorem qw191 : (Jvm.Cond.instanceMethod ({ cls := "AssertionGate$Sessions", name := "<init>", desc := "()V" } : Jvm.MethodName)) ∈ lw_tbl := qt1 _ (List.mem_of_getElem? (i := 191) rfl)
theorem qw192 : (Jvm.Cond.code ({ cls := "AssertionGate$Sessions", name := "<init>", desc := "()V" } : Jvm.MethodName) prog_11_method_1_code (1 : Nat) (Option.none : Option Jvm.ClassFile.FieldType)) ∈ lw_tbl := qt1 _ (List.mem_of_getElem? (i := 192) rfl)
theorem qw194 : (Jvm.Cond.classLink "AssertionGate$Sessions" (19 : Nat) "AssertionGate$Labels") ∈ lw_tbl := qt1 _ (List.mem_of_getElem? (i := 194) rfl)
theorem qw195 : (Jvm.Cond.instantiable "AssertionGate$Labels" (4 : Nat)) ∈ lw_tbl := qt1 _ (List.mem_of_getElem? (i := 195) rfl)
theorem qw196 : (Jvm.Cond.methodLink "AssertionGate$Sessions" (21 : Nat) ({ cls := "AssertionGate$Labels", name := "<init>", desc := "(I)V" } : Jvm.MethodName)) ∈ lw_tbl := qt1 _ (List.mem_of_getElem? (i := 196) rfl)
theorem qw197 : (Jvm.Cond.instanceMethod ({ cls := "AssertionGate$Labels", name := "<init>", desc := "(I)V" } : Jvm.MethodName)) ∈ lw_tbl := qt1 _ (List.mem_of_getElem? (i := 197) rfl)
theorem qw198 : (Jvm.Cond.code ({ cls := "AssertionGate$Labels", name := "<init>", desc := "(I)V" } : Jvm.MethodName) prog_4_method_1_code (2 : Nat) (Option.none : Option Jvm.ClassFile.FieldType)) ∈ lw_tbl := qt1 _ (List.mem_of_getElem? (i := 198) rfl)
theorem qw200 : (Jvm.Cond.fieldLink "AssertionGate$Labels" (9 : Nat) "AssertionGate$Labels" "room" "I") ∈ lw_tbl := qt1 _ (List.mem_of_getElem? (i := 200) rfl)
theorem qw201 : (Jvm.Cond.fieldLink "AssertionGate$Labels" (15 : Nat) "AssertionGate$Labels" "codes" "[C") ∈ lw_tbl := qt1 _ (List.mem_of_getElem? (i := 201) rfl)
theorem qw202 : (Jvm.Cond.fieldLink "AssertionGate$Labels" (19 : Nat) "AssertionGate$Labels" "sizes" "[I") ∈ lw_tbl := qt1 _ (List.mem_of_getElem? (i := 202) rfl)
theorem qw203 : (Jvm.Cond.fieldLink "AssertionGate$Labels" (23 : Nat) "AssertionGate$Labels" "count" "I") ∈ lw_tbl := qt1 _ (List.mem_of_getElem? (i := 203) rfl)
theorem qw204 : (Jvm.Cond.fieldLink "AssertionGate$Sessions" (33 : Nat) "AssertionGate$Labels" "count" "I") ∈ lw_tbl := qt1 _ (List.mem_of_getElem? (i := 204) rfl)
theorem qw214 : (Jvm.Cond.fieldLink "AssertionGate$Sessions" (11 : Nat) "AssertionGate$Sessions" "issuer" "[I") ∈ lw_tbl := qt1 _ (List.mem_of_getElem? (i := 214) rfl)
theorem qw215 : (Jvm.Cond.fieldLink "AssertionGate$Sessions" (15 : Nat) "AssertionGate$Sessions" "isOpen" "[Z") ∈ lw_tbl := qt1 _ (List.mem_of_getElem? (i := 215) rfl)
theorem qw216 : (Jvm.Cond.fieldLink "AssertionGate$Sessions" (24 : Nat) "AssertionGate$Sessions" "names" "LAssertionGate$Labels;") ∈ lw_tbl := qt1 _ (List.mem_of_getElem? (i := 216) rfl)
theorem qw217 : (Jvm.Cond.fieldLink "AssertionGate" (259 : Nat) "AssertionGate$Sessions" "names" "LAssertionGate$Labels;") ∈ lw_tbl := qt1 _ (List.mem_of_getElem? (i := 217) rfl)
theorem qw225 : (Jvm.Cond.classLink "AssertionGate" (67 : Nat) "AssertionGate$Labels") ∈ lw_tbl := qt1 _ (List.mem_of_getElem? (i := 225) rfl)
theorem qw226 : (Jvm.Cond.methodLink "AssertionGate" (69 : Nat) ({ cls := "AssertionGate$Labels", name := "<init>", desc := "(I)V" } : Jvm.MethodName)) ∈ lw_tbl := qt1 _ (List.mem_of_getElem? (i := 226) rfl)
theorem qw227 : (Jvm.Cond.classLink "AssertionGate" (74 : Nat) "AssertionGate$Response") ∈ lw_tbl := qt1 _ (List.mem_of_getElem? (i := 227) rfl)
theorem qw228 : (Jvm.Cond.instantiable "AssertionGate$Response" (11 : Nat)) ∈ lw_tbl := qt1 _ (List.mem_of_getElem? (i := 228) rfl)
theorem qw229 : (Jvm.Cond.methodLink "AssertionGate" (76 : Nat) ({ cls := "AssertionGate$Response", name := "<init>", desc := "(LAssertionGate$Message;)V" } : Jvm.MethodName)) ∈ lw_tbl := qt1 _ (List.mem_of_getElem? (i := 229) rfl)
theorem qw230 : (Jvm.Cond.instanceMethod ({ cls := "AssertionGate$Response", name := "<init>", desc := "(LAssertionGate$Message;)V" } : Jvm.MethodName)) ∈ lw_tbl := qt1 _ (List.mem_of_getElem? (i := 230) rfl)
theorem qw231 : (Jvm.Cond.code ({ cls := "AssertionGate$Response", name := "<init>", desc := "(LAssertionGate$Message;)V" } : Jvm.MethodName) prog_10_method_1_code (2 : Nat) (Option.none : Option Jvm.ClassFile.FieldType)) ∈ lw_tbl := qt1 _ (List.mem_of_getElem? (i := 231) rfl)
theorem qw233 : (Jvm.Cond.fieldLink "AssertionGate$Response" (9 : Nat) "AssertionGate$Response" "message" "LAssertionGate$Message;") ∈ lw_tbl := qt1 _ (List.mem_of_getElem? (i := 233) rfl)
theorem qw234 : (Jvm.Cond.fieldLink "AssertionGate$Response" (42 : Nat) "AssertionGate$Response" "iss" "I") ∈ lw_tbl := qt1 _ (List.mem_of_getElem? (i := 234) rfl)
theorem qw235 : (Jvm.Cond.fieldLink "AssertionGate" (273 : Nat) "AssertionGate$Response" "iss" "I") ∈ lw_tbl := qt1 _ (List.mem_of_getElem? (i := 235) rfl)
theorem qw236 : (Jvm.Cond.fieldLink "AssertionGate$Response" (47 : Nat) "AssertionGate$Response" "stat" "I") ∈ lw_tbl := qt1 _ (List.mem_of_getElem? (i := 236) rfl)
theorem qw237 : (Jvm.Cond.fieldLink "AssertionGate" (326 : Nat) "AssertionGate$Response" "stat" "I") ∈ lw_tbl := qt1 _ (List.mem_of_getElem? (i := 237) rfl)
theorem qw238 : (Jvm.Cond.fieldLink "AssertionGate$Response" (51 : Nat) "AssertionGate$Response" "assn" "I") ∈ lw_tbl := qt1 _ (List.mem_of_getElem? (i := 238) rfl)
theorem qw239 : (Jvm.Cond.fieldLink "AssertionGate" (279 : Nat) "AssertionGate$Response" "assn" "I") ∈ lw_tbl := qt1 _ (List.mem_of_getElem? (i := 239) rfl)
theorem qw240 : (Jvm.Cond.fieldLink "AssertionGate$Response" (58 : Nat) "AssertionGate$Response" "sig" "I") ∈ lw_tbl := qt2 _ (List.mem_of_getElem? (i := 0) rfl)
theorem qw241 : (Jvm.Cond.fieldLink "AssertionGate" (267 : Nat) "AssertionGate$Response" "sig" "I") ∈ lw_tbl := qt2 _ (List.mem_of_getElem? (i := 1) rfl)
theorem qw242 : (Jvm.Cond.fieldLink "AssertionGate$Response" (60 : Nat) "AssertionGate$Response" "assnIss" "I") ∈ lw_tbl := qt2 _ (List.mem_of_getElem? (i := 2) rfl)
theorem qw243 : (Jvm.Cond.fieldLink "AssertionGate" (282 : Nat) "AssertionGate$Response" "assnIss" "I") ∈ lw_tbl := qt2 _ (List.mem_of_getElem? (i := 3) rfl)
theorem qw244 : (Jvm.Cond.fieldLink "AssertionGate$Response" (65 : Nat) "AssertionGate$Response" "cond" "I") ∈ lw_tbl := qt2 _ (List.mem_of_getElem? (i := 4) rfl)
theorem qw245 : (Jvm.Cond.fieldLink "AssertionGate" (338 : Nat) "AssertionGate$Response" "cond" "I") ∈ lw_tbl := qt2 _ (List.mem_of_getElem? (i := 5) rfl)
theorem qw246 : (Jvm.Cond.fieldLink "AssertionGate$Response" (69 : Nat) "AssertionGate$Response" "subj" "I") ∈ lw_tbl := qt2 _ (List.mem_of_getElem? (i := 6) rfl)
theorem qw247 : (Jvm.Cond.fieldLink "AssertionGate$Response" (71 : Nat) "AssertionGate$Response" "assnSig" "I") ∈ lw_tbl := qt2 _ (List.mem_of_getElem? (i := 7) rfl)
theorem qw248 : (Jvm.Cond.fieldLink "AssertionGate" (270 : Nat) "AssertionGate$Response" "assnSig" "I") ∈ lw_tbl := qt2 _ (List.mem_of_getElem? (i := 8) rfl)
theorem qw249 : (Jvm.Cond.fieldLink "AssertionGate$Response" (76 : Nat) "AssertionGate$Response" "name" "I") ∈ lw_tbl := qt2 _ (List.mem_of_getElem? (i := 9) rfl)
theorem qw250 : (Jvm.Cond.fieldLink "AssertionGate" (306 : Nat) "AssertionGate$Response" "name" "I") ∈ lw_tbl := qt2 _ (List.mem_of_getElem? (i := 10) rfl)
theorem qw251 : (Jvm.Cond.fieldLink "AssertionGate$Response" (80 : Nat) "AssertionGate$Response" "conf" "I") ∈ lw_tbl := qt2 _ (List.mem_of_getElem? (i := 11) rfl)
theorem qw252 : (Jvm.Cond.fieldLink "AssertionGate" (350 : Nat) "AssertionGate$Response" "conf" "I") ∈ lw_tbl := qt2 _ (List.mem_of_getElem? (i := 12) rfl)
theorem qw276 : (Jvm.Cond.classLink "AssertionGate" (83 : Nat) "AssertionGate$Logout") ∈ lw_tbl := qt2 _ (List.mem_of_getElem? (i := 36) rfl)
theorem qw277 : (Jvm.Cond.instantiable "AssertionGate$Logout" (4 : Nat)) ∈ lw_tbl := qt2 _ (List.mem_of_getElem? (i := 37) rfl)
theorem qw278 : (Jvm.Cond.methodLink "AssertionGate" (85 : Nat) ({ cls := "AssertionGate$Logout", name := "<init>", desc := "(LAssertionGate$Message;)V" } : Jvm.MethodName)) ∈ lw_tbl := qt2 _ (List.mem_of_getElem? (i := 38) rfl)
theorem qw279 : (Jvm.Cond.instanceMethod ({ cls := "AssertionGate$Logout", name := "<init>", desc := "(LAssertionGate$Message;)V" } : Jvm.MethodName)) ∈ lw_tbl := qt2 _ (List.mem_of_getElem? (i := 39) rfl)
theorem qw280 : (Jvm.Cond.code ({ cls := "AssertionGate$Logout", name := "<init>", desc := "(LAssertionGate$Message;)V" } : Jvm.MethodName) prog_5_method_1_code (2 : Nat) (Option.none : Option Jvm.ClassFile.FieldType)) ∈ lw_tbl := qt2 _ (List.mem_of_getElem? (i := 40) rfl)
theorem qw282 : (Jvm.Cond.fieldLink "AssertionGate$Logout" (9 : Nat) "AssertionGate$Logout" "message" "LAssertionGate$Message;") ∈ lw_tbl := qt2 _ (List.mem_of_getElem? (i := 42) rfl)
theorem qw283 : (Jvm.Cond.fieldLink "AssertionGate$Logout" (23 : Nat) "AssertionGate$Logout" "iss" "I") ∈ lw_tbl := qt2 _ (List.mem_of_getElem? (i := 43) rfl)
theorem qw284 : (Jvm.Cond.fieldLink "AssertionGate" (369 : Nat) "AssertionGate$Logout" "iss" "I") ∈ lw_tbl := qt2 _ (List.mem_of_getElem? (i := 44) rfl)
theorem qw285 : (Jvm.Cond.fieldLink "AssertionGate$Logout" (28 : Nat) "AssertionGate$Logout" "name" "I") ∈ lw_tbl := qt2 _ (List.mem_of_getElem? (i := 45) rfl)
theorem qw286 : (Jvm.Cond.fieldLink "AssertionGate" (370 : Nat) "AssertionGate$Logout" "name" "I") ∈ lw_tbl := qt2 _ (List.mem_of_getElem? (i := 46) rfl)
theorem qw287 : (Jvm.Cond.fieldLink "AssertionGate$Logout" (35 : Nat) "AssertionGate$Logout" "sig" "I") ∈ lw_tbl := qt2 _ (List.mem_of_getElem? (i := 47) rfl)
theorem qw288 : (Jvm.Cond.fieldLink "AssertionGate" (368 : Nat) "AssertionGate$Logout" "sig" "I") ∈ lw_tbl := qt2 _ (List.mem_of_getElem? (i := 48) rfl)
theorem qw298 : (Jvm.Cond.fieldLink "AssertionGate" (10 : Nat) "AssertionGate" "text" "LAssertionGate$Page;") ∈ lw_tbl := qt2 _ (List.mem_of_getElem? (i := 58) rfl)
theorem qw299 : (Jvm.Cond.fieldLink "AssertionGate" (16 : Nat) "AssertionGate" "scrap" "LAssertionGate$Page;") ∈ lw_tbl := qt2 _ (List.mem_of_getElem? (i := 59) rfl)
theorem qw300 : (Jvm.Cond.fieldLink "AssertionGate" (24 : Nat) "AssertionGate" "message" "LAssertionGate$Message;") ∈ lw_tbl := qt2 _ (List.mem_of_getElem? (i := 60) rfl)
theorem qw301 : (Jvm.Cond.fieldLink "AssertionGate" (33 : Nat) "AssertionGate" "reader" "LAssertionGate$Reader;") ∈ lw_tbl := qt2 _ (List.mem_of_getElem? (i := 61) rfl)
theorem qw302 : (Jvm.Cond.fieldLink "AssertionGate" (40 : Nat) "AssertionGate" "digester" "LAssertionGate$Digester;") ∈ lw_tbl := qt2 _ (List.mem_of_getElem? (i := 62) rfl)
theorem qw303 : (Jvm.Cond.fieldLink "AssertionGate" (47 : Nat) "AssertionGate" "issuers" "LAssertionGate$Issuers;") ∈ lw_tbl := qt2 _ (List.mem_of_getElem? (i := 63) rfl)
theorem qw304 : (Jvm.Cond.fieldLink "AssertionGate" (56 : Nat) "AssertionGate" "requests" "LAssertionGate$Requests;") ∈ lw_tbl := qt2 _ (List.mem_of_getElem? (i := 64) rfl)
theorem qw305 : (Jvm.Cond.fieldLink "AssertionGate" (63 : Nat) "AssertionGate" "sessions" "LAssertionGate$Sessions;") ∈ lw_tbl := qt2 _ (List.mem_of_getElem? (i := 65) rfl)
theorem qw306 : (Jvm.Cond.fieldLink "AssertionGate" (70 : Nat) "AssertionGate" "seen" "LAssertionGate$Labels;") ∈ lw_tbl := qt2 _ (List.mem_of_getElem? (i := 66) rfl)
theorem qw307 : (Jvm.Cond.fieldLink "AssertionGate" (79 : Nat) "AssertionGate" "response" "LAssertionGate$Response;") ∈ lw_tbl := qt2 _ (List.mem_of_getElem? (i := 67) rfl)
theorem qw308 : (Jvm.Cond.fieldLink "AssertionGate" (86 : Nat) "AssertionGate" "logout" "LAssertionGate$Logout;") ∈ lw_tbl := qt2 _ (List.mem_of_getElem? (i := 68) rfl)
theorem qw309 : (Jvm.Cond.fieldLink "AssertionGate" (90 : Nat) "AssertionGate" "skew" "I") ∈ lw_tbl := qt2 _ (List.mem_of_getElem? (i := 69) rfl)
theorem qw310 : (Jvm.Cond.fieldLink "AssertionGate" (94 : Nat) "AssertionGate" "clock" "I") ∈ lw_tbl := qt2 _ (List.mem_of_getElem? (i := 70) rfl)
theorem qw311 : (Jvm.Cond.fieldLink "AssertionGate" (97 : Nat) "AssertionGate" "issued" "I") ∈ lw_tbl := qt2 _ (List.mem_of_getElem? (i := 71) rfl)
theorem qw341 : (Jvm.Cond.methodLink "AssertionGateLaw" (21 : Nat) ({ cls := "AssertionGate", name := "trust", desc := "(III)Z" } : Jvm.MethodName)) ∈ lw_tbl := qt2 _ (List.mem_of_getElem? (i := 101) rfl)
theorem qw342 : (Jvm.Cond.instanceMethod ({ cls := "AssertionGate", name := "trust", desc := "(III)Z" } : Jvm.MethodName)) ∈ lw_tbl := qt2 _ (List.mem_of_getElem? (i := 102) rfl)
theorem qw343 : (Jvm.Cond.selects "AssertionGate" ({ cls := "AssertionGate", name := "trust", desc := "(III)Z" } : Jvm.MethodName) ({ cls := "AssertionGate", name := "trust", desc := "(III)Z" } : Jvm.MethodName)) ∈ lw_tbl := qt2 _ (List.mem_of_getElem? (i := 103) rfl)
theorem qw344 : (Jvm.Cond.code ({ cls := "AssertionGate", name := "trust", desc := "(III)Z" } : Jvm.MethodName) prog_1_method_2_code (4 : Nat) (Option.some Jvm.ClassFile.FieldType.boolean)) ∈ lw_tbl := qt2 _ (List.mem_of_getElem? (i := 104) rfl)
theorem qw345 : (Jvm.Cond.methodLink "AssertionGate" (100 : Nat) ({ cls := "AssertionGate", name := "isKeyPart", desc := "(III)Z" } : Jvm.MethodName)) ∈ lw_tbl := qt2 _ (List.mem_of_getElem? (i := 105) rfl)
theorem qw346 : (Jvm.Cond.static ({ cls := "AssertionGate", name := "isKeyPart", desc := "(III)Z" } : Jvm.MethodName)) ∈ lw_tbl := qt2 _ (List.mem_of_getElem? (i := 106) rfl)
theorem qw347 : (Jvm.Cond.code ({ cls := "AssertionGate", name := "isKeyPart", desc := "(III)Z" } : Jvm.MethodName) prog_1_method_4_code (3 : Nat) (Option.some Jvm.ClassFile.FieldType.boolean)) ∈ lw_tbl := qt2 _ (List.mem_of_getElem? (i := 107) rfl)
theorem qw350 : (Jvm.Cond.methodLink "AssertionGateLaw" (26 : Nat) ({ cls := "AssertionGate", name := "key", desc := "(III)Z" } : Jvm.MethodName)) ∈ lw_tbl := qt2 _ (List.mem_of_getElem? (i := 110) rfl)
theorem qw351 : (Jvm.Cond.instanceMethod ({ cls := "AssertionGate", name := "key", desc := "(III)Z" } : Jvm.MethodName)) ∈ lw_tbl := qt2 _ (List.mem_of_getElem? (i := 111) rfl)
theorem qw352 : (Jvm.Cond.selects "AssertionGate" ({ cls := "AssertionGate", name := "key", desc := "(III)Z" } : Jvm.MethodName) ({ cls := "AssertionGate", name := "key", desc := "(III)Z" } : Jvm.MethodName)) ∈ lw_tbl := qt2 _ (List.mem_of_getElem? (i := 112) rfl)
theorem qw353 : (Jvm.Cond.code ({ cls := "AssertionGate", name := "key", desc := "(III)Z" } : Jvm.MethodName) prog_1_method_3_code (4 : Nat) (Option.some Jvm.ClassFile.FieldType.boolean)) ∈ lw_tbl := qt2 _ (List.mem_of_getElem? (i := 113) rfl)
theorem qw354 : (Jvm.Cond.methodLink "AssertionGateLaw" (30 : Nat) ({ cls := "AssertionGate", name := "pass", desc := "(I)Z" } : Jvm.MethodName)) ∈ lw_tbl := qt2 _ (List.mem_of_getElem? (i := 114) rfl)
theorem qw355 : (Jvm.Cond.instanceMethod ({ cls := "AssertionGate", name := "pass", desc := "(I)Z" } : Jvm.MethodName)) ∈ lw_tbl := qt2 _ (List.mem_of_getElem? (i := 115) rfl)
theorem qw356 : (Jvm.Cond.selects "AssertionGate" ({ cls := "AssertionGate", name := "pass", desc := "(I)Z" } : Jvm.MethodName) ({ cls := "AssertionGate", name := "pass", desc := "(I)Z" } : Jvm.MethodName)) ∈ lw_tbl := qt2 _ (List.mem_of_getElem? (i := 116) rfl)
theorem qw357 : (Jvm.Cond.code ({ cls := "AssertionGate", name := "pass", desc := "(I)Z" } : Jvm.MethodName) prog_1_method_5_code (2 : Nat) (Option.some Jvm.ClassFile.FieldType.boolean)) ∈ lw_tbl := qt2 _ (List.mem_of_getElem? (i := 117) rfl)
theorem qw358 : (Jvm.Cond.methodLink "AssertionGateLaw" (35 : Nat) ({ cls := "AssertionGate", name := "request", desc := "(I)I" } : Jvm.MethodName)) ∈ lw_tbl := qt2 _ (List.mem_of_getElem? (i := 118) rfl)
theorem qw359 : (Jvm.Cond.instanceMethod ({ cls := "AssertionGate", name := "request", desc := "(I)I" } : Jvm.MethodName)) ∈ lw_tbl := qt2 _ (List.mem_of_getElem? (i := 119) rfl)
theorem qw360 : (Jvm.Cond.selects "AssertionGate" ({ cls := "AssertionGate", name := "request", desc := "(I)I" } : Jvm.MethodName) ({ cls := "AssertionGate", name := "request", desc := "(I)I" } : Jvm.MethodName)) ∈ lw_tbl := qt2 _ (List.mem_of_getElem? (i := 120) rfl)
theorem qw361 : (Jvm.Cond.code ({ cls := "AssertionGate", name := "request", desc := "(I)I" } : Jvm.MethodName) prog_1_method_6_code (2 : Nat) (Option.some Jvm.ClassFile.FieldType.int)) ∈ lw_tbl := qt2 _ (List.mem_of_getElem? (i := 121) rfl)
theorem qw362 : (Jvm.Cond.methodLink "AssertionGate" (119 : Nat) ({ cls := "AssertionGate$Requests", name := "open", desc := "(II)I" } : Jvm.MethodName)) ∈ lw_tbl := qt2 _ (List.mem_of_getElem? (i := 122) rfl)
theorem qw363 : (Jvm.Cond.instanceMethod ({ cls := "AssertionGate$Requests", name := "open", desc := "(II)I" } : Jvm.MethodName)) ∈ lw_tbl := qt2 _ (List.mem_of_getElem? (i := 123) rfl)
theorem qw364 : (Jvm.Cond.selects "AssertionGate$Requests" ({ cls := "AssertionGate$Requests", name := "open", desc := "(II)I" } : Jvm.MethodName) ({ cls := "AssertionGate$Requests", name := "open", desc := "(II)I" } : Jvm.MethodName)) ∈ lw_tbl := qt2 _ (List.mem_of_getElem? (i := 124) rfl)
theorem qw365 : (Jvm.Cond.code ({ cls := "AssertionGate$Requests", name := "open", desc := "(II)I" } : Jvm.MethodName) prog_9_method_2_code (3 : Nat) (Option.some Jvm.ClassFile.FieldType.int)) ∈ lw_tbl := qt2 _ (List.mem_of_getElem? (i := 125) rfl)
theorem qw366 : (Jvm.Cond.methodLink "AssertionGateLaw" (40 : Nat) ({ cls := "AssertionGate", name := "issue", desc := "(IIIII)Z" } : Jvm.MethodName)) ∈ lw_tbl := qt2 _ (List.mem_of_getElem? (i := 126) rfl)
theorem qw367 : (Jvm.Cond.instanceMethod ({ cls := "AssertionGate", name := "issue", desc := "(IIIII)Z" } : Jvm.MethodName)) ∈ lw_tbl := qt2 _ (List.mem_of_getElem? (i := 127) rfl)
theorem qw368 : (Jvm.Cond.selects "AssertionGate" ({ cls := "AssertionGate", name := "issue", desc := "(IIIII)Z" } : Jvm.MethodName) ({ cls := "AssertionGate", name := "issue", desc := "(IIIII)Z" } : Jvm.MethodName)) ∈ lw_tbl := qt2 _ (List.mem_of_getElem? (i := 128) rfl)
theorem qw369 : (Jvm.Cond.code ({ cls := "AssertionGate", name := "issue", desc := "(IIIII)Z" } : Jvm.MethodName) prog_1_method_7_code (9 : Nat) (Option.some Jvm.ClassFile.FieldType.boolean)) ∈ lw_tbl := qt2 _ (List.mem_of_getElem? (i := 129) rfl)
theorem qw370 : (Jvm.Cond.methodLink "AssertionGate" (123 : Nat) ({ cls := "AssertionGate$Issuers", name := "canSeal", desc := "(I)Z" } : Jvm.MethodName)) ∈ lw_tbl := qt2 _ (List.mem_of_getElem? (i := 130) rfl)
theorem qw371 : (Jvm.Cond.instanceMethod ({ cls := "AssertionGate$Issuers", name := "canSeal", desc := "(I)Z" } : Jvm.MethodName)) ∈ lw_tbl := qt2 _ (List.mem_of_getElem? (i := 131) rfl)
theorem qw372 : (Jvm.Cond.selects "AssertionGate$Issuers" ({ cls := "AssertionGate$Issuers", name := "canSeal", desc := "(I)Z" } : Jvm.MethodName) ({ cls := "AssertionGate$Issuers", name := "canSeal", desc := "(I)Z" } : Jvm.MethodName)) ∈ lw_tbl := qt2 _ (List.mem_of_getElem? (i := 132) rfl)
theorem qw373 : (Jvm.Cond.code ({ cls := "AssertionGate$Issuers", name := "canSeal", desc := "(I)Z" } : Jvm.MethodName) prog_3_method_3_code (2 : Nat) (Option.some Jvm.ClassFile.FieldType.boolean)) ∈ lw_tbl := qt2 _ (List.mem_of_getElem? (i := 133) rfl)
theorem qw374 : (Jvm.Cond.methodLink "AssertionGate" (127 : Nat) ({ cls := "AssertionGate", name := "isBelow", desc := "(II)Z" } : Jvm.MethodName)) ∈ lw_tbl := qt2 _ (List.mem_of_getElem? (i := 134) rfl)
theorem qw375 : (Jvm.Cond.static ({ cls := "AssertionGate", name := "isBelow", desc := "(II)Z" } : Jvm.MethodName)) ∈ lw_tbl := qt2 _ (List.mem_of_getElem? (i := 135) rfl)
theorem qw376 : (Jvm.Cond.code ({ cls := "AssertionGate", name := "isBelow", desc := "(II)Z" } : Jvm.MethodName) prog_1_method_14_code (2 : Nat) (Option.some Jvm.ClassFile.FieldType.boolean)) ∈ lw_tbl := qt2 _ (List.mem_of_getElem? (i := 136) rfl)
theorem qw377 : (Jvm.Cond.methodLink "AssertionGate" (131 : Nat) ({ cls := "AssertionGate$Page", name := "shorten", desc := "(I)V" } : Jvm.MethodName)) ∈ lw_tbl := qt2 _ (List.mem_of_getElem? (i := 137) rfl)
theorem qw378 : (Jvm.Cond.instanceMethod ({ cls := "AssertionGate$Page", name := "shorten", desc := "(I)V" } : Jvm.MethodName)) ∈ lw_tbl := qt2 _ (List.mem_of_getElem? (i := 138) rfl)
theorem qw379 : (Jvm.Cond.selects "AssertionGate$Page" ({ cls := "AssertionGate$Page", name := "shorten", desc := "(I)V" } : Jvm.MethodName) ({ cls := "AssertionGate$Page", name := "shorten", desc := "(I)V" } : Jvm.MethodName)) ∈ lw_tbl := qt2 _ (List.mem_of_getElem? (i := 139) rfl)
theorem qw380 : (Jvm.Cond.code ({ cls := "AssertionGate$Page", name := "shorten", desc := "(I)V" } : Jvm.MethodName) prog_7_method_6_code (2 : Nat) (Option.none : Option Jvm.ClassFile.FieldType)) ∈ lw_tbl := qt2 _ (List.mem_of_getElem? (i := 140) rfl)
theorem qw381 : (Jvm.Cond.methodLink "AssertionGate" (134 : Nat) ({ cls := "AssertionGate", name := "putHead", desc := "(II)V" } : Jvm.MethodName)) ∈ lw_tbl := qt2 _ (List.mem_of_getElem? (i := 141) rfl)
theorem qw383 : (Jvm.Cond.instanceMethod ({ cls := "AssertionGate", name := "putHead", desc := "(II)V" } : Jvm.MethodName)) ∈ lw_tbl := qt2 _ (List.mem_of_getElem? (i := 143) rfl)
theorem qw384 : (Jvm.Cond.code ({ cls := "AssertionGate", name := "putHead", desc := "(II)V" } : Jvm.MethodName) prog_1_method_8_code (3 : Nat) (Option.none : Option Jvm.ClassFile.FieldType)) ∈ lw_tbl := qt2 _ (List.mem_of_getElem? (i := 144) rfl)
theorem qw386 : (Jvm.Cond.methodLink "AssertionGate" (147 : Nat) ({ cls := "AssertionGate$Page", name := "putWord", desc := "(Ljava/lang/String;)V" } : Jvm.MethodName)) ∈ lw_tbl := qt2 _ (List.mem_of_getElem? (i := 146) rfl)
theorem qw387 : (Jvm.Cond.instanceMethod ({ cls := "AssertionGate$Page", name := "putWord", desc := "(Ljava/lang/String;)V" } : Jvm.MethodName)) ∈ lw_tbl := qt2 _ (List.mem_of_getElem? (i := 147) rfl)
theorem qw388 : (Jvm.Cond.selects "AssertionGate$Page" ({ cls := "AssertionGate$Page", name := "putWord", desc := "(Ljava/lang/String;)V" } : Jvm.MethodName) ({ cls := "AssertionGate$Page", name := "putWord", desc := "(Ljava/lang/String;)V" } : Jvm.MethodName)) ∈ lw_tbl := qt2 _ (List.mem_of_getElem? (i := 148) rfl)
theorem qw389 : (Jvm.Cond.code ({ cls := "AssertionGate$Page", name := "putWord", desc := "(Ljava/lang/String;)V" } : Jvm.MethodName) prog_7_method_4_code (3 : Nat) (Option.none : Option Jvm.ClassFile.FieldType)) ∈ lw_tbl := qt2 _ (List.mem_of_getElem? (i := 149) rfl)
theorem qw438 : (Jvm.Cond.methodLink "AssertionGate$Page" (29 : Nat) ({ cls := "AssertionGate$Page", name := "put", desc := "(C)Z" } : Jvm.MethodName)) ∈ lw_tbl := qt2 _ (List.mem_of_getElem? (i := 198) rfl)
theorem qw439 : (Jvm.Cond.instanceMethod ({ cls := "AssertionGate$Page", name := "put", desc := "(C)Z" } : Jvm.MethodName)) ∈ lw_tbl := qt2 _ (List.mem_of_getElem? (i := 199) rfl)
theorem qw440 : (Jvm.Cond.selects "AssertionGate$Page" ({ cls := "AssertionGate$Page", name := "put", desc := "(C)Z" } : Jvm.MethodName) ({ cls := "AssertionGate$Page", name := "put", desc := "(C)Z" } : Jvm.MethodName)) ∈ lw_tbl := qt2 _ (List.mem_of_getElem? (i := 200) rfl)
theorem qw441 : (Jvm.Cond.code ({ cls := "AssertionGate$Page", name := "put", desc := "(C)Z" } : Jvm.MethodName) prog_7_method_3_code (2 : Nat) (Option.some Jvm.ClassFile.FieldType.boolean)) ∈ lw_tbl := qt2 _ (List.mem_of_getElem? (i := 201) rfl)
theorem qw442 : (Jvm.Cond.methodLink "AssertionGate" (164 : Nat) ({ cls := "AssertionGate$Page", name := "putNumber", desc := "(I)V" } : Jvm.MethodName)) ∈ lw_tbl := qt2 _ (List.mem_of_getElem? (i := 202) rfl)
theorem qw443 : (Jvm.Cond.instanceMethod ({ cls := "AssertionGate$Page", name := "putNumber", desc := "(I)V" } : Jvm.MethodName)) ∈ lw_tbl := qt2 _ (List.mem_of_getElem? (i := 203) rfl)
theorem qw444 : (Jvm.Cond.selects "AssertionGate$Page" ({ cls := "AssertionGate$Page", name := "putNumber", desc := "(I)V" } : Jvm.MethodName) ({ cls := "AssertionGate$Page", name := "putNumber", desc := "(I)V" } : Jvm.MethodName)) ∈ lw_tbl := qt2 _ (List.mem_of_getElem? (i := 204) rfl)
theorem qw445 : (Jvm.Cond.code ({ cls := "AssertionGate$Page", name := "putNumber", desc := "(I)V" } : Jvm.MethodName) prog_7_method_5_code (4 : Nat) (Option.none : Option Jvm.ClassFile.FieldType)) ∈ lw_tbl := qt2 _ (List.mem_of_getElem? (i := 205) rfl)
theorem qw448 : (Jvm.Cond.methodLink "AssertionGate" (171 : Nat) ({ cls := "AssertionGate", name := "putIssuer", desc := "(I)V" } : Jvm.MethodName)) ∈ lw_tbl := qt2 _ (List.mem_of_getElem? (i := 208) rfl)
theorem qw450 : (Jvm.Cond.instanceMethod ({ cls := "AssertionGate", name := "putIssuer", desc := "(I)V" } : Jvm.MethodName)) ∈ lw_tbl := qt2 _ (List.mem_of_getElem? (i := 210) rfl)
theorem qw451 : (Jvm.Cond.code ({ cls := "AssertionGate", name := "putIssuer", desc := "(I)V" } : Jvm.MethodName) prog_1_method_10_code (2 : Nat) (Option.none : Option Jvm.ClassFile.FieldType)) ∈ lw_tbl := qt2 _ (List.mem_of_getElem? (i := 211) rfl)
theorem qw455 : (Jvm.Cond.methodLink "AssertionGate" (138 : Nat) ({ cls := "AssertionGate", name := "putAssertion", desc := "(IIII)V" } : Jvm.MethodName)) ∈ lw_tbl := qt2 _ (List.mem_of_getElem? (i := 215) rfl)
theorem qw457 : (Jvm.Cond.instanceMethod ({ cls := "AssertionGate", name := "putAssertion", desc := "(IIII)V" } : Jvm.MethodName)) ∈ lw_tbl := qt2 _ (List.mem_of_getElem? (i := 217) rfl)
theorem qw458 : (Jvm.Cond.code ({ cls := "AssertionGate", name := "putAssertion", desc := "(IIII)V" } : Jvm.MethodName) prog_1_method_9_code (5 : Nat) (Option.none : Option Jvm.ClassFile.FieldType)) ∈ lw_tbl := qt2 _ (List.mem_of_getElem? (i := 218) rfl)
theorem qw462 : (Jvm.Cond.methodLink "AssertionGate" (182 : Nat) ({ cls := "AssertionGate", name := "putUser", desc := "(I)V" } : Jvm.MethodName)) ∈ lw_tbl := qt2 _ (List.mem_of_getElem? (i := 222) rfl)
theorem qw464 : (Jvm.Cond.instanceMethod ({ cls := "AssertionGate", name := "putUser", desc := "(I)V" } : Jvm.MethodName)) ∈ lw_tbl := qt2 _ (List.mem_of_getElem? (i := 224) rfl)
theorem qw465 : (Jvm.Cond.code ({ cls := "AssertionGate", name := "putUser", desc := "(I)V" } : Jvm.MethodName) prog_1_method_11_code (2 : Nat) (Option.none : Option Jvm.ClassFile.FieldType)) ∈ lw_tbl := qt2 _ (List.mem_of_getElem? (i := 225) rfl)
theorem qw473 : (Jvm.Cond.methodLink "AssertionGate" (151 : Nat) ({ cls := "AssertionGate", name := "sealOfRead", desc := "(II)I" } : Jvm.MethodName)) ∈ lw_tbl := qt2 _ (List.mem_of_getElem? (i := 233) rfl)
theorem qw475 : (Jvm.Cond.instanceMethod ({ cls := "AssertionGate", name := "sealOfRead", desc := "(II)I" } : Jvm.MethodName)) ∈ lw_tbl := qt2 _ (List.mem_of_getElem? (i := 235) rfl)
theorem qw476 : (Jvm.Cond.code ({ cls := "AssertionGate", name := "sealOfRead", desc := "(II)I" } : Jvm.MethodName) prog_1_method_26_code (3 : Nat) (Option.some Jvm.ClassFile.FieldType.int)) ∈ lw_tbl := qt2 _ (List.mem_of_getElem? (i := 236) rfl)
theorem qw477 : (Jvm.Cond.methodLink "AssertionGate" (232 : Nat) ({ cls := "AssertionGate$Reader", name := "read", desc := "()I" } : Jvm.MethodName)) ∈ lw_tbl := qt2 _ (List.mem_of_getElem? (i := 237) rfl)
theorem qw478 : (Jvm.Cond.instanceMethod ({ cls := "AssertionGate$Reader", name := "read", desc := "()I" } : Jvm.MethodName)) ∈ lw_tbl := qt2 _ (List.mem_of_getElem? (i := 238) rfl)
theorem qw479 : (Jvm.Cond.selects "AssertionGate$Reader" ({ cls := "AssertionGate$Reader", name := "read", desc := "()I" } : Jvm.MethodName) ({ cls := "AssertionGate$Reader", name := "read", desc := "()I" } : Jvm.MethodName)) ∈ lw_tbl := qt2 _ (List.mem_of_getElem? (i := 239) rfl)
theorem qw480 : (Jvm.Cond.code ({ cls := "AssertionGate$Reader", name := "read", desc := "()I" } : Jvm.MethodName) prog_8_method_2_code (4 : Nat) (Option.some Jvm.ClassFile.FieldType.int)) ∈ lw_tbl := qt3 _ (List.mem_of_getElem? (i := 0) rfl)
theorem qw481 : (Jvm.Cond.methodLink "AssertionGate$Reader" (31 : Nat) ({ cls := "AssertionGate$Reader", name := "isBanned", desc := "()Z" } : Jvm.MethodName)) ∈ lw_tbl := qt3 _ (List.mem_of_getElem? (i := 1) rfl)
theorem qw483 : (Jvm.Cond.instanceMethod ({ cls := "AssertionGate$Reader", name := "isBanned", desc := "()Z" } : Jvm.MethodName)) ∈ lw_tbl := qt3 _ (List.mem_of_getElem? (i := 3) rfl)
theorem qw484 : (Jvm.Cond.code ({ cls := "AssertionGate$Reader", name := "isBanned", desc := "()Z" } : Jvm.MethodName) prog_8_method_3_code (4 : Nat) (Option.some Jvm.ClassFile.FieldType.boolean)) ∈ lw_tbl := qt3 _ (List.mem_of_getElem? (i := 4) rfl)
theorem qw485 : (Jvm.Cond.methodLink "AssertionGate$Reader" (39 : Nat) ({ cls := "AssertionGate$Page", name := "codeAt", desc := "(I)I" } : Jvm.MethodName)) ∈ lw_tbl := qt3 _ (List.mem_of_getElem? (i := 5) rfl)
theorem qw486 : (Jvm.Cond.instanceMethod ({ cls := "AssertionGate$Page", name := "codeAt", desc := "(I)I" } : Jvm.MethodName)) ∈ lw_tbl := qt3 _ (List.mem_of_getElem? (i := 6) rfl)
theorem qw487 : (Jvm.Cond.selects "AssertionGate$Page" ({ cls := "AssertionGate$Page", name := "codeAt", desc := "(I)I" } : Jvm.MethodName) ({ cls := "AssertionGate$Page", name := "codeAt", desc := "(I)I" } : Jvm.MethodName)) ∈ lw_tbl := qt3 _ (List.mem_of_getElem? (i := 7) rfl)
theorem qw488 : (Jvm.Cond.code ({ cls := "AssertionGate$Page", name := "codeAt", desc := "(I)I" } : Jvm.MethodName) prog_7_method_2_code (2 : Nat) (Option.some Jvm.ClassFile.FieldType.int)) ∈ lw_tbl := qt3 _ (List.mem_of_getElem? (i := 8) rfl)
theorem qw489 : (Jvm.Cond.methodLink "AssertionGate$Reader" (53 : Nat) ({ cls := "AssertionGate$Page", name := "hasDashes", desc := "(I)Z" } : Jvm.MethodName)) ∈ lw_tbl := qt3 _ (List.mem_of_getElem? (i := 9) rfl)
theorem qw490 : (Jvm.Cond.instanceMethod ({ cls := "AssertionGate$Page", name := "hasDashes", desc := "(I)Z" } : Jvm.MethodName)) ∈ lw_tbl := qt3 _ (List.mem_of_getElem? (i := 10) rfl)
theorem qw491 : (Jvm.Cond.selects "AssertionGate$Page" ({ cls := "AssertionGate$Page", name := "hasDashes", desc := "(I)Z" } : Jvm.MethodName) ({ cls := "AssertionGate$Page", name := "hasDashes", desc := "(I)Z" } : Jvm.MethodName)) ∈ lw_tbl := qt3 _ (List.mem_of_getElem? (i := 11) rfl)
theorem qw492 : (Jvm.Cond.code ({ cls := "AssertionGate$Page", name := "hasDashes", desc := "(I)Z" } : Jvm.MethodName) prog_7_method_11_code (2 : Nat) (Option.some Jvm.ClassFile.FieldType.boolean)) ∈ lw_tbl := qt3 _ (List.mem_of_getElem? (i := 12) rfl)
theorem qw493 : (Jvm.Cond.methodLink "AssertionGate$Page" (39 : Nat) ({ cls := "AssertionGate$Page", name := "codeAt", desc := "(I)I" } : Jvm.MethodName)) ∈ lw_tbl := qt3 _ (List.mem_of_getElem? (i := 13) rfl)
theorem qw494 : (Jvm.Cond.methodLink "AssertionGate$Reader" (35 : Nat) ({ cls := "AssertionGate$Reader", name := "afterStartTag", desc := "(I)I" } : Jvm.MethodName)) ∈ lw_tbl := qt3 _ (List.mem_of_getElem? (i := 14) rfl)
theorem qw496 : (Jvm.Cond.instanceMethod ({ cls := "AssertionGate$Reader", name := "afterStartTag", desc := "(I)I" } : Jvm.MethodName)) ∈ lw_tbl := qt3 _ (List.mem_of_getElem? (i := 16) rfl)
theorem qw497 : (Jvm.Cond.code ({ cls := "AssertionGate$Reader", name := "afterStartTag", desc := "(I)I" } : Jvm.MethodName) prog_8_method_5_code (7 : Nat) (Option.some Jvm.ClassFile.FieldType.int)) ∈ lw_tbl := qt3 _ (List.mem_of_getElem? (i := 17) rfl)
theorem qw498 : (Jvm.Cond.methodLink "AssertionGate$Reader" (60 : Nat) ({ cls := "AssertionGate$Reader", name := "afterName", desc := "(I)I" } : Jvm.MethodName)) ∈ lw_tbl := qt3 _ (List.mem_of_getElem? (i := 18) rfl)
theorem qw500 : (Jvm.Cond.instanceMethod ({ cls := "AssertionGate$Reader", name := "afterName", desc := "(I)I" } : Jvm.MethodName)) ∈ lw_tbl := qt3 _ (List.mem_of_getElem? (i := 20) rfl)
theorem qw501 : (Jvm.Cond.code ({ cls := "AssertionGate$Reader", name := "afterName", desc := "(I)I" } : Jvm.MethodName) prog_8_method_4_code (3 : Nat) (Option.some Jvm.ClassFile.FieldType.int)) ∈ lw_tbl := qt3 _ (List.mem_of_getElem? (i := 21) rfl)
theorem qw502 : (Jvm.Cond.methodLink "AssertionGate$Reader" (57 : Nat) ({ cls := "AssertionGate$Page", name := "afterLetters", desc := "(I)I" } : Jvm.MethodName)) ∈ lw_tbl := qt3 _ (List.mem_of_getElem? (i := 22) rfl)
theorem qw503 : (Jvm.Cond.instanceMethod ({ cls := "AssertionGate$Page", name := "afterLetters", desc := "(I)I" } : Jvm.MethodName)) ∈ lw_tbl := qt3 _ (List.mem_of_getElem? (i := 23) rfl)
theorem qw504 : (Jvm.Cond.selects "AssertionGate$Page" ({ cls := "AssertionGate$Page", name := "afterLetters", desc := "(I)I" } : Jvm.MethodName) ({ cls := "AssertionGate$Page", name := "afterLetters", desc := "(I)I" } : Jvm.MethodName)) ∈ lw_tbl := qt3 _ (List.mem_of_getElem? (i := 24) rfl)
theorem qw505 : (Jvm.Cond.code ({ cls := "AssertionGate$Page", name := "afterLetters", desc := "(I)I" } : Jvm.MethodName) prog_7_method_9_code (3 : Nat) (Option.some Jvm.ClassFile.FieldType.int)) ∈ lw_tbl := qt3 _ (List.mem_of_getElem? (i := 25) rfl)
theorem qw506 : (Jvm.Cond.methodLink "AssertionGate$Reader" (63 : Nat) ({ cls := "AssertionGate$Message", name := "add", desc := "(III)I" } : Jvm.MethodName)) ∈ lw_tbl := qt3 _ (List.mem_of_getElem? (i := 26) rfl)
theorem qw507 : (Jvm.Cond.instanceMethod ({ cls := "AssertionGate$Message", name := "add", desc := "(III)I" } : Jvm.MethodName)) ∈ lw_tbl := qt3 _ (List.mem_of_getElem? (i := 27) rfl)
theorem qw508 : (Jvm.Cond.selects "AssertionGate$Message" ({ cls := "AssertionGate$Message", name := "add", desc := "(III)I" } : Jvm.MethodName) ({ cls := "AssertionGate$Message", name := "add", desc := "(III)I" } : Jvm.MethodName)) ∈ lw_tbl := qt3 _ (List.mem_of_getElem? (i := 28) rfl)
theorem qw509 : (Jvm.Cond.code ({ cls := "AssertionGate$Message", name := "add", desc := "(III)I" } : Jvm.MethodName) prog_6_method_3_code (5 : Nat) (Option.some Jvm.ClassFile.FieldType.int)) ∈ lw_tbl := qt3 _ (List.mem_of_getElem? (i := 29) rfl)
theorem qw510 : (Jvm.Cond.methodLink "AssertionGate$Reader" (67 : Nat) ({ cls := "AssertionGate$Reader", name := "afterAttributes", desc := "(II)I" } : Jvm.MethodName)) ∈ lw_tbl := qt3 _ (List.mem_of_getElem? (i := 30) rfl)
theorem qw512 : (Jvm.Cond.instanceMethod ({ cls := "AssertionGate$Reader", name := "afterAttributes", desc := "(II)I" } : Jvm.MethodName)) ∈ lw_tbl := qt3 _ (List.mem_of_getElem? (i := 32) rfl)
theorem qw513 : (Jvm.Cond.code ({ cls := "AssertionGate$Reader", name := "afterAttributes", desc := "(II)I" } : Jvm.MethodName) prog_8_method_6_code (8 : Nat) (Option.some Jvm.ClassFile.FieldType.int)) ∈ lw_tbl := qt3 _ (List.mem_of_getElem? (i := 33) rfl)
theorem qw514 : (Jvm.Cond.methodLink "AssertionGate$Reader" (81 : Nat) ({ cls := "AssertionGate$Page", name := "afterSpaces", desc := "(I)I" } : Jvm.MethodName)) ∈ lw_tbl := qt3 _ (List.mem_of_getElem? (i := 34) rfl)
theorem qw515 : (Jvm.Cond.instanceMethod ({ cls := "AssertionGate$Page", name := "afterSpaces", desc := "(I)I" } : Jvm.MethodName)) ∈ lw_tbl := qt3 _ (List.mem_of_getElem? (i := 35) rfl)
theorem qw516 : (Jvm.Cond.selects "AssertionGate$Page" ({ cls := "AssertionGate$Page", name := "afterSpaces", desc := "(I)I" } : Jvm.MethodName) ({ cls := "AssertionGate$Page", name := "afterSpaces", desc := "(I)I" } : Jvm.MethodName)) ∈ lw_tbl := qt3 _ (List.mem_of_getElem? (i := 36) rfl)
theorem qw517 : (Jvm.Cond.code ({ cls := "AssertionGate$Page", name := "afterSpaces", desc := "(I)I" } : Jvm.MethodName) prog_7_method_10_code (3 : Nat) (Option.some Jvm.ClassFile.FieldType.int)) ∈ lw_tbl := qt3 _ (List.mem_of_getElem? (i := 37) rfl)
theorem qw518 : (Jvm.Cond.methodLink "AssertionGate$Reader" (84 : Nat) ({ cls := "AssertionGate$Reader", name := "closingQuote", desc := "(I)I" } : Jvm.MethodName)) ∈ lw_tbl := qt3 _ (List.mem_of_getElem? (i := 38) rfl)
theorem qw520 : (Jvm.Cond.instanceMethod ({ cls := "AssertionGate$Reader", name := "closingQuote", desc := "(I)I" } : Jvm.MethodName)) ∈ lw_tbl := qt3 _ (List.mem_of_getElem? (i := 40) rfl)
theorem qw521 : (Jvm.Cond.code ({ cls := "AssertionGate$Reader", name := "closingQuote", desc := "(I)I" } : Jvm.MethodName) prog_8_method_7_code (3 : Nat) (Option.some Jvm.ClassFile.FieldType.int)) ∈ lw_tbl := qt3 _ (List.mem_of_getElem? (i := 41) rfl)
theorem qw522 : (Jvm.Cond.methodLink "AssertionGate$Reader" (87 : Nat) ({ cls := "AssertionGate$Message", name := "keepAttribute", desc := "(IIII)Z" } : Jvm.MethodName)) ∈ lw_tbl := qt3 _ (List.mem_of_getElem? (i := 42) rfl)
theorem qw523 : (Jvm.Cond.instanceMethod ({ cls := "AssertionGate$Message", name := "keepAttribute", desc := "(IIII)Z" } : Jvm.MethodName)) ∈ lw_tbl := qt3 _ (List.mem_of_getElem? (i := 43) rfl)
theorem qw524 : (Jvm.Cond.selects "AssertionGate$Message" ({ cls := "AssertionGate$Message", name := "keepAttribute", desc := "(IIII)Z" } : Jvm.MethodName) ({ cls := "AssertionGate$Message", name := "keepAttribute", desc := "(IIII)Z" } : Jvm.MethodName)) ∈ lw_tbl := qt3 _ (List.mem_of_getElem? (i := 44) rfl)
theorem qw525 : (Jvm.Cond.code ({ cls := "AssertionGate$Message", name := "keepAttribute", desc := "(IIII)Z" } : Jvm.MethodName) prog_6_method_4_code (8 : Nat) (Option.some Jvm.ClassFile.FieldType.boolean)) ∈ lw_tbl := qt3 _ (List.mem_of_getElem? (i := 45) rfl)
theorem qw526 : (Jvm.Cond.methodLink "AssertionGate$Message" (50 : Nat) ({ cls := "AssertionGate$Message", name := "holds", desc := "(I)Z" } : Jvm.MethodName)) ∈ lw_tbl := qt3 _ (List.mem_of_getElem? (i := 46) rfl)
theorem qw527 : (Jvm.Cond.instanceMethod ({ cls := "AssertionGate$Message", name := "holds", desc := "(I)Z" } : Jvm.MethodName)) ∈ lw_tbl := qt3 _ (List.mem_of_getElem? (i := 47) rfl)
theorem qw528 : (Jvm.Cond.selects "AssertionGate$Message" ({ cls := "AssertionGate$Message", name := "holds", desc := "(I)Z" } : Jvm.MethodName) ({ cls := "AssertionGate$Message", name := "holds", desc := "(I)Z" } : Jvm.MethodName)) ∈ lw_tbl := qt3 _ (List.mem_of_getElem? (i := 48) rfl)
theorem qw529 : (Jvm.Cond.code ({ cls := "AssertionGate$Message", name := "holds", desc := "(I)Z" } : Jvm.MethodName) prog_6_method_2_code (2 : Nat) (Option.some Jvm.ClassFile.FieldType.boolean)) ∈ lw_tbl := qt3 _ (List.mem_of_getElem? (i := 49) rfl)
theorem qw530 : (Jvm.Cond.methodLink "AssertionGate$Message" (54 : Nat) ({ cls := "AssertionGate$Page", name := "order", desc := "(IIII)I" } : Jvm.MethodName)) ∈ lw_tbl := qt3 _ (List.mem_of_getElem? (i := 50) rfl)
theorem qw531 : (Jvm.Cond.instanceMethod ({ cls := "AssertionGate$Page", name := "order", desc := "(IIII)I" } : Jvm.MethodName)) ∈ lw_tbl := qt3 _ (List.mem_of_getElem? (i := 51) rfl)
theorem qw532 : (Jvm.Cond.selects "AssertionGate$Page" ({ cls := "AssertionGate$Page", name := "order", desc := "(IIII)I" } : Jvm.MethodName) ({ cls := "AssertionGate$Page", name := "order", desc := "(IIII)I" } : Jvm.MethodName)) ∈ lw_tbl := qt3 _ (List.mem_of_getElem? (i := 52) rfl)
theorem qw533 : (Jvm.Cond.code ({ cls := "AssertionGate$Page", name := "order", desc := "(IIII)I" } : Jvm.MethodName) prog_7_method_14_code (8 : Nat) (Option.some Jvm.ClassFile.FieldType.int)) ∈ lw_tbl := qt3 _ (List.mem_of_getElem? (i := 53) rfl)
theorem qw537 : (Jvm.Cond.methodLink "AssertionGate$Reader" (47 : Nat) ({ cls := "AssertionGate$Page", name := "afterComment", desc := "(I)I" } : Jvm.MethodName)) ∈ lw_tbl := qt3 _ (List.mem_of_getElem? (i := 57) rfl)
theorem qw538 : (Jvm.Cond.instanceMethod ({ cls := "AssertionGate$Page", name := "afterComment", desc := "(I)I" } : Jvm.MethodName)) ∈ lw_tbl := qt3 _ (List.mem_of_getElem? (i := 58) rfl)
theorem qw539 : (Jvm.Cond.selects "AssertionGate$Page" ({ cls := "AssertionGate$Page", name := "afterComment", desc := "(I)I" } : Jvm.MethodName) ({ cls := "AssertionGate$Page", name := "afterComment", desc := "(I)I" } : Jvm.MethodName)) ∈ lw_tbl := qt3 _ (List.mem_of_getElem? (i := 59) rfl)
theorem qw540 : (Jvm.Cond.code ({ cls := "AssertionGate$Page", name := "afterComment", desc := "(I)I" } : Jvm.MethodName) prog_7_method_12_code (3 : Nat) (Option.some Jvm.ClassFile.FieldType.int)) ∈ lw_tbl := qt3 _ (List.mem_of_getElem? (i := 60) rfl)
theorem qw541 : (Jvm.Cond.methodLink "AssertionGate$Page" (43 : Nat) ({ cls := "AssertionGate$Page", name := "hasDashes", desc := "(I)Z" } : Jvm.MethodName)) ∈ lw_tbl := qt3 _ (List.mem_of_getElem? (i := 61) rfl)
theorem qw542 : (Jvm.Cond.methodLink "AssertionGate$Reader" (50 : Nat) ({ cls := "AssertionGate$Reader", name := "afterEndTag", desc := "(I)I" } : Jvm.MethodName)) ∈ lw_tbl := qt3 _ (List.mem_of_getElem? (i := 62) rfl)
theorem qw544 : (Jvm.Cond.instanceMethod ({ cls := "AssertionGate$Reader", name := "afterEndTag", desc := "(I)I" } : Jvm.MethodName)) ∈ lw_tbl := qt3 _ (List.mem_of_getElem? (i := 64) rfl)
theorem qw545 : (Jvm.Cond.code ({ cls := "AssertionGate$Reader", name := "afterEndTag", desc := "(I)I" } : Jvm.MethodName) prog_8_method_8_code (4 : Nat) (Option.some Jvm.ClassFile.FieldType.int)) ∈ lw_tbl := qt3 _ (List.mem_of_getElem? (i := 65) rfl)
theorem qw546 : (Jvm.Cond.methodLink "AssertionGate$Reader" (91 : Nat) ({ cls := "AssertionGate$Message", name := "holds", desc := "(I)Z" } : Jvm.MethodName)) ∈ lw_tbl := qt3 _ (List.mem_of_getElem? (i := 66) rfl)
theorem qw547 : (Jvm.Cond.methodLink "AssertionGate$Reader" (100 : Nat) ({ cls := "AssertionGate$Page", name := "order", desc := "(IIII)I" } : Jvm.MethodName)) ∈ lw_tbl := qt3 _ (List.mem_of_getElem? (i := 67) rfl)
theorem qw548 : (Jvm.Cond.methodLink "AssertionGate" (236 : Nat) ({ cls := "AssertionGate$Digester", name := "digestOf", desc := "(I)I" } : Jvm.MethodName)) ∈ lw_tbl := qt3 _ (List.mem_of_getElem? (i := 68) rfl)
theorem qw549 : (Jvm.Cond.instanceMethod ({ cls := "AssertionGate$Digester", name := "digestOf", desc := "(I)I" } : Jvm.MethodName)) ∈ lw_tbl := qt3 _ (List.mem_of_getElem? (i := 69) rfl)
theorem qw550 : (Jvm.Cond.selects "AssertionGate$Digester" ({ cls := "AssertionGate$Digester", name := "digestOf", desc := "(I)I" } : Jvm.MethodName) ({ cls := "AssertionGate$Digester", name := "digestOf", desc := "(I)I" } : Jvm.MethodName)) ∈ lw_tbl := qt3 _ (List.mem_of_getElem? (i := 70) rfl)
theorem qw551 : (Jvm.Cond.code ({ cls := "AssertionGate$Digester", name := "digestOf", desc := "(I)I" } : Jvm.MethodName) prog_2_method_2_code (5 : Nat) (Option.some Jvm.ClassFile.FieldType.int)) ∈ lw_tbl := qt3 _ (List.mem_of_getElem? (i := 71) rfl)
theorem qw552 : (Jvm.Cond.methodLink "AssertionGate$Digester" (26 : Nat) ({ cls := "AssertionGate$Message", name := "holds", desc := "(I)Z" } : Jvm.MethodName)) ∈ lw_tbl := qt3 _ (List.mem_of_getElem? (i := 72) rfl)
theorem qw553 : (Jvm.Cond.methodLink "AssertionGate$Digester" (39 : Nat) ({ cls := "AssertionGate$Page", name := "codeAt", desc := "(I)I" } : Jvm.MethodName)) ∈ lw_tbl := qt3 _ (List.mem_of_getElem? (i := 73) rfl)
theorem qw554 : (Jvm.Cond.methodLink "AssertionGate$Digester" (45 : Nat) ({ cls := "AssertionGate$Digester", name := "fold", desc := "(I)V" } : Jvm.MethodName)) ∈ lw_tbl := qt3 _ (List.mem_of_getElem? (i := 74) rfl)
theorem qw556 : (Jvm.Cond.instanceMethod ({ cls := "AssertionGate$Digester", name := "fold", desc := "(I)V" } : Jvm.MethodName)) ∈ lw_tbl := qt3 _ (List.mem_of_getElem? (i := 76) rfl)
theorem qw557 : (Jvm.Cond.code ({ cls := "AssertionGate$Digester", name := "fold", desc := "(I)V" } : Jvm.MethodName) prog_2_method_8_code (2 : Nat) (Option.none : Option Jvm.ClassFile.FieldType)) ∈ lw_tbl := qt3 _ (List.mem_of_getElem? (i := 77) rfl)
theorem qw559 : (Jvm.Cond.methodLink "AssertionGate$Digester" (49 : Nat) ({ cls := "AssertionGate$Page", name := "afterComment", desc := "(I)I" } : Jvm.MethodName)) ∈ lw_tbl := qt3 _ (List.mem_of_getElem? (i := 79) rfl)
theorem qw560 : (Jvm.Cond.methodLink "AssertionGate$Digester" (52 : Nat) ({ cls := "AssertionGate$Digester", name := "foldEndTag", desc := "(I)I" } : Jvm.MethodName)) ∈ lw_tbl := qt3 _ (List.mem_of_getElem? (i := 80) rfl)
theorem qw562 : (Jvm.Cond.instanceMethod ({ cls := "AssertionGate$Digester", name := "foldEndTag", desc := "(I)I" } : Jvm.MethodName)) ∈ lw_tbl := qt3 _ (List.mem_of_getElem? (i := 82) rfl)
theorem qw563 : (Jvm.Cond.code ({ cls := "AssertionGate$Digester", name := "foldEndTag", desc := "(I)I" } : Jvm.MethodName) prog_2_method_3_code (3 : Nat) (Option.some Jvm.ClassFile.FieldType.int)) ∈ lw_tbl := qt3 _ (List.mem_of_getElem? (i := 83) rfl)
theorem qw564 : (Jvm.Cond.methodLink "AssertionGate$Digester" (58 : Nat) ({ cls := "AssertionGate$Page", name := "afterLetters", desc := "(I)I" } : Jvm.MethodName)) ∈ lw_tbl := qt3 _ (List.mem_of_getElem? (i := 84) rfl)
theorem qw565 : (Jvm.Cond.methodLink "AssertionGate$Digester" (61 : Nat) ({ cls := "AssertionGate$Digester", name := "foldEnd", desc := "(II)V" } : Jvm.MethodName)) ∈ lw_tbl := qt3 _ (List.mem_of_getElem? (i := 85) rfl)
theorem qw567 : (Jvm.Cond.instanceMethod ({ cls := "AssertionGate$Digester", name := "foldEnd", desc := "(II)V" } : Jvm.MethodName)) ∈ lw_tbl := qt3 _ (List.mem_of_getElem? (i := 87) rfl)
theorem qw568 : (Jvm.Cond.code ({ cls := "AssertionGate$Digester", name := "foldEnd", desc := "(II)V" } : Jvm.MethodName) prog_2_method_6_code (3 : Nat) (Option.none : Option Jvm.ClassFile.FieldType)) ∈ lw_tbl := qt3 _ (List.mem_of_getElem? (i := 88) rfl)
theorem qw569 : (Jvm.Cond.methodLink "AssertionGate$Digester" (83 : Nat) ({ cls := "AssertionGate$Digester", name := "foldSpan", desc := "(II)V" } : Jvm.MethodName)) ∈ lw_tbl := qt3 _ (List.mem_of_getElem? (i := 89) rfl)
theorem qw571 : (Jvm.Cond.instanceMethod ({ cls := "AssertionGate$Digester", name := "foldSpan", desc := "(II)V" } : Jvm.MethodName)) ∈ lw_tbl := qt3 _ (List.mem_of_getElem? (i := 91) rfl)
theorem qw572 : (Jvm.Cond.code ({ cls := "AssertionGate$Digester", name := "foldSpan", desc := "(II)V" } : Jvm.MethodName) prog_2_method_7_code (4 : Nat) (Option.none : Option Jvm.ClassFile.FieldType)) ∈ lw_tbl := qt3 _ (List.mem_of_getElem? (i := 92) rfl)
theorem qw573 : (Jvm.Cond.methodLink "AssertionGate$Digester" (65 : Nat) ({ cls := "AssertionGate$Page", name := "afterSpaces", desc := "(I)I" } : Jvm.MethodName)) ∈ lw_tbl := qt3 _ (List.mem_of_getElem? (i := 93) rfl)
theorem qw574 : (Jvm.Cond.methodLink "AssertionGate$Digester" (55 : Nat) ({ cls := "AssertionGate$Digester", name := "foldStartTag", desc := "(I)I" } : Jvm.MethodName)) ∈ lw_tbl := qt3 _ (List.mem_of_getElem? (i := 94) rfl)
theorem qw576 : (Jvm.Cond.instanceMethod ({ cls := "AssertionGate$Digester", name := "foldStartTag", desc := "(I)I" } : Jvm.MethodName)) ∈ lw_tbl := qt3 _ (List.mem_of_getElem? (i := 96) rfl)
theorem qw577 : (Jvm.Cond.code ({ cls := "AssertionGate$Digester", name := "foldStartTag", desc := "(I)I" } : Jvm.MethodName) prog_2_method_4_code (5 : Nat) (Option.some Jvm.ClassFile.FieldType.int)) ∈ lw_tbl := qt3 _ (List.mem_of_getElem? (i := 97) rfl)
theorem qw579 : (Jvm.Cond.methodLink "AssertionGate$Digester" (73 : Nat) ({ cls := "AssertionGate$Message", name := "isNamed", desc := "(ILjava/lang/String;)Z" } : Jvm.MethodName)) ∈ lw_tbl := qt3 _ (List.mem_of_getElem? (i := 99) rfl)
theorem qw580 : (Jvm.Cond.instanceMethod ({ cls := "AssertionGate$Message", name := "isNamed", desc := "(ILjava/lang/String;)Z" } : Jvm.MethodName)) ∈ lw_tbl := qt3 _ (List.mem_of_getElem? (i := 100) rfl)
theorem qw581 : (Jvm.Cond.selects "AssertionGate$Message" ({ cls := "AssertionGate$Message", name := "isNamed", desc := "(ILjava/lang/String;)Z" } : Jvm.MethodName) ({ cls := "AssertionGate$Message", name := "isNamed", desc := "(ILjava/lang/String;)Z" } : Jvm.MethodName)) ∈ lw_tbl := qt3 _ (List.mem_of_getElem? (i := 101) rfl)
theorem qw582 : (Jvm.Cond.code ({ cls := "AssertionGate$Message", name := "isNamed", desc := "(ILjava/lang/String;)Z" } : Jvm.MethodName) prog_6_method_5_code (3 : Nat) (Option.some Jvm.ClassFile.FieldType.boolean)) ∈ lw_tbl := qt3 _ (List.mem_of_getElem? (i := 102) rfl)
theorem qw583 : (Jvm.Cond.methodLink "AssertionGate$Message" (60 : Nat) ({ cls := "AssertionGate$Page", name := "isWord", desc := "(IILjava/lang/String;)Z" } : Jvm.MethodName)) ∈ lw_tbl := qt3 _ (List.mem_of_getElem? (i := 103) rfl)
theorem qw584 : (Jvm.Cond.instanceMethod ({ cls := "AssertionGate$Page", name := "isWord", desc := "(IILjava/lang/String;)Z" } : Jvm.MethodName)) ∈ lw_tbl := qt3 _ (List.mem_of_getElem? (i := 104) rfl)
theorem qw585 : (Jvm.Cond.selects "AssertionGate$Page" ({ cls := "AssertionGate$Page", name := "isWord", desc := "(IILjava/lang/String;)Z" } : Jvm.MethodName) ({ cls := "AssertionGate$Page", name := "isWord", desc := "(IILjava/lang/String;)Z" } : Jvm.MethodName)) ∈ lw_tbl := qt3 _ (List.mem_of_getElem? (i := 105) rfl)
theorem qw586 : (Jvm.Cond.code ({ cls := "AssertionGate$Page", name := "isWord", desc := "(IILjava/lang/String;)Z" } : Jvm.MethodName) prog_7_method_13_code (5 : Nat) (Option.some Jvm.ClassFile.FieldType.boolean)) ∈ lw_tbl := qt3 _ (List.mem_of_getElem? (i := 106) rfl)
theorem qw587 : (Jvm.Cond.methodLink "AssertionGate$Digester" (77 : Nat) ({ cls := "AssertionGate$Digester", name := "passOver", desc := "(I)V" } : Jvm.MethodName)) ∈ lw_tbl := qt3 _ (List.mem_of_getElem? (i := 107) rfl)
theorem qw589 : (Jvm.Cond.instanceMethod ({ cls := "AssertionGate$Digester", name := "passOver", desc := "(I)V" } : Jvm.MethodName)) ∈ lw_tbl := qt3 _ (List.mem_of_getElem? (i := 109) rfl)
theorem qw590 : (Jvm.Cond.code ({ cls := "AssertionGate$Digester", name := "passOver", desc := "(I)V" } : Jvm.MethodName) prog_2_method_5_code (3 : Nat) (Option.none : Option Jvm.ClassFile.FieldType)) ∈ lw_tbl := qt3 _ (List.mem_of_getElem? (i := 110) rfl)
theorem qw591 : (Jvm.Cond.methodLink "AssertionGate" (239 : Nat) ({ cls := "AssertionGate$Issuers", name := "sealOf", desc := "(II)I" } : Jvm.MethodName)) ∈ lw_tbl := qt3 _ (List.mem_of_getElem? (i := 111) rfl)
theorem qw592 : (Jvm.Cond.instanceMethod ({ cls := "AssertionGate$Issuers", name := "sealOf", desc := "(II)I" } : Jvm.MethodName)) ∈ lw_tbl := qt3 _ (List.mem_of_getElem? (i := 112) rfl)
theorem qw593 : (Jvm.Cond.selects "AssertionGate$Issuers" ({ cls := "AssertionGate$Issuers", name := "sealOf", desc := "(II)I" } : Jvm.MethodName) ({ cls := "AssertionGate$Issuers", name := "sealOf", desc := "(II)I" } : Jvm.MethodName)) ∈ lw_tbl := qt3 _ (List.mem_of_getElem? (i := 113) rfl)
theorem qw594 : (Jvm.Cond.code ({ cls := "AssertionGate$Issuers", name := "sealOf", desc := "(II)I" } : Jvm.MethodName) prog_3_method_4_code (3 : Nat) (Option.some Jvm.ClassFile.FieldType.int)) ∈ lw_tbl := qt3 _ (List.mem_of_getElem? (i := 114) rfl)
theorem qw595 : (Jvm.Cond.methodLink "AssertionGate$Issuers" (24 : Nat) ({ cls := "AssertionGate$Issuers", name := "canSeal", desc := "(I)Z" } : Jvm.MethodName)) ∈ lw_tbl := qt3 _ (List.mem_of_getElem? (i := 115) rfl)
theorem qw596 : (Jvm.Cond.methodLink "AssertionGate$Issuers" (28 : Nat) ({ cls := "AssertionGate$Issuers", name := "power", desc := "(III)I" } : Jvm.MethodName)) ∈ lw_tbl := qt3 _ (List.mem_of_getElem? (i := 116) rfl)
theorem qw597 : (Jvm.Cond.static ({ cls := "AssertionGate$Issuers", name := "power", desc := "(III)I" } : Jvm.MethodName)) ∈ lw_tbl := qt3 _ (List.mem_of_getElem? (i := 117) rfl)
theorem qw598 : (Jvm.Cond.code ({ cls := "AssertionGate$Issuers", name := "power", desc := "(III)I" } : Jvm.MethodName) prog_3_method_6_code (8 : Nat) (Option.some Jvm.ClassFile.FieldType.int)) ∈ lw_tbl := qt3 _ (List.mem_of_getElem? (i := 118) rfl)
theorem qw599 : (Jvm.Cond.methodLink "AssertionGate" (154 : Nat) ({ cls := "AssertionGate", name := "putSig", desc := "(CI)V" } : Jvm.MethodName)) ∈ lw_tbl := qt3 _ (List.mem_of_getElem? (i := 119) rfl)
theorem qw601 : (Jvm.Cond.instanceMethod ({ cls := "AssertionGate", name := "putSig", desc := "(CI)V" } : Jvm.MethodName)) ∈ lw_tbl := qt3 _ (List.mem_of_getElem? (i := 121) rfl)
theorem qw602 : (Jvm.Cond.code ({ cls := "AssertionGate", name := "putSig", desc := "(CI)V" } : Jvm.MethodName) prog_1_method_12_code (3 : Nat) (Option.none : Option Jvm.ClassFile.FieldType)) ∈ lw_tbl := qt3 _ (List.mem_of_getElem? (i := 122) rfl)
theorem qw604 : (Jvm.Cond.methodLink "AssertionGate" (203 : Nat) ({ cls := "AssertionGate$Page", name := "put", desc := "(C)Z" } : Jvm.MethodName)) ∈ lw_tbl := qt3 _ (List.mem_of_getElem? (i := 124) rfl)
theorem qw609 : (Jvm.Cond.methodLink "AssertionGateLaw" (45 : Nat) ({ cls := "AssertionGate", name := "leave", desc := "(II)Z" } : Jvm.MethodName)) ∈ lw_tbl := qt3 _ (List.mem_of_getElem? (i := 129) rfl)
theorem qw610 : (Jvm.Cond.instanceMethod ({ cls := "AssertionGate", name := "leave", desc := "(II)Z" } : Jvm.MethodName)) ∈ lw_tbl := qt3 _ (List.mem_of_getElem? (i := 130) rfl)
theorem qw611 : (Jvm.Cond.selects "AssertionGate" ({ cls := "AssertionGate", name := "leave", desc := "(II)Z" } : Jvm.MethodName) ({ cls := "AssertionGate", name := "leave", desc := "(II)Z" } : Jvm.MethodName)) ∈ lw_tbl := qt3 _ (List.mem_of_getElem? (i := 131) rfl)
theorem qw612 : (Jvm.Cond.code ({ cls := "AssertionGate", name := "leave", desc := "(II)Z" } : Jvm.MethodName) prog_1_method_13_code (5 : Nat) (Option.some Jvm.ClassFile.FieldType.boolean)) ∈ lw_tbl := qt3 _ (List.mem_of_getElem? (i := 132) rfl)
theorem qw615 : (Jvm.Cond.methodLink "AssertionGateLaw" (50 : Nat) ({ cls := "AssertionGate", name := "write", desc := "(C)Z" } : Jvm.MethodName)) ∈ lw_tbl := qt3 _ (List.mem_of_getElem? (i := 135) rfl)
theorem qw616 : (Jvm.Cond.instanceMethod ({ cls := "AssertionGate", name := "write", desc := "(C)Z" } : Jvm.MethodName)) ∈ lw_tbl := qt3 _ (List.mem_of_getElem? (i := 136) rfl)
theorem qw617 : (Jvm.Cond.selects "AssertionGate" ({ cls := "AssertionGate", name := "write", desc := "(C)Z" } : Jvm.MethodName) ({ cls := "AssertionGate", name := "write", desc := "(C)Z" } : Jvm.MethodName)) ∈ lw_tbl := qt3 _ (List.mem_of_getElem? (i := 137) rfl)
theorem qw618 : (Jvm.Cond.code ({ cls := "AssertionGate", name := "write", desc := "(C)Z" } : Jvm.MethodName) prog_1_method_16_code (2 : Nat) (Option.some Jvm.ClassFile.FieldType.boolean)) ∈ lw_tbl := qt3 _ (List.mem_of_getElem? (i := 138) rfl)
theorem qw619 : (Jvm.Cond.methodLink "AssertionGate" (213 : Nat) ({ cls := "AssertionGate", name := "isPrintable", desc := "(C)Z" } : Jvm.MethodName)) ∈ lw_tbl := qt3 _ (List.mem_of_getElem? (i := 139) rfl)
theorem qw620 : (Jvm.Cond.static ({ cls := "AssertionGate", name := "isPrintable", desc := "(C)Z" } : Jvm.MethodName)) ∈ lw_tbl := qt3 _ (List.mem_of_getElem? (i := 140) rfl)
theorem qw621 : (Jvm.Cond.code ({ cls := "AssertionGate", name := "isPrintable", desc := "(C)Z" } : Jvm.MethodName) prog_1_method_15_code (1 : Nat) (Option.some Jvm.ClassFile.FieldType.boolean)) ∈ lw_tbl := qt3 _ (List.mem_of_getElem? (i := 141) rfl)
theorem qw622 : (Jvm.Cond.methodLink "AssertionGateLaw" (55 : Nat) ({ cls := "AssertionGate", name := "set", desc := "(IC)Z" } : Jvm.MethodName)) ∈ lw_tbl := qt3 _ (List.mem_of_getElem? (i := 142) rfl)
theorem qw623 : (Jvm.Cond.instanceMethod ({ cls := "AssertionGate", name := "set", desc := "(IC)Z" } : Jvm.MethodName)) ∈ lw_tbl := qt3 _ (List.mem_of_getElem? (i := 143) rfl)
theorem qw624 : (Jvm.Cond.selects "AssertionGate" ({ cls := "AssertionGate", name := "set", desc := "(IC)Z" } : Jvm.MethodName) ({ cls := "AssertionGate", name := "set", desc := "(IC)Z" } : Jvm.MethodName)) ∈ lw_tbl := qt3 _ (List.mem_of_getElem? (i := 144) rfl)
theorem qw625 : (Jvm.Cond.code ({ cls := "AssertionGate", name := "set", desc := "(IC)Z" } : Jvm.MethodName) prog_1_method_17_code (3 : Nat) (Option.some Jvm.ClassFile.FieldType.boolean)) ∈ lw_tbl := qt3 _ (List.mem_of_getElem? (i := 145) rfl)
theorem qw626 : (Jvm.Cond.methodLink "AssertionGateLaw" (60 : Nat) ({ cls := "AssertionGate", name := "cut", desc := "(II)Z" } : Jvm.MethodName)) ∈ lw_tbl := qt3 _ (List.mem_of_getElem? (i := 146) rfl)
theorem qw627 : (Jvm.Cond.instanceMethod ({ cls := "AssertionGate", name := "cut", desc := "(II)Z" } : Jvm.MethodName)) ∈ lw_tbl := qt3 _ (List.mem_of_getElem? (i := 147) rfl)
theorem qw628 : (Jvm.Cond.selects "AssertionGate" ({ cls := "AssertionGate", name := "cut", desc := "(II)Z" } : Jvm.MethodName) ({ cls := "AssertionGate", name := "cut", desc := "(II)Z" } : Jvm.MethodName)) ∈ lw_tbl := qt3 _ (List.mem_of_getElem? (i := 148) rfl)
theorem qw629 : (Jvm.Cond.code ({ cls := "AssertionGate", name := "cut", desc := "(II)Z" } : Jvm.MethodName) prog_1_method_18_code (3 : Nat) (Option.some Jvm.ClassFile.FieldType.boolean)) ∈ lw_tbl := qt3 _ (List.mem_of_getElem? (i := 149) rfl)
theorem qw630 : (Jvm.Cond.methodLink "AssertionGate" (220 : Nat) ({ cls := "AssertionGate$Page", name := "moveOut", desc := "(IILAssertionGate$Page;)V" } : Jvm.MethodName)) ∈ lw_tbl := qt3 _ (List.mem_of_getElem? (i := 150) rfl)
theorem qw631 : (Jvm.Cond.instanceMethod ({ cls := "AssertionGate$Page", name := "moveOut", desc := "(IILAssertionGate$Page;)V" } : Jvm.MethodName)) ∈ lw_tbl := qt3 _ (List.mem_of_getElem? (i := 151) rfl)
theorem qw632 : (Jvm.Cond.selects "AssertionGate$Page" ({ cls := "AssertionGate$Page", name := "moveOut", desc := "(IILAssertionGate$Page;)V" } : Jvm.MethodName) ({ cls := "AssertionGate$Page", name := "moveOut", desc := "(IILAssertionGate$Page;)V" } : Jvm.MethodName)) ∈ lw_tbl := qt3 _ (List.mem_of_getElem? (i := 152) rfl)
theorem qw633 : (Jvm.Cond.code ({ cls := "AssertionGate$Page", name := "moveOut", desc := "(IILAssertionGate$Page;)V" } : Jvm.MethodName) prog_7_method_7_code (4 : Nat) (Option.none : Option Jvm.ClassFile.FieldType)) ∈ lw_tbl := qt3 _ (List.mem_of_getElem? (i := 153) rfl)
theorem qw637 : (Jvm.Cond.methodLink "AssertionGateLaw" (64 : Nat) ({ cls := "AssertionGate", name := "paste", desc := "(I)Z" } : Jvm.MethodName)) ∈ lw_tbl := qt3 _ (List.mem_of_getElem? (i := 157) rfl)
theorem qw638 : (Jvm.Cond.instanceMethod ({ cls := "AssertionGate", name := "paste", desc := "(I)Z" } : Jvm.MethodName)) ∈ lw_tbl := qt3 _ (List.mem_of_getElem? (i := 158) rfl)
theorem qw639 : (Jvm.Cond.selects "AssertionGate" ({ cls := "AssertionGate", name := "paste", desc := "(I)Z" } : Jvm.MethodName) ({ cls := "AssertionGate", name := "paste", desc := "(I)Z" } : Jvm.MethodName)) ∈ lw_tbl := qt3 _ (List.mem_of_getElem? (i := 159) rfl)
theorem qw640 : (Jvm.Cond.code ({ cls := "AssertionGate", name := "paste", desc := "(I)Z" } : Jvm.MethodName) prog_1_method_19_code (2 : Nat) (Option.some Jvm.ClassFile.FieldType.boolean)) ∈ lw_tbl := qt3 _ (List.mem_of_getElem? (i := 160) rfl)
theorem qw641 : (Jvm.Cond.methodLink "AssertionGate" (224 : Nat) ({ cls := "AssertionGate$Page", name := "copyIn", desc := "(ILAssertionGate$Page;)V" } : Jvm.MethodName)) ∈ lw_tbl := qt3 _ (List.mem_of_getElem? (i := 161) rfl)
theorem qw642 : (Jvm.Cond.instanceMethod ({ cls := "AssertionGate$Page", name := "copyIn", desc := "(ILAssertionGate$Page;)V" } : Jvm.MethodName)) ∈ lw_tbl := qt3 _ (List.mem_of_getElem? (i := 162) rfl)
theorem qw643 : (Jvm.Cond.selects "AssertionGate$Page" ({ cls := "AssertionGate$Page", name := "copyIn", desc := "(ILAssertionGate$Page;)V" } : Jvm.MethodName) ({ cls := "AssertionGate$Page", name := "copyIn", desc := "(ILAssertionGate$Page;)V" } : Jvm.MethodName)) ∈ lw_tbl := qt3 _ (List.mem_of_getElem? (i := 163) rfl)
theorem qw644 : (Jvm.Cond.code ({ cls := "AssertionGate$Page", name := "copyIn", desc := "(ILAssertionGate$Page;)V" } : Jvm.MethodName) prog_7_method_8_code (3 : Nat) (Option.none : Option Jvm.ClassFile.FieldType)) ∈ lw_tbl := qt3 _ (List.mem_of_getElem? (i := 164) rfl)
theorem qw645 : (Jvm.Cond.methodLink "AssertionGateLaw" (68 : Nat) ({ cls := "AssertionGate", name := "clear", desc := "()V" } : Jvm.MethodName)) ∈ lw_tbl := qt3 _ (List.mem_of_getElem? (i := 165) rfl)
theorem qw646 : (Jvm.Cond.instanceMethod ({ cls := "AssertionGate", name := "clear", desc := "()V" } : Jvm.MethodName)) ∈ lw_tbl := qt3 _ (List.mem_of_getElem? (i := 166) rfl)
theorem qw647 : (Jvm.Cond.selects "AssertionGate" ({ cls := "AssertionGate", name := "clear", desc := "()V" } : Jvm.MethodName) ({ cls := "AssertionGate", name := "clear", desc := "()V" } : Jvm.MethodName)) ∈ lw_tbl := qt3 _ (List.mem_of_getElem? (i := 167) rfl)
theorem qw648 : (Jvm.Cond.code ({ cls := "AssertionGate", name := "clear", desc := "()V" } : Jvm.MethodName) prog_1_method_20_code (1 : Nat) (Option.none : Option Jvm.ClassFile.FieldType)) ∈ lw_tbl := qt3 _ (List.mem_of_getElem? (i := 168) rfl)
theorem qw649 : (Jvm.Cond.methodLink "AssertionGateLaw" (72 : Nat) ({ cls := "AssertionGate", name := "length", desc := "()I" } : Jvm.MethodName)) ∈ lw_tbl := qt3 _ (List.mem_of_getElem? (i := 169) rfl)
theorem qw650 : (Jvm.Cond.instanceMethod ({ cls := "AssertionGate", name := "length", desc := "()I" } : Jvm.MethodName)) ∈ lw_tbl := qt3 _ (List.mem_of_getElem? (i := 170) rfl)
theorem qw651 : (Jvm.Cond.selects "AssertionGate" ({ cls := "AssertionGate", name := "length", desc := "()I" } : Jvm.MethodName) ({ cls := "AssertionGate", name := "length", desc := "()I" } : Jvm.MethodName)) ∈ lw_tbl := qt3 _ (List.mem_of_getElem? (i := 171) rfl)
theorem qw652 : (Jvm.Cond.code ({ cls := "AssertionGate", name := "length", desc := "()I" } : Jvm.MethodName) prog_1_method_21_code (1 : Nat) (Option.some Jvm.ClassFile.FieldType.int)) ∈ lw_tbl := qt3 _ (List.mem_of_getElem? (i := 172) rfl)
theorem qw653 : (Jvm.Cond.methodLink "AssertionGateLaw" (77 : Nat) ({ cls := "AssertionGate", name := "at", desc := "(I)I" } : Jvm.MethodName)) ∈ lw_tbl := qt3 _ (List.mem_of_getElem? (i := 173) rfl)
theorem qw654 : (Jvm.Cond.instanceMethod ({ cls := "AssertionGate", name := "at", desc := "(I)I" } : Jvm.MethodName)) ∈ lw_tbl := qt3 _ (List.mem_of_getElem? (i := 174) rfl)
theorem qw655 : (Jvm.Cond.selects "AssertionGate" ({ cls := "AssertionGate", name := "at", desc := "(I)I" } : Jvm.MethodName) ({ cls := "AssertionGate", name := "at", desc := "(I)I" } : Jvm.MethodName)) ∈ lw_tbl := qt3 _ (List.mem_of_getElem? (i := 175) rfl)
theorem qw656 : (Jvm.Cond.code ({ cls := "AssertionGate", name := "at", desc := "(I)I" } : Jvm.MethodName) prog_1_method_22_code (2 : Nat) (Option.some Jvm.ClassFile.FieldType.int)) ∈ lw_tbl := qt3 _ (List.mem_of_getElem? (i := 176) rfl)
theorem qw657 : (Jvm.Cond.methodLink "AssertionGate" (228 : Nat) ({ cls := "AssertionGate$Page", name := "codeAt", desc := "(I)I" } : Jvm.MethodName)) ∈ lw_tbl := qt3 _ (List.mem_of_getElem? (i := 177) rfl)
theorem qw658 : (Jvm.Cond.methodLink "AssertionGateLaw" (81 : Nat) ({ cls := "AssertionGate", name := "elements", desc := "()I" } : Jvm.MethodName)) ∈ lw_tbl := qt3 _ (List.mem_of_getElem? (i := 178) rfl)
theorem qw659 : (Jvm.Cond.instanceMethod ({ cls := "AssertionGate", name := "elements", desc := "()I" } : Jvm.MethodName)) ∈ lw_tbl := qt3 _ (List.mem_of_getElem? (i := 179) rfl)
theorem qw660 : (Jvm.Cond.selects "AssertionGate" ({ cls := "AssertionGate", name := "elements", desc := "()I" } : Jvm.MethodName) ({ cls := "AssertionGate", name := "elements", desc := "()I" } : Jvm.MethodName)) ∈ lw_tbl := qt3 _ (List.mem_of_getElem? (i := 180) rfl)
theorem qw661 : (Jvm.Cond.code ({ cls := "AssertionGate", name := "elements", desc := "()I" } : Jvm.MethodName) prog_1_method_23_code (1 : Nat) (Option.some Jvm.ClassFile.FieldType.int)) ∈ lw_tbl := qt3 _ (List.mem_of_getElem? (i := 181) rfl)
theorem qw662 : (Jvm.Cond.methodLink "AssertionGateLaw" (85 : Nat) ({ cls := "AssertionGate", name := "digest", desc := "(I)I" } : Jvm.MethodName)) ∈ lw_tbl := qt3 _ (List.mem_of_getElem? (i := 182) rfl)
theorem qw663 : (Jvm.Cond.instanceMethod ({ cls := "AssertionGate", name := "digest", desc := "(I)I" } : Jvm.MethodName)) ∈ lw_tbl := qt3 _ (List.mem_of_getElem? (i := 183) rfl)
theorem qw664 : (Jvm.Cond.selects "AssertionGate" ({ cls := "AssertionGate", name := "digest", desc := "(I)I" } : Jvm.MethodName) ({ cls := "AssertionGate", name := "digest", desc := "(I)I" } : Jvm.MethodName)) ∈ lw_tbl := qt3 _ (List.mem_of_getElem? (i := 184) rfl)
theorem qw665 : (Jvm.Cond.code ({ cls := "AssertionGate", name := "digest", desc := "(I)I" } : Jvm.MethodName) prog_1_method_24_code (2 : Nat) (Option.some Jvm.ClassFile.FieldType.int)) ∈ lw_tbl := qt3 _ (List.mem_of_getElem? (i := 185) rfl)
theorem qw666 : (Jvm.Cond.methodLink "AssertionGateLaw" (89 : Nat) ({ cls := "AssertionGate", name := "seal", desc := "(II)I" } : Jvm.MethodName)) ∈ lw_tbl := qt3 _ (List.mem_of_getElem? (i := 186) rfl)
theorem qw667 : (Jvm.Cond.instanceMethod ({ cls := "AssertionGate", name := "seal", desc := "(II)I" } : Jvm.MethodName)) ∈ lw_tbl := qt3 _ (List.mem_of_getElem? (i := 187) rfl)
theorem qw668 : (Jvm.Cond.selects "AssertionGate" ({ cls := "AssertionGate", name := "seal", desc := "(II)I" } : Jvm.MethodName) ({ cls := "AssertionGate", name := "seal", desc := "(II)I" } : Jvm.MethodName)) ∈ lw_tbl := qt3 _ (List.mem_of_getElem? (i := 188) rfl)
theorem qw669 : (Jvm.Cond.code ({ cls := "AssertionGate", name := "seal", desc := "(II)I" } : Jvm.MethodName) prog_1_method_25_code (3 : Nat) (Option.some Jvm.ClassFile.FieldType.int)) ∈ lw_tbl := qt3 _ (List.mem_of_getElem? (i := 189) rfl)
theorem qw670 : (Jvm.Cond.methodLink "AssertionGateLaw" (94 : Nat) ({ cls := "AssertionGate", name := "consume", desc := "()I" } : Jvm.MethodName)) ∈ lw_tbl := qt3 _ (List.mem_of_getElem? (i := 190) rfl)
theorem qw671 : (Jvm.Cond.instanceMethod ({ cls := "AssertionGate", name := "consume", desc := "()I" } : Jvm.MethodName)) ∈ lw_tbl := qt3 _ (List.mem_of_getElem? (i := 191) rfl)
theorem qw672 : (Jvm.Cond.selects "AssertionGate" ({ cls := "AssertionGate", name := "consume", desc := "()I" } : Jvm.MethodName) ({ cls := "AssertionGate", name := "consume", desc := "()I" } : Jvm.MethodName)) ∈ lw_tbl := qt3 _ (List.mem_of_getElem? (i := 192) rfl)
theorem qw673 : (Jvm.Cond.code ({ cls := "AssertionGate", name := "consume", desc := "()I" } : Jvm.MethodName) prog_1_method_27_code (2 : Nat) (Option.some Jvm.ClassFile.FieldType.int)) ∈ lw_tbl := qt3 _ (List.mem_of_getElem? (i := 193) rfl)
theorem qw674 : (Jvm.Cond.methodLink "AssertionGate" (242 : Nat) ({ cls := "AssertionGate$Message", name := "repeatsAnId", desc := "()Z" } : Jvm.MethodName)) ∈ lw_tbl := qt3 _ (List.mem_of_getElem? (i := 194) rfl)
theorem qw675 : (Jvm.Cond.instanceMethod ({ cls := "AssertionGate$Message", name := "repeatsAnId", desc := "()Z" } : Jvm.MethodName)) ∈ lw_tbl := qt3 _ (List.mem_of_getElem? (i := 195) rfl)
theorem qw676 : (Jvm.Cond.selects "AssertionGate$Message" ({ cls := "AssertionGate$Message", name := "repeatsAnId", desc := "()Z" } : Jvm.MethodName) ({ cls := "AssertionGate$Message", name := "repeatsAnId", desc := "()Z" } : Jvm.MethodName)) ∈ lw_tbl := qt3 _ (List.mem_of_getElem? (i := 196) rfl)
theorem qw677 : (Jvm.Cond.code ({ cls := "AssertionGate$Message", name := "repeatsAnId", desc := "()Z" } : Jvm.MethodName) prog_6_method_24_code (4 : Nat) (Option.some Jvm.ClassFile.FieldType.boolean)) ∈ lw_tbl := qt3 _ (List.mem_of_getElem? (i := 197) rfl)
theorem qw679 : (Jvm.Cond.methodLink "AssertionGate$Message" (85 : Nat) ({ cls := "AssertionGate$Message", name := "slotOf", desc := "(ILjava/lang/String;)I" } : Jvm.MethodName)) ∈ lw_tbl := qt3 _ (List.mem_of_getElem? (i := 199) rfl)
theorem qw680 : (Jvm.Cond.instanceMethod ({ cls := "AssertionGate$Message", name := "slotOf", desc := "(ILjava/lang/String;)I" } : Jvm.MethodName)) ∈ lw_tbl := qt3 _ (List.mem_of_getElem? (i := 200) rfl)
theorem qw681 : (Jvm.Cond.selects "AssertionGate$Message" ({ cls := "AssertionGate$Message", name := "slotOf", desc := "(ILjava/lang/String;)I" } : Jvm.MethodName) ({ cls := "AssertionGate$Message", name := "slotOf", desc := "(ILjava/lang/String;)I" } : Jvm.MethodName)) ∈ lw_tbl := qt3 _ (List.mem_of_getElem? (i := 201) rfl)
theorem qw682 : (Jvm.Cond.code ({ cls := "AssertionGate$Message", name := "slotOf", desc := "(ILjava/lang/String;)I" } : Jvm.MethodName) prog_6_method_14_code (5 : Nat) (Option.some Jvm.ClassFile.FieldType.int)) ∈ lw_tbl := qt3 _ (List.mem_of_getElem? (i := 202) rfl)
theorem qw683 : (Jvm.Cond.methodLink "AssertionGate$Message" (94 : Nat) ({ cls := "AssertionGate$Message", name := "sameText", desc := "(II)Z" } : Jvm.MethodName)) ∈ lw_tbl := qt3 _ (List.mem_of_getElem? (i := 203) rfl)
theorem qw684 : (Jvm.Cond.instanceMethod ({ cls := "AssertionGate$Message", name := "sameText", desc := "(II)Z" } : Jvm.MethodName)) ∈ lw_tbl := qt3 _ (List.mem_of_getElem? (i := 204) rfl)
theorem qw685 : (Jvm.Cond.selects "AssertionGate$Message" ({ cls := "AssertionGate$Message", name := "sameText", desc := "(II)Z" } : Jvm.MethodName) ({ cls := "AssertionGate$Message", name := "sameText", desc := "(II)Z" } : Jvm.MethodName)) ∈ lw_tbl := qt3 _ (List.mem_of_getElem? (i := 205) rfl)
theorem qw686 : (Jvm.Cond.code ({ cls := "AssertionGate$Message", name := "sameText", desc := "(II)Z" } : Jvm.MethodName) prog_6_method_19_code (3 : Nat) (Option.some Jvm.ClassFile.FieldType.boolean)) ∈ lw_tbl := qt3 _ (List.mem_of_getElem? (i := 206) rfl)
theorem qw687 : (Jvm.Cond.methodLink "AssertionGate$Message" (88 : Nat) ({ cls := "AssertionGate$Message", name := "valueFrom", desc := "(I)I" } : Jvm.MethodName)) ∈ lw_tbl := qt3 _ (List.mem_of_getElem? (i := 207) rfl)
theorem qw688 : (Jvm.Cond.instanceMethod ({ cls := "AssertionGate$Message", name := "valueFrom", desc := "(I)I" } : Jvm.MethodName)) ∈ lw_tbl := qt3 _ (List.mem_of_getElem? (i := 208) rfl)
theorem qw689 : (Jvm.Cond.selects "AssertionGate$Message" ({ cls := "AssertionGate$Message", name := "valueFrom", desc := "(I)I" } : Jvm.MethodName) ({ cls := "AssertionGate$Message", name := "valueFrom", desc := "(I)I" } : Jvm.MethodName)) ∈ lw_tbl := qt3 _ (List.mem_of_getElem? (i := 209) rfl)
theorem qw690 : (Jvm.Cond.code ({ cls := "AssertionGate$Message", name := "valueFrom", desc := "(I)I" } : Jvm.MethodName) prog_6_method_16_code (2 : Nat) (Option.some Jvm.ClassFile.FieldType.int)) ∈ lw_tbl := qt3 _ (List.mem_of_getElem? (i := 210) rfl)
theorem qw691 : (Jvm.Cond.methodLink "AssertionGate$Message" (91 : Nat) ({ cls := "AssertionGate$Message", name := "valueTo", desc := "(I)I" } : Jvm.MethodName)) ∈ lw_tbl := qt3 _ (List.mem_of_getElem? (i := 211) rfl)
theorem qw692 : (Jvm.Cond.instanceMethod ({ cls := "AssertionGate$Message", name := "valueTo", desc := "(I)I" } : Jvm.MethodName)) ∈ lw_tbl := qt3 _ (List.mem_of_getElem? (i := 212) rfl)
theorem qw693 : (Jvm.Cond.selects "AssertionGate$Message" ({ cls := "AssertionGate$Message", name := "valueTo", desc := "(I)I" } : Jvm.MethodName) ({ cls := "AssertionGate$Message", name := "valueTo", desc := "(I)I" } : Jvm.MethodName)) ∈ lw_tbl := qt3 _ (List.mem_of_getElem? (i := 213) rfl)
theorem qw694 : (Jvm.Cond.code ({ cls := "AssertionGate$Message", name := "valueTo", desc := "(I)I" } : Jvm.MethodName) prog_6_method_17_code (2 : Nat) (Option.some Jvm.ClassFile.FieldType.int)) ∈ lw_tbl := qt3 _ (List.mem_of_getElem? (i := 214) rfl)
theorem qw695 : (Jvm.Cond.methodLink "AssertionGate" (246 : Nat) ({ cls := "AssertionGate$Response", name := "isFound", desc := "()Z" } : Jvm.MethodName)) ∈ lw_tbl := qt3 _ (List.mem_of_getElem? (i := 215) rfl)
theorem qw696 : (Jvm.Cond.instanceMethod ({ cls := "AssertionGate$Response", name := "isFound", desc := "()Z" } : Jvm.MethodName)) ∈ lw_tbl := qt3 _ (List.mem_of_getElem? (i := 216) rfl)
theorem qw697 : (Jvm.Cond.selects "AssertionGate$Response" ({ cls := "AssertionGate$Response", name := "isFound", desc := "()Z" } : Jvm.MethodName) ({ cls := "AssertionGate$Response", name := "isFound", desc := "()Z" } : Jvm.MethodName)) ∈ lw_tbl := qt3 _ (List.mem_of_getElem? (i := 217) rfl)
theorem qw698 : (Jvm.Cond.code ({ cls := "AssertionGate$Response", name := "isFound", desc := "()Z" } : Jvm.MethodName) prog_10_method_2_code (1 : Nat) (Option.some Jvm.ClassFile.FieldType.boolean)) ∈ lw_tbl := qt3 _ (List.mem_of_getElem? (i := 218) rfl)
theorem qw699 : (Jvm.Cond.methodLink "AssertionGate$Response" (15 : Nat) ({ cls := "AssertionGate$Response", name := "findParts", desc := "()V" } : Jvm.MethodName)) ∈ lw_tbl := qt3 _ (List.mem_of_getElem? (i := 219) rfl)
theorem qw701 : (Jvm.Cond.instanceMethod ({ cls := "AssertionGate$Response", name := "findParts", desc := "()V" } : Jvm.MethodName)) ∈ lw_tbl := qt3 _ (List.mem_of_getElem? (i := 221) rfl)
theorem qw702 : (Jvm.Cond.code ({ cls := "AssertionGate$Response", name := "findParts", desc := "()V" } : Jvm.MethodName) prog_10_method_3_code (1 : Nat) (Option.none : Option Jvm.ClassFile.FieldType)) ∈ lw_tbl := qt3 _ (List.mem_of_getElem? (i := 222) rfl)
theorem qw704 : (Jvm.Cond.methodLink "AssertionGate$Response" (38 : Nat) ({ cls := "AssertionGate$Message", name := "onlyChild", desc := "(ILjava/lang/String;)I" } : Jvm.MethodName)) ∈ lw_tbl := qt3 _ (List.mem_of_getElem? (i := 224) rfl)
theorem qw705 : (Jvm.Cond.instanceMethod ({ cls := "AssertionGate$Message", name := "onlyChild", desc := "(ILjava/lang/String;)I" } : Jvm.MethodName)) ∈ lw_tbl := qt3 _ (List.mem_of_getElem? (i := 225) rfl)
theorem qw706 : (Jvm.Cond.selects "AssertionGate$Message" ({ cls := "AssertionGate$Message", name := "onlyChild", desc := "(ILjava/lang/String;)I" } : Jvm.MethodName) ({ cls := "AssertionGate$Message", name := "onlyChild", desc := "(ILjava/lang/String;)I" } : Jvm.MethodName)) ∈ lw_tbl := qt3 _ (List.mem_of_getElem? (i := 226) rfl)
theorem qw707 : (Jvm.Cond.code ({ cls := "AssertionGate$Message", name := "onlyChild", desc := "(ILjava/lang/String;)I" } : Jvm.MethodName) prog_6_method_8_code (3 : Nat) (Option.some Jvm.ClassFile.FieldType.int)) ∈ lw_tbl := qt3 _ (List.mem_of_getElem? (i := 227) rfl)
theorem qw708 : (Jvm.Cond.methodLink "AssertionGate$Message" (68 : Nat) ({ cls := "AssertionGate$Message", name := "childCount", desc := "(ILjava/lang/String;)I" } : Jvm.MethodName)) ∈ lw_tbl := qt3 _ (List.mem_of_getElem? (i := 228) rfl)
theorem qw709 : (Jvm.Cond.instanceMethod ({ cls := "AssertionGate$Message", name := "childCount", desc := "(ILjava/lang/String;)I" } : Jvm.MethodName)) ∈ lw_tbl := qt3 _ (List.mem_of_getElem? (i := 229) rfl)
theorem qw710 : (Jvm.Cond.selects "AssertionGate$Message" ({ cls := "AssertionGate$Message", name := "childCount", desc := "(ILjava/lang/String;)I" } : Jvm.MethodName) ({ cls := "AssertionGate$Message", name := "childCount", desc := "(ILjava/lang/String;)I" } : Jvm.MethodName)) ∈ lw_tbl := qt3 _ (List.mem_of_getElem? (i := 230) rfl)
theorem qw711 : (Jvm.Cond.code ({ cls := "AssertionGate$Message", name := "childCount", desc := "(ILjava/lang/String;)I" } : Jvm.MethodName) prog_6_method_6_code (5 : Nat) (Option.some Jvm.ClassFile.FieldType.int)) ∈ lw_tbl := qt3 _ (List.mem_of_getElem? (i := 231) rfl)
theorem qw712 : (Jvm.Cond.methodLink "AssertionGate$Message" (64 : Nat) ({ cls := "AssertionGate$Message", name := "isNamed", desc := "(ILjava/lang/String;)Z" } : Jvm.MethodName)) ∈ lw_tbl := qt3 _ (List.mem_of_getElem? (i := 232) rfl)
theorem qw713 : (Jvm.Cond.methodLink "AssertionGate$Message" (72 : Nat) ({ cls := "AssertionGate$Message", name := "lastChild", desc := "(ILjava/lang/String;)I" } : Jvm.MethodName)) ∈ lw_tbl := qt3 _ (List.mem_of_getElem? (i := 233) rfl)
theorem qw714 : (Jvm.Cond.instanceMethod ({ cls := "AssertionGate$Message", name := "lastChild", desc := "(ILjava/lang/String;)I" } : Jvm.MethodName)) ∈ lw_tbl := qt3 _ (List.mem_of_getElem? (i := 234) rfl)
theorem qw715 : (Jvm.Cond.selects "AssertionGate$Message" ({ cls := "AssertionGate$Message", name := "lastChild", desc := "(ILjava/lang/String;)I" } : Jvm.MethodName) ({ cls := "AssertionGate$Message", name := "lastChild", desc := "(ILjava/lang/String;)I" } : Jvm.MethodName)) ∈ lw_tbl := qt3 _ (List.mem_of_getElem? (i := 235) rfl)
theorem qw716 : (Jvm.Cond.code ({ cls := "AssertionGate$Message", name := "lastChild", desc := "(ILjava/lang/String;)I" } : Jvm.MethodName) prog_6_method_7_code (4 : Nat) (Option.some Jvm.ClassFile.FieldType.int)) ∈ lw_tbl := qt3 _ (List.mem_of_getElem? (i := 236) rfl)
theorem qw720 : (Jvm.Cond.methodLink "AssertionGate$Response" (55 : Nat) ({ cls := "AssertionGate$Message", name := "lastChild", desc := "(ILjava/lang/String;)I" } : Jvm.MethodName)) ∈ lw_tbl := qt4 _ (List.mem_of_getElem? (i := 0) rfl)
theorem qw726 : (Jvm.Cond.methodLink "AssertionGate$Response" (20 : Nat) ({ cls := "AssertionGate$Message", name := "isNamed", desc := "(ILjava/lang/String;)Z" } : Jvm.MethodName)) ∈ lw_tbl := qt4 _ (List.mem_of_getElem? (i := 6) rfl)
theorem qw727 : (Jvm.Cond.methodLink "AssertionGate$Response" (26 : Nat) ({ cls := "AssertionGate$Response", name := "isHeadSound", desc := "()Z" } : Jvm.MethodName)) ∈ lw_tbl := qt4 _ (List.mem_of_getElem? (i := 7) rfl)
theorem qw729 : (Jvm.Cond.instanceMethod ({ cls := "AssertionGate$Response", name := "isHeadSound", desc := "()Z" } : Jvm.MethodName)) ∈ lw_tbl := qt4 _ (List.mem_of_getElem? (i := 9) rfl)
theorem qw730 : (Jvm.Cond.code ({ cls := "AssertionGate$Response", name := "isHeadSound", desc := "()Z" } : Jvm.MethodName) prog_10_method_4_code (1 : Nat) (Option.some Jvm.ClassFile.FieldType.boolean)) ∈ lw_tbl := qt4 _ (List.mem_of_getElem? (i := 10) rfl)
theorem qw732 : (Jvm.Cond.methodLink "AssertionGate$Response" (84 : Nat) ({ cls := "AssertionGate$Message", name := "hasKey", desc := "(ILjava/lang/String;)Z" } : Jvm.MethodName)) ∈ lw_tbl := qt4 _ (List.mem_of_getElem? (i := 12) rfl)
theorem qw733 : (Jvm.Cond.instanceMethod ({ cls := "AssertionGate$Message", name := "hasKey", desc := "(ILjava/lang/String;)Z" } : Jvm.MethodName)) ∈ lw_tbl := qt4 _ (List.mem_of_getElem? (i := 13) rfl)
theorem qw734 : (Jvm.Cond.selects "AssertionGate$Message" ({ cls := "AssertionGate$Message", name := "hasKey", desc := "(ILjava/lang/String;)Z" } : Jvm.MethodName) ({ cls := "AssertionGate$Message", name := "hasKey", desc := "(ILjava/lang/String;)Z" } : Jvm.MethodName)) ∈ lw_tbl := qt4 _ (List.mem_of_getElem? (i := 14) rfl)
theorem qw735 : (Jvm.Cond.code ({ cls := "AssertionGate$Message", name := "hasKey", desc := "(ILjava/lang/String;)Z" } : Jvm.MethodName) prog_6_method_21_code (5 : Nat) (Option.some Jvm.ClassFile.FieldType.boolean)) ∈ lw_tbl := qt4 _ (List.mem_of_getElem? (i := 15) rfl)
theorem qw737 : (Jvm.Cond.methodLink "AssertionGate$Response" (89 : Nat) ({ cls := "AssertionGate$Message", name := "has", desc := "(ILjava/lang/String;)Z" } : Jvm.MethodName)) ∈ lw_tbl := qt4 _ (List.mem_of_getElem? (i := 17) rfl)
theorem qw738 : (Jvm.Cond.instanceMethod ({ cls := "AssertionGate$Message", name := "has", desc := "(ILjava/lang/String;)Z" } : Jvm.MethodName)) ∈ lw_tbl := qt4 _ (List.mem_of_getElem? (i := 18) rfl)
theorem qw739 : (Jvm.Cond.selects "AssertionGate$Message" ({ cls := "AssertionGate$Message", name := "has", desc := "(ILjava/lang/String;)Z" } : Jvm.MethodName) ({ cls := "AssertionGate$Message", name := "has", desc := "(ILjava/lang/String;)Z" } : Jvm.MethodName)) ∈ lw_tbl := qt4 _ (List.mem_of_getElem? (i := 19) rfl)
theorem qw740 : (Jvm.Cond.code ({ cls := "AssertionGate$Message", name := "has", desc := "(ILjava/lang/String;)Z" } : Jvm.MethodName) prog_6_method_15_code (3 : Nat) (Option.some Jvm.ClassFile.FieldType.boolean)) ∈ lw_tbl := qt4 _ (List.mem_of_getElem? (i := 20) rfl)
theorem qw742 : (Jvm.Cond.methodLink "AssertionGate$Response" (94 : Nat) ({ cls := "AssertionGate$Message", name := "hasWord", desc := "(I)Z" } : Jvm.MethodName)) ∈ lw_tbl := qt4 _ (List.mem_of_getElem? (i := 22) rfl)
theorem qw743 : (Jvm.Cond.instanceMethod ({ cls := "AssertionGate$Message", name := "hasWord", desc := "(I)Z" } : Jvm.MethodName)) ∈ lw_tbl := qt4 _ (List.mem_of_getElem? (i := 23) rfl)
theorem qw744 : (Jvm.Cond.selects "AssertionGate$Message" ({ cls := "AssertionGate$Message", name := "hasWord", desc := "(I)Z" } : Jvm.MethodName) ({ cls := "AssertionGate$Message", name := "hasWord", desc := "(I)Z" } : Jvm.MethodName)) ∈ lw_tbl := qt4 _ (List.mem_of_getElem? (i := 24) rfl)
theorem qw745 : (Jvm.Cond.code ({ cls := "AssertionGate$Message", name := "hasWord", desc := "(I)Z" } : Jvm.MethodName) prog_6_method_11_code (5 : Nat) (Option.some Jvm.ClassFile.FieldType.boolean)) ∈ lw_tbl := qt4 _ (List.mem_of_getElem? (i := 25) rfl)
theorem qw746 : (Jvm.Cond.methodLink "AssertionGate$Message" (75 : Nat) ({ cls := "AssertionGate$Message", name := "bodyFrom", desc := "(I)I" } : Jvm.MethodName)) ∈ lw_tbl := qt4 _ (List.mem_of_getElem? (i := 26) rfl)
theorem qw747 : (Jvm.Cond.instanceMethod ({ cls := "AssertionGate$Message", name := "bodyFrom", desc := "(I)I" } : Jvm.MethodName)) ∈ lw_tbl := qt4 _ (List.mem_of_getElem? (i := 27) rfl)
theorem qw748 : (Jvm.Cond.selects "AssertionGate$Message" ({ cls := "AssertionGate$Message", name := "bodyFrom", desc := "(I)I" } : Jvm.MethodName) ({ cls := "AssertionGate$Message", name := "bodyFrom", desc := "(I)I" } : Jvm.MethodName)) ∈ lw_tbl := qt4 _ (List.mem_of_getElem? (i := 28) rfl)
theorem qw749 : (Jvm.Cond.code ({ cls := "AssertionGate$Message", name := "bodyFrom", desc := "(I)I" } : Jvm.MethodName) prog_6_method_9_code (2 : Nat) (Option.some Jvm.ClassFile.FieldType.int)) ∈ lw_tbl := qt4 _ (List.mem_of_getElem? (i := 29) rfl)
theorem qw750 : (Jvm.Cond.methodLink "AssertionGate$Message" (79 : Nat) ({ cls := "AssertionGate$Message", name := "bodyTo", desc := "(I)I" } : Jvm.MethodName)) ∈ lw_tbl := qt4 _ (List.mem_of_getElem? (i := 30) rfl)
theorem qw751 : (Jvm.Cond.instanceMethod ({ cls := "AssertionGate$Message", name := "bodyTo", desc := "(I)I" } : Jvm.MethodName)) ∈ lw_tbl := qt4 _ (List.mem_of_getElem? (i := 31) rfl)
theorem qw752 : (Jvm.Cond.selects "AssertionGate$Message" ({ cls := "AssertionGate$Message", name := "bodyTo", desc := "(I)I" } : Jvm.MethodName) ({ cls := "AssertionGate$Message", name := "bodyTo", desc := "(I)I" } : Jvm.MethodName)) ∈ lw_tbl := qt4 _ (List.mem_of_getElem? (i := 32) rfl)
theorem qw753 : (Jvm.Cond.code ({ cls := "AssertionGate$Message", name := "bodyTo", desc := "(I)I" } : Jvm.MethodName) prog_6_method_10_code (2 : Nat) (Option.some Jvm.ClassFile.FieldType.int)) ∈ lw_tbl := qt4 _ (List.mem_of_getElem? (i := 33) rfl)
theorem qw754 : (Jvm.Cond.methodLink "AssertionGate$Message" (82 : Nat) ({ cls := "AssertionGate$Page", name := "codeAt", desc := "(I)I" } : Jvm.MethodName)) ∈ lw_tbl := qt4 _ (List.mem_of_getElem? (i := 34) rfl)
theorem qw755 : (Jvm.Cond.methodLink "AssertionGate$Response" (98 : Nat) ({ cls := "AssertionGate$Message", name := "hasSoundSigs", desc := "(I)Z" } : Jvm.MethodName)) ∈ lw_tbl := qt4 _ (List.mem_of_getElem? (i := 35) rfl)
theorem qw756 : (Jvm.Cond.instanceMethod ({ cls := "AssertionGate$Message", name := "hasSoundSigs", desc := "(I)Z" } : Jvm.MethodName)) ∈ lw_tbl := qt4 _ (List.mem_of_getElem? (i := 36) rfl)
theorem qw757 : (Jvm.Cond.selects "AssertionGate$Message" ({ cls := "AssertionGate$Message", name := "hasSoundSigs", desc := "(I)Z" } : Jvm.MethodName) ({ cls := "AssertionGate$Message", name := "hasSoundSigs", desc := "(I)Z" } : Jvm.MethodName)) ∈ lw_tbl := qt4 _ (List.mem_of_getElem? (i := 37) rfl)
theorem qw758 : (Jvm.Cond.code ({ cls := "AssertionGate$Message", name := "hasSoundSigs", desc := "(I)Z" } : Jvm.MethodName) prog_6_method_25_code (4 : Nat) (Option.some Jvm.ClassFile.FieldType.boolean)) ∈ lw_tbl := qt4 _ (List.mem_of_getElem? (i := 38) rfl)
theorem qw761 : (Jvm.Cond.methodLink "AssertionGate$Message" (107 : Nat) ({ cls := "AssertionGate$Message", name := "has", desc := "(ILjava/lang/String;)Z" } : Jvm.MethodName)) ∈ lw_tbl := qt4 _ (List.mem_of_getElem? (i := 41) rfl)
theorem qw763 : (Jvm.Cond.methodLink "AssertionGate$Message" (98 : Nat) ({ cls := "AssertionGate$Message", name := "number", desc := "(ILjava/lang/String;)I" } : Jvm.MethodName)) ∈ lw_tbl := qt4 _ (List.mem_of_getElem? (i := 43) rfl)
theorem qw764 : (Jvm.Cond.instanceMethod ({ cls := "AssertionGate$Message", name := "number", desc := "(ILjava/lang/String;)I" } : Jvm.MethodName)) ∈ lw_tbl := qt4 _ (List.mem_of_getElem? (i := 44) rfl)
theorem qw765 : (Jvm.Cond.selects "AssertionGate$Message" ({ cls := "AssertionGate$Message", name := "number", desc := "(ILjava/lang/String;)I" } : Jvm.MethodName) ({ cls := "AssertionGate$Message", name := "number", desc := "(ILjava/lang/String;)I" } : Jvm.MethodName)) ∈ lw_tbl := qt4 _ (List.mem_of_getElem? (i := 45) rfl)
theorem qw766 : (Jvm.Cond.code ({ cls := "AssertionGate$Message", name := "number", desc := "(ILjava/lang/String;)I" } : Jvm.MethodName) prog_6_method_23_code (9 : Nat) (Option.some Jvm.ClassFile.FieldType.int)) ∈ lw_tbl := qt4 _ (List.mem_of_getElem? (i := 46) rfl)
theorem qw767 : (Jvm.Cond.methodLink "AssertionGate$Response" (30 : Nat) ({ cls := "AssertionGate$Response", name := "isAssnSound", desc := "()Z" } : Jvm.MethodName)) ∈ lw_tbl := qt4 _ (List.mem_of_getElem? (i := 47) rfl)
theorem qw769 : (Jvm.Cond.instanceMethod ({ cls := "AssertionGate$Response", name := "isAssnSound", desc := "()Z" } : Jvm.MethodName)) ∈ lw_tbl := qt4 _ (List.mem_of_getElem? (i := 49) rfl)
theorem qw770 : (Jvm.Cond.code ({ cls := "AssertionGate$Response", name := "isAssnSound", desc := "()Z" } : Jvm.MethodName) prog_10_method_5_code (1 : Nat) (Option.some Jvm.ClassFile.FieldType.boolean)) ∈ lw_tbl := qt4 _ (List.mem_of_getElem? (i := 50) rfl)
theorem qw773 : (Jvm.Cond.methodLink "AssertionGate$Response" (105 : Nat) ({ cls := "AssertionGate$Message", name := "hasNumber", desc := "(ILjava/lang/String;)Z" } : Jvm.MethodName)) ∈ lw_tbl := qt4 _ (List.mem_of_getElem? (i := 53) rfl)
theorem qw774 : (Jvm.Cond.instanceMethod ({ cls := "AssertionGate$Message", name := "hasNumber", desc := "(ILjava/lang/String;)Z" } : Jvm.MethodName)) ∈ lw_tbl := qt4 _ (List.mem_of_getElem? (i := 54) rfl)
theorem qw775 : (Jvm.Cond.selects "AssertionGate$Message" ({ cls := "AssertionGate$Message", name := "hasNumber", desc := "(ILjava/lang/String;)Z" } : Jvm.MethodName) ({ cls := "AssertionGate$Message", name := "hasNumber", desc := "(ILjava/lang/String;)Z" } : Jvm.MethodName)) ∈ lw_tbl := qt4 _ (List.mem_of_getElem? (i := 55) rfl)
theorem qw776 : (Jvm.Cond.code ({ cls := "AssertionGate$Message", name := "hasNumber", desc := "(ILjava/lang/String;)Z" } : Jvm.MethodName) prog_6_method_22_code (3 : Nat) (Option.some Jvm.ClassFile.FieldType.boolean)) ∈ lw_tbl := qt4 _ (List.mem_of_getElem? (i := 56) rfl)
theorem qw778 : (Jvm.Cond.methodLink "AssertionGate$Response" (33 : Nat) ({ cls := "AssertionGate$Response", name := "isSubjSound", desc := "()Z" } : Jvm.MethodName)) ∈ lw_tbl := qt4 _ (List.mem_of_getElem? (i := 58) rfl)
theorem qw780 : (Jvm.Cond.instanceMethod ({ cls := "AssertionGate$Response", name := "isSubjSound", desc := "()Z" } : Jvm.MethodName)) ∈ lw_tbl := qt4 _ (List.mem_of_getElem? (i := 60) rfl)
theorem qw781 : (Jvm.Cond.code ({ cls := "AssertionGate$Response", name := "isSubjSound", desc := "()Z" } : Jvm.MethodName) prog_10_method_6_code (1 : Nat) (Option.some Jvm.ClassFile.FieldType.boolean)) ∈ lw_tbl := qt4 _ (List.mem_of_getElem? (i := 61) rfl)
theorem qw783 : (Jvm.Cond.methodLink "AssertionGate" (249 : Nat) ({ cls := "AssertionGate", name := "takeResponse", desc := "()I" } : Jvm.MethodName)) ∈ lw_tbl := qt4 _ (List.mem_of_getElem? (i := 63) rfl)
theorem qw785 : (Jvm.Cond.instanceMethod ({ cls := "AssertionGate", name := "takeResponse", desc := "()I" } : Jvm.MethodName)) ∈ lw_tbl := qt4 _ (List.mem_of_getElem? (i := 65) rfl)
theorem qw786 : (Jvm.Cond.code ({ cls := "AssertionGate", name := "takeResponse", desc := "()I" } : Jvm.MethodName) prog_1_method_31_code (3 : Nat) (Option.some Jvm.ClassFile.FieldType.int)) ∈ lw_tbl := qt4 _ (List.mem_of_getElem? (i := 66) rfl)
theorem qw787 : (Jvm.Cond.methodLink "AssertionGate" (276 : Nat) ({ cls := "AssertionGate", name := "isValid", desc := "(III)Z" } : Jvm.MethodName)) ∈ lw_tbl := qt4 _ (List.mem_of_getElem? (i := 67) rfl)
theorem qw789 : (Jvm.Cond.instanceMethod ({ cls := "AssertionGate", name := "isValid", desc := "(III)Z" } : Jvm.MethodName)) ∈ lw_tbl := qt4 _ (List.mem_of_getElem? (i := 69) rfl)
theorem qw790 : (Jvm.Cond.code ({ cls := "AssertionGate", name := "isValid", desc := "(III)Z" } : Jvm.MethodName) prog_1_method_35_code (5 : Nat) (Option.some Jvm.ClassFile.FieldType.boolean)) ∈ lw_tbl := qt4 _ (List.mem_of_getElem? (i := 70) rfl)
theorem qw791 : (Jvm.Cond.methodLink "AssertionGate" (288 : Nat) ({ cls := "AssertionGate", name := "trustedNamed", desc := "(I)I" } : Jvm.MethodName)) ∈ lw_tbl := qt4 _ (List.mem_of_getElem? (i := 71) rfl)
theorem qw793 : (Jvm.Cond.instanceMethod ({ cls := "AssertionGate", name := "trustedNamed", desc := "(I)I" } : Jvm.MethodName)) ∈ lw_tbl := qt4 _ (List.mem_of_getElem? (i := 73) rfl)
theorem qw794 : (Jvm.Cond.code ({ cls := "AssertionGate", name := "trustedNamed", desc := "(I)I" } : Jvm.MethodName) prog_1_method_36_code (4 : Nat) (Option.some Jvm.ClassFile.FieldType.int)) ∈ lw_tbl := qt4 _ (List.mem_of_getElem? (i := 74) rfl)
theorem qw795 : (Jvm.Cond.methodLink "AssertionGate" (309 : Nat) ({ cls := "AssertionGate$Message", name := "bodyFrom", desc := "(I)I" } : Jvm.MethodName)) ∈ lw_tbl := qt4 _ (List.mem_of_getElem? (i := 75) rfl)
theorem qw796 : (Jvm.Cond.methodLink "AssertionGate" (312 : Nat) ({ cls := "AssertionGate$Message", name := "bodyTo", desc := "(I)I" } : Jvm.MethodName)) ∈ lw_tbl := qt4 _ (List.mem_of_getElem? (i := 76) rfl)
theorem qw797 : (Jvm.Cond.methodLink "AssertionGate" (389 : Nat) ({ cls := "AssertionGate$Issuers", name := "isTrusted", desc := "(I)Z" } : Jvm.MethodName)) ∈ lw_tbl := qt4 _ (List.mem_of_getElem? (i := 77) rfl)
theorem qw798 : (Jvm.Cond.instanceMethod ({ cls := "AssertionGate$Issuers", name := "isTrusted", desc := "(I)Z" } : Jvm.MethodName)) ∈ lw_tbl := qt4 _ (List.mem_of_getElem? (i := 78) rfl)
theorem qw799 : (Jvm.Cond.selects "AssertionGate$Issuers" ({ cls := "AssertionGate$Issuers", name := "isTrusted", desc := "(I)Z" } : Jvm.MethodName) ({ cls := "AssertionGate$Issuers", name := "isTrusted", desc := "(I)Z" } : Jvm.MethodName)) ∈ lw_tbl := qt4 _ (List.mem_of_getElem? (i := 79) rfl)
theorem qw800 : (Jvm.Cond.code ({ cls := "AssertionGate$Issuers", name := "isTrusted", desc := "(I)Z" } : Jvm.MethodName) prog_3_method_2_code (2 : Nat) (Option.some Jvm.ClassFile.FieldType.boolean)) ∈ lw_tbl := qt4 _ (List.mem_of_getElem? (i := 80) rfl)
theorem qw802 : (Jvm.Cond.methodLink "AssertionGate" (376 : Nat) ({ cls := "AssertionGate$Message", name := "slotOf", desc := "(ILjava/lang/String;)I" } : Jvm.MethodName)) ∈ lw_tbl := qt4 _ (List.mem_of_getElem? (i := 82) rfl)
theorem qw804 : (Jvm.Cond.methodLink "AssertionGate" (381 : Nat) ({ cls := "AssertionGate$Message", name := "sameText", desc := "(II)Z" } : Jvm.MethodName)) ∈ lw_tbl := qt4 _ (List.mem_of_getElem? (i := 84) rfl)
theorem qw806 : (Jvm.Cond.methodLink "AssertionGate" (299 : Nat) ({ cls := "AssertionGate$Message", name := "number", desc := "(ILjava/lang/String;)I" } : Jvm.MethodName)) ∈ lw_tbl := qt4 _ (List.mem_of_getElem? (i := 86) rfl)
theorem qw807 : (Jvm.Cond.methodLink "AssertionGate" (386 : Nat) ({ cls := "AssertionGate$Issuers", name := "verifies", desc := "(III)Z" } : Jvm.MethodName)) ∈ lw_tbl := qt4 _ (List.mem_of_getElem? (i := 87) rfl)
theorem qw808 : (Jvm.Cond.instanceMethod ({ cls := "AssertionGate$Issuers", name := "verifies", desc := "(III)Z" } : Jvm.MethodName)) ∈ lw_tbl := qt4 _ (List.mem_of_getElem? (i := 88) rfl)
theorem qw809 : (Jvm.Cond.selects "AssertionGate$Issuers" ({ cls := "AssertionGate$Issuers", name := "verifies", desc := "(III)Z" } : Jvm.MethodName) ({ cls := "AssertionGate$Issuers", name := "verifies", desc := "(III)Z" } : Jvm.MethodName)) ∈ lw_tbl := qt4 _ (List.mem_of_getElem? (i := 89) rfl)
theorem qw810 : (Jvm.Cond.code ({ cls := "AssertionGate$Issuers", name := "verifies", desc := "(III)Z" } : Jvm.MethodName) prog_3_method_5_code (4 : Nat) (Option.some Jvm.ClassFile.FieldType.boolean)) ∈ lw_tbl := qt4 _ (List.mem_of_getElem? (i := 90) rfl)
theorem qw811 : (Jvm.Cond.methodLink "AssertionGate$Issuers" (32 : Nat) ({ cls := "AssertionGate$Issuers", name := "isTrusted", desc := "(I)Z" } : Jvm.MethodName)) ∈ lw_tbl := qt4 _ (List.mem_of_getElem? (i := 91) rfl)
theorem qw812 : (Jvm.Cond.methodLink "AssertionGate" (285 : Nat) ({ cls := "AssertionGate$Message", name := "sameWord", desc := "(II)Z" } : Jvm.MethodName)) ∈ lw_tbl := qt4 _ (List.mem_of_getElem? (i := 92) rfl)
theorem qw813 : (Jvm.Cond.instanceMethod ({ cls := "AssertionGate$Message", name := "sameWord", desc := "(II)Z" } : Jvm.MethodName)) ∈ lw_tbl := qt4 _ (List.mem_of_getElem? (i := 93) rfl)
theorem qw814 : (Jvm.Cond.selects "AssertionGate$Message" ({ cls := "AssertionGate$Message", name := "sameWord", desc := "(II)Z" } : Jvm.MethodName) ({ cls := "AssertionGate$Message", name := "sameWord", desc := "(II)Z" } : Jvm.MethodName)) ∈ lw_tbl := qt4 _ (List.mem_of_getElem? (i := 94) rfl)
theorem qw815 : (Jvm.Cond.code ({ cls := "AssertionGate$Message", name := "sameWord", desc := "(II)Z" } : Jvm.MethodName) prog_6_method_13_code (3 : Nat) (Option.some Jvm.ClassFile.FieldType.boolean)) ∈ lw_tbl := qt4 _ (List.mem_of_getElem? (i := 95) rfl)
theorem qw816 : (Jvm.Cond.methodLink "AssertionGate" (291 : Nat) ({ cls := "AssertionGate", name := "faultOfTerms", desc := "(I)I" } : Jvm.MethodName)) ∈ lw_tbl := qt4 _ (List.mem_of_getElem? (i := 96) rfl)
theorem qw818 : (Jvm.Cond.instanceMethod ({ cls := "AssertionGate", name := "faultOfTerms", desc := "(I)I" } : Jvm.MethodName)) ∈ lw_tbl := qt4 _ (List.mem_of_getElem? (i := 98) rfl)
theorem qw819 : (Jvm.Cond.code ({ cls := "AssertionGate", name := "faultOfTerms", desc := "(I)I" } : Jvm.MethodName) prog_1_method_32_code (2 : Nat) (Option.some Jvm.ClassFile.FieldType.int)) ∈ lw_tbl := qt4 _ (List.mem_of_getElem? (i := 99) rfl)
theorem qw822 : (Jvm.Cond.methodLink "AssertionGate" (322 : Nat) ({ cls := "AssertionGate$Message", name := "valueIs", desc := "(ILjava/lang/String;Ljava/lang/String;)Z" } : Jvm.MethodName)) ∈ lw_tbl := qt4 _ (List.mem_of_getElem? (i := 102) rfl)
theorem qw823 : (Jvm.Cond.instanceMethod ({ cls := "AssertionGate$Message", name := "valueIs", desc := "(ILjava/lang/String;Ljava/lang/String;)Z" } : Jvm.MethodName)) ∈ lw_tbl := qt4 _ (List.mem_of_getElem? (i := 103) rfl)
theorem qw824 : (Jvm.Cond.selects "AssertionGate$Message" ({ cls := "AssertionGate$Message", name := "valueIs", desc := "(ILjava/lang/String;Ljava/lang/String;)Z" } : Jvm.MethodName) ({ cls := "AssertionGate$Message", name := "valueIs", desc := "(ILjava/lang/String;Ljava/lang/String;)Z" } : Jvm.MethodName)) ∈ lw_tbl := qt4 _ (List.mem_of_getElem? (i := 104) rfl)
theorem qw825 : (Jvm.Cond.code ({ cls := "AssertionGate$Message", name := "valueIs", desc := "(ILjava/lang/String;Ljava/lang/String;)Z" } : Jvm.MethodName) prog_6_method_18_code (5 : Nat) (Option.some Jvm.ClassFile.FieldType.boolean)) ∈ lw_tbl := qt4 _ (List.mem_of_getElem? (i := 105) rfl)
theorem qw827 : (Jvm.Cond.methodLink "AssertionGate" (331 : Nat) ({ cls := "AssertionGate$Message", name := "wordIs", desc := "(ILjava/lang/String;)Z" } : Jvm.MethodName)) ∈ lw_tbl := qt4 _ (List.mem_of_getElem? (i := 107) rfl)
theorem qw828 : (Jvm.Cond.instanceMethod ({ cls := "AssertionGate$Message", name := "wordIs", desc := "(ILjava/lang/String;)Z" } : Jvm.MethodName)) ∈ lw_tbl := qt4 _ (List.mem_of_getElem? (i := 108) rfl)
theorem qw829 : (Jvm.Cond.selects "AssertionGate$Message" ({ cls := "AssertionGate$Message", name := "wordIs", desc := "(ILjava/lang/String;)Z" } : Jvm.MethodName) ({ cls := "AssertionGate$Message", name := "wordIs", desc := "(ILjava/lang/String;)Z" } : Jvm.MethodName)) ∈ lw_tbl := qt4 _ (List.mem_of_getElem? (i := 109) rfl)
theorem qw830 : (Jvm.Cond.code ({ cls := "AssertionGate$Message", name := "wordIs", desc := "(ILjava/lang/String;)Z" } : Jvm.MethodName) prog_6_method_12_code (3 : Nat) (Option.some Jvm.ClassFile.FieldType.boolean)) ∈ lw_tbl := qt4 _ (List.mem_of_getElem? (i := 110) rfl)
theorem qw832 : (Jvm.Cond.methodLink "AssertionGate" (335 : Nat) ({ cls := "AssertionGate$Requests", name := "awaits", desc := "(III)Z" } : Jvm.MethodName)) ∈ lw_tbl := qt4 _ (List.mem_of_getElem? (i := 112) rfl)
theorem qw833 : (Jvm.Cond.instanceMethod ({ cls := "AssertionGate$Requests", name := "awaits", desc := "(III)Z" } : Jvm.MethodName)) ∈ lw_tbl := qt4 _ (List.mem_of_getElem? (i := 113) rfl)
theorem qw834 : (Jvm.Cond.selects "AssertionGate$Requests" ({ cls := "AssertionGate$Requests", name := "awaits", desc := "(III)Z" } : Jvm.MethodName) ({ cls := "AssertionGate$Requests", name := "awaits", desc := "(III)Z" } : Jvm.MethodName)) ∈ lw_tbl := qt4 _ (List.mem_of_getElem? (i := 114) rfl)
theorem qw835 : (Jvm.Cond.code ({ cls := "AssertionGate$Requests", name := "awaits", desc := "(III)Z" } : Jvm.MethodName) prog_9_method_4_code (4 : Nat) (Option.some Jvm.ClassFile.FieldType.boolean)) ∈ lw_tbl := qt4 _ (List.mem_of_getElem? (i := 115) rfl)
theorem qw836 : (Jvm.Cond.methodLink "AssertionGate$Requests" (29 : Nat) ({ cls := "AssertionGate$Requests", name := "isOpen", desc := "(II)Z" } : Jvm.MethodName)) ∈ lw_tbl := qt4 _ (List.mem_of_getElem? (i := 116) rfl)
theorem qw837 : (Jvm.Cond.instanceMethod ({ cls := "AssertionGate$Requests", name := "isOpen", desc := "(II)Z" } : Jvm.MethodName)) ∈ lw_tbl := qt4 _ (List.mem_of_getElem? (i := 117) rfl)
theorem qw838 : (Jvm.Cond.selects "AssertionGate$Requests" ({ cls := "AssertionGate$Requests", name := "isOpen", desc := "(II)Z" } : Jvm.MethodName) ({ cls := "AssertionGate$Requests", name := "isOpen", desc := "(II)Z" } : Jvm.MethodName)) ∈ lw_tbl := qt4 _ (List.mem_of_getElem? (i := 118) rfl)
theorem qw839 : (Jvm.Cond.code ({ cls := "AssertionGate$Requests", name := "isOpen", desc := "(II)Z" } : Jvm.MethodName) prog_9_method_3_code (3 : Nat) (Option.some Jvm.ClassFile.FieldType.boolean)) ∈ lw_tbl := qt4 _ (List.mem_of_getElem? (i := 119) rfl)
theorem qw843 : (Jvm.Cond.methodLink "AssertionGate" (347 : Nat) ({ cls := "AssertionGate", name := "hasRunOut", desc := "(I)Z" } : Jvm.MethodName)) ∈ lw_tbl := qt4 _ (List.mem_of_getElem? (i := 123) rfl)
theorem qw845 : (Jvm.Cond.instanceMethod ({ cls := "AssertionGate", name := "hasRunOut", desc := "(I)Z" } : Jvm.MethodName)) ∈ lw_tbl := qt4 _ (List.mem_of_getElem? (i := 125) rfl)
theorem qw846 : (Jvm.Cond.code ({ cls := "AssertionGate", name := "hasRunOut", desc := "(I)Z" } : Jvm.MethodName) prog_1_method_33_code (2 : Nat) (Option.some Jvm.ClassFile.FieldType.boolean)) ∈ lw_tbl := qt4 _ (List.mem_of_getElem? (i := 126) rfl)
theorem qw849 : (Jvm.Cond.methodLink "AssertionGate" (355 : Nat) ({ cls := "AssertionGate$Message", name := "sameValue", desc := "(IILjava/lang/String;)Z" } : Jvm.MethodName)) ∈ lw_tbl := qt4 _ (List.mem_of_getElem? (i := 129) rfl)
theorem qw850 : (Jvm.Cond.instanceMethod ({ cls := "AssertionGate$Message", name := "sameValue", desc := "(IILjava/lang/String;)Z" } : Jvm.MethodName)) ∈ lw_tbl := qt4 _ (List.mem_of_getElem? (i := 130) rfl)
theorem qw851 : (Jvm.Cond.selects "AssertionGate$Message" ({ cls := "AssertionGate$Message", name := "sameValue", desc := "(IILjava/lang/String;)Z" } : Jvm.MethodName) ({ cls := "AssertionGate$Message", name := "sameValue", desc := "(IILjava/lang/String;)Z" } : Jvm.MethodName)) ∈ lw_tbl := qt4 _ (List.mem_of_getElem? (i := 131) rfl)
theorem qw852 : (Jvm.Cond.code ({ cls := "AssertionGate$Message", name := "sameValue", desc := "(IILjava/lang/String;)Z" } : Jvm.MethodName) prog_6_method_20_code (4 : Nat) (Option.some Jvm.ClassFile.FieldType.boolean)) ∈ lw_tbl := qt4 _ (List.mem_of_getElem? (i := 132) rfl)
theorem qw853 : (Jvm.Cond.methodLink "AssertionGate" (359 : Nat) ({ cls := "AssertionGate", name := "isSeen", desc := "(I)Z" } : Jvm.MethodName)) ∈ lw_tbl := qt4 _ (List.mem_of_getElem? (i := 133) rfl)
theorem qw855 : (Jvm.Cond.instanceMethod ({ cls := "AssertionGate", name := "isSeen", desc := "(I)Z" } : Jvm.MethodName)) ∈ lw_tbl := qt4 _ (List.mem_of_getElem? (i := 135) rfl)
theorem qw856 : (Jvm.Cond.code ({ cls := "AssertionGate", name := "isSeen", desc := "(I)Z" } : Jvm.MethodName) prog_1_method_37_code (3 : Nat) (Option.some Jvm.ClassFile.FieldType.boolean)) ∈ lw_tbl := qt4 _ (List.mem_of_getElem? (i := 136) rfl)
theorem qw857 : (Jvm.Cond.methodLink "AssertionGate" (392 : Nat) ({ cls := "AssertionGate$Message", name := "valueFrom", desc := "(I)I" } : Jvm.MethodName)) ∈ lw_tbl := qt4 _ (List.mem_of_getElem? (i := 137) rfl)
theorem qw858 : (Jvm.Cond.methodLink "AssertionGate" (395 : Nat) ({ cls := "AssertionGate$Message", name := "valueTo", desc := "(I)I" } : Jvm.MethodName)) ∈ lw_tbl := qt4 _ (List.mem_of_getElem? (i := 138) rfl)
theorem qw859 : (Jvm.Cond.methodLink "AssertionGate" (398 : Nat) ({ cls := "AssertionGate$Labels", name := "find", desc := "(LAssertionGate$Page;II)I" } : Jvm.MethodName)) ∈ lw_tbl := qt4 _ (List.mem_of_getElem? (i := 139) rfl)
theorem qw860 : (Jvm.Cond.instanceMethod ({ cls := "AssertionGate$Labels", name := "find", desc := "(LAssertionGate$Page;II)I" } : Jvm.MethodName)) ∈ lw_tbl := qt4 _ (List.mem_of_getElem? (i := 140) rfl)
theorem qw861 : (Jvm.Cond.selects "AssertionGate$Labels" ({ cls := "AssertionGate$Labels", name := "find", desc := "(LAssertionGate$Page;II)I" } : Jvm.MethodName) ({ cls := "AssertionGate$Labels", name := "find", desc := "(LAssertionGate$Page;II)I" } : Jvm.MethodName)) ∈ lw_tbl := qt4 _ (List.mem_of_getElem? (i := 141) rfl)
theorem qw862 : (Jvm.Cond.code ({ cls := "AssertionGate$Labels", name := "find", desc := "(LAssertionGate$Page;II)I" } : Jvm.MethodName) prog_4_method_6_code (5 : Nat) (Option.some Jvm.ClassFile.FieldType.int)) ∈ lw_tbl := qt4 _ (List.mem_of_getElem? (i := 142) rfl)
theorem qw863 : (Jvm.Cond.methodLink "AssertionGate$Labels" (39 : Nat) ({ cls := "AssertionGate$Labels", name := "isLabel", desc := "(ILAssertionGate$Page;II)Z" } : Jvm.MethodName)) ∈ lw_tbl := qt4 _ (List.mem_of_getElem? (i := 143) rfl)
theorem qw864 : (Jvm.Cond.instanceMethod ({ cls := "AssertionGate$Labels", name := "isLabel", desc := "(ILAssertionGate$Page;II)Z" } : Jvm.MethodName)) ∈ lw_tbl := qt4 _ (List.mem_of_getElem? (i := 144) rfl)
theorem qw865 : (Jvm.Cond.selects "AssertionGate$Labels" ({ cls := "AssertionGate$Labels", name := "isLabel", desc := "(ILAssertionGate$Page;II)Z" } : Jvm.MethodName) ({ cls := "AssertionGate$Labels", name := "isLabel", desc := "(ILAssertionGate$Page;II)Z" } : Jvm.MethodName)) ∈ lw_tbl := qt4 _ (List.mem_of_getElem? (i := 145) rfl)
theorem qw866 : (Jvm.Cond.code ({ cls := "AssertionGate$Labels", name := "isLabel", desc := "(ILAssertionGate$Page;II)Z" } : Jvm.MethodName) prog_4_method_5_code (6 : Nat) (Option.some Jvm.ClassFile.FieldType.boolean)) ∈ lw_tbl := qt4 _ (List.mem_of_getElem? (i := 146) rfl)
theorem qw867 : (Jvm.Cond.methodLink "AssertionGate$Labels" (36 : Nat) ({ cls := "AssertionGate$Labels", name := "codeAt", desc := "(II)I" } : Jvm.MethodName)) ∈ lw_tbl := qt4 _ (List.mem_of_getElem? (i := 147) rfl)
theorem qw868 : (Jvm.Cond.instanceMethod ({ cls := "AssertionGate$Labels", name := "codeAt", desc := "(II)I" } : Jvm.MethodName)) ∈ lw_tbl := qt4 _ (List.mem_of_getElem? (i := 148) rfl)
theorem qw869 : (Jvm.Cond.selects "AssertionGate$Labels" ({ cls := "AssertionGate$Labels", name := "codeAt", desc := "(II)I" } : Jvm.MethodName) ({ cls := "AssertionGate$Labels", name := "codeAt", desc := "(II)I" } : Jvm.MethodName)) ∈ lw_tbl := qt4 _ (List.mem_of_getElem? (i := 149) rfl)
theorem qw870 : (Jvm.Cond.code ({ cls := "AssertionGate$Labels", name := "codeAt", desc := "(II)I" } : Jvm.MethodName) prog_4_method_4_code (4 : Nat) (Option.some Jvm.ClassFile.FieldType.int)) ∈ lw_tbl := qt4 _ (List.mem_of_getElem? (i := 150) rfl)
theorem qw871 : (Jvm.Cond.methodLink "AssertionGate$Labels" (30 : Nat) ({ cls := "AssertionGate$Page", name := "codeAt", desc := "(I)I" } : Jvm.MethodName)) ∈ lw_tbl := qt4 _ (List.mem_of_getElem? (i := 151) rfl)
theorem qw872 : (Jvm.Cond.methodLink "AssertionGate" (362 : Nat) ({ cls := "AssertionGate$Sessions", name := "isFull", desc := "()Z" } : Jvm.MethodName)) ∈ lw_tbl := qt4 _ (List.mem_of_getElem? (i := 152) rfl)
theorem qw873 : (Jvm.Cond.instanceMethod ({ cls := "AssertionGate$Sessions", name := "isFull", desc := "()Z" } : Jvm.MethodName)) ∈ lw_tbl := qt4 _ (List.mem_of_getElem? (i := 153) rfl)
theorem qw874 : (Jvm.Cond.selects "AssertionGate$Sessions" ({ cls := "AssertionGate$Sessions", name := "isFull", desc := "()Z" } : Jvm.MethodName) ({ cls := "AssertionGate$Sessions", name := "isFull", desc := "()Z" } : Jvm.MethodName)) ∈ lw_tbl := qt4 _ (List.mem_of_getElem? (i := 154) rfl)
theorem qw875 : (Jvm.Cond.code ({ cls := "AssertionGate$Sessions", name := "isFull", desc := "()Z" } : Jvm.MethodName) prog_11_method_2_code (1 : Nat) (Option.some Jvm.ClassFile.FieldType.boolean)) ∈ lw_tbl := qt4 _ (List.mem_of_getElem? (i := 155) rfl)
theorem qw876 : (Jvm.Cond.methodLink "AssertionGate$Sessions" (28 : Nat) ({ cls := "AssertionGate$Labels", name := "isFull", desc := "()Z" } : Jvm.MethodName)) ∈ lw_tbl := qt4 _ (List.mem_of_getElem? (i := 156) rfl)
theorem qw877 : (Jvm.Cond.instanceMethod ({ cls := "AssertionGate$Labels", name := "isFull", desc := "()Z" } : Jvm.MethodName)) ∈ lw_tbl := qt4 _ (List.mem_of_getElem? (i := 157) rfl)
theorem qw878 : (Jvm.Cond.selects "AssertionGate$Labels" ({ cls := "AssertionGate$Labels", name := "isFull", desc := "()Z" } : Jvm.MethodName) ({ cls := "AssertionGate$Labels", name := "isFull", desc := "()Z" } : Jvm.MethodName)) ∈ lw_tbl := qt4 _ (List.mem_of_getElem? (i := 158) rfl)
theorem qw879 : (Jvm.Cond.code ({ cls := "AssertionGate$Labels", name := "isFull", desc := "()Z" } : Jvm.MethodName) prog_4_method_2_code (1 : Nat) (Option.some Jvm.ClassFile.FieldType.boolean)) ∈ lw_tbl := qt4 _ (List.mem_of_getElem? (i := 159) rfl)
theorem qw880 : (Jvm.Cond.methodLink "AssertionGate" (365 : Nat) ({ cls := "AssertionGate$Labels", name := "isFull", desc := "()Z" } : Jvm.MethodName)) ∈ lw_tbl := qt4 _ (List.mem_of_getElem? (i := 160) rfl)
theorem qw881 : (Jvm.Cond.methodLink "AssertionGate" (294 : Nat) ({ cls := "AssertionGate", name := "markSeen", desc := "(I)V" } : Jvm.MethodName)) ∈ lw_tbl := qt4 _ (List.mem_of_getElem? (i := 161) rfl)
theorem qw883 : (Jvm.Cond.instanceMethod ({ cls := "AssertionGate", name := "markSeen", desc := "(I)V" } : Jvm.MethodName)) ∈ lw_tbl := qt4 _ (List.mem_of_getElem? (i := 163) rfl)
theorem qw884 : (Jvm.Cond.code ({ cls := "AssertionGate", name := "markSeen", desc := "(I)V" } : Jvm.MethodName) prog_1_method_38_code (3 : Nat) (Option.none : Option Jvm.ClassFile.FieldType)) ∈ lw_tbl := qt4 _ (List.mem_of_getElem? (i := 164) rfl)
theorem qw885 : (Jvm.Cond.methodLink "AssertionGate" (402 : Nat) ({ cls := "AssertionGate$Labels", name := "keep", desc := "(LAssertionGate$Page;II)V" } : Jvm.MethodName)) ∈ lw_tbl := qt4 _ (List.mem_of_getElem? (i := 165) rfl)
theorem qw886 : (Jvm.Cond.instanceMethod ({ cls := "AssertionGate$Labels", name := "keep", desc := "(LAssertionGate$Page;II)V" } : Jvm.MethodName)) ∈ lw_tbl := qt4 _ (List.mem_of_getElem? (i := 166) rfl)
theorem qw887 : (Jvm.Cond.selects "AssertionGate$Labels" ({ cls := "AssertionGate$Labels", name := "keep", desc := "(LAssertionGate$Page;II)V" } : Jvm.MethodName) ({ cls := "AssertionGate$Labels", name := "keep", desc := "(LAssertionGate$Page;II)V" } : Jvm.MethodName)) ∈ lw_tbl := qt4 _ (List.mem_of_getElem? (i := 167) rfl)
theorem qw888 : (Jvm.Cond.code ({ cls := "AssertionGate$Labels", name := "keep", desc := "(LAssertionGate$Page;II)V" } : Jvm.MethodName) prog_4_method_3_code (5 : Nat) (Option.none : Option Jvm.ClassFile.FieldType)) ∈ lw_tbl := qt4 _ (List.mem_of_getElem? (i := 168) rfl)
theorem qw889 : (Jvm.Cond.methodLink "AssertionGate$Labels" (26 : Nat) ({ cls := "AssertionGate$Labels", name := "isFull", desc := "()Z" } : Jvm.MethodName)) ∈ lw_tbl := qt4 _ (List.mem_of_getElem? (i := 169) rfl)
theorem qw890 : (Jvm.Cond.methodLink "AssertionGate" (303 : Nat) ({ cls := "AssertionGate$Requests", name := "answer", desc := "(I)V" } : Jvm.MethodName)) ∈ lw_tbl := qt4 _ (List.mem_of_getElem? (i := 170) rfl)
theorem qw891 : (Jvm.Cond.instanceMethod ({ cls := "AssertionGate$Requests", name := "answer", desc := "(I)V" } : Jvm.MethodName)) ∈ lw_tbl := qt4 _ (List.mem_of_getElem? (i := 171) rfl)
theorem qw892 : (Jvm.Cond.selects "AssertionGate$Requests" ({ cls := "AssertionGate$Requests", name := "answer", desc := "(I)V" } : Jvm.MethodName) ({ cls := "AssertionGate$Requests", name := "answer", desc := "(I)V" } : Jvm.MethodName)) ∈ lw_tbl := qt4 _ (List.mem_of_getElem? (i := 172) rfl)
theorem qw893 : (Jvm.Cond.code ({ cls := "AssertionGate$Requests", name := "answer", desc := "(I)V" } : Jvm.MethodName) prog_9_method_5_code (2 : Nat) (Option.none : Option Jvm.ClassFile.FieldType)) ∈ lw_tbl := qt4 _ (List.mem_of_getElem? (i := 173) rfl)
theorem qw894 : (Jvm.Cond.methodLink "AssertionGate" (315 : Nat) ({ cls := "AssertionGate$Sessions", name := "open", desc := "(ILAssertionGate$Page;II)I" } : Jvm.MethodName)) ∈ lw_tbl := qt4 _ (List.mem_of_getElem? (i := 174) rfl)
theorem qw895 : (Jvm.Cond.instanceMethod ({ cls := "AssertionGate$Sessions", name := "open", desc := "(ILAssertionGate$Page;II)I" } : Jvm.MethodName)) ∈ lw_tbl := qt4 _ (List.mem_of_getElem? (i := 175) rfl)
theorem qw896 : (Jvm.Cond.selects "AssertionGate$Sessions" ({ cls := "AssertionGate$Sessions", name := "open", desc := "(ILAssertionGate$Page;II)I" } : Jvm.MethodName) ({ cls := "AssertionGate$Sessions", name := "open", desc := "(ILAssertionGate$Page;II)I" } : Jvm.MethodName)) ∈ lw_tbl := qt4 _ (List.mem_of_getElem? (i := 176) rfl)
theorem qw897 : (Jvm.Cond.code ({ cls := "AssertionGate$Sessions", name := "open", desc := "(ILAssertionGate$Page;II)I" } : Jvm.MethodName) prog_11_method_3_code (6 : Nat) (Option.some Jvm.ClassFile.FieldType.int)) ∈ lw_tbl := qt4 _ (List.mem_of_getElem? (i := 177) rfl)
theorem qw898 : (Jvm.Cond.methodLink "AssertionGate$Sessions" (32 : Nat) ({ cls := "AssertionGate$Sessions", name := "isFull", desc := "()Z" } : Jvm.MethodName)) ∈ lw_tbl := qt4 _ (List.mem_of_getElem? (i := 178) rfl)
theorem qw899 : (Jvm.Cond.methodLink "AssertionGate$Sessions" (37 : Nat) ({ cls := "AssertionGate$Labels", name := "keep", desc := "(LAssertionGate$Page;II)V" } : Jvm.MethodName)) ∈ lw_tbl := qt4 _ (List.mem_of_getElem? (i := 179) rfl)
theorem qw900 : (Jvm.Cond.methodLink "AssertionGate" (252 : Nat) ({ cls := "AssertionGate$Logout", name := "isFound", desc := "()Z" } : Jvm.MethodName)) ∈ lw_tbl := qt4 _ (List.mem_of_getElem? (i := 180) rfl)
theorem qw901 : (Jvm.Cond.instanceMethod ({ cls := "AssertionGate$Logout", name := "isFound", desc := "()Z" } : Jvm.MethodName)) ∈ lw_tbl := qt4 _ (List.mem_of_getElem? (i := 181) rfl)
theorem qw902 : (Jvm.Cond.selects "AssertionGate$Logout" ({ cls := "AssertionGate$Logout", name := "isFound", desc := "()Z" } : Jvm.MethodName) ({ cls := "AssertionGate$Logout", name := "isFound", desc := "()Z" } : Jvm.MethodName)) ∈ lw_tbl := qt4 _ (List.mem_of_getElem? (i := 182) rfl)
theorem qw903 : (Jvm.Cond.code ({ cls := "AssertionGate$Logout", name := "isFound", desc := "()Z" } : Jvm.MethodName) prog_5_method_2_code (1 : Nat) (Option.some Jvm.ClassFile.FieldType.boolean)) ∈ lw_tbl := qt4 _ (List.mem_of_getElem? (i := 183) rfl)
theorem qw905 : (Jvm.Cond.methodLink "AssertionGate$Logout" (17 : Nat) ({ cls := "AssertionGate$Message", name := "onlyChild", desc := "(ILjava/lang/String;)I" } : Jvm.MethodName)) ∈ lw_tbl := qt4 _ (List.mem_of_getElem? (i := 185) rfl)
theorem qw908 : (Jvm.Cond.methodLink "AssertionGate$Logout" (32 : Nat) ({ cls := "AssertionGate$Message", name := "lastChild", desc := "(ILjava/lang/String;)I" } : Jvm.MethodName)) ∈ lw_tbl := qt4 _ (List.mem_of_getElem? (i := 188) rfl)
theorem qw910 : (Jvm.Cond.methodLink "AssertionGate$Logout" (39 : Nat) ({ cls := "AssertionGate$Message", name := "isNamed", desc := "(ILjava/lang/String;)Z" } : Jvm.MethodName)) ∈ lw_tbl := qt4 _ (List.mem_of_getElem? (i := 190) rfl)
theorem qw912 : (Jvm.Cond.methodLink "AssertionGate$Logout" (45 : Nat) ({ cls := "AssertionGate$Message", name := "hasKey", desc := "(ILjava/lang/String;)Z" } : Jvm.MethodName)) ∈ lw_tbl := qt4 _ (List.mem_of_getElem? (i := 192) rfl)
theorem qw914 : (Jvm.Cond.methodLink "AssertionGate$Logout" (50 : Nat) ({ cls := "AssertionGate$Message", name := "has", desc := "(ILjava/lang/String;)Z" } : Jvm.MethodName)) ∈ lw_tbl := qt4 _ (List.mem_of_getElem? (i := 194) rfl)
theorem qw915 : (Jvm.Cond.methodLink "AssertionGate$Logout" (53 : Nat) ({ cls := "AssertionGate$Message", name := "hasWord", desc := "(I)Z" } : Jvm.MethodName)) ∈ lw_tbl := qt4 _ (List.mem_of_getElem? (i := 195) rfl)
theorem qw916 : (Jvm.Cond.methodLink "AssertionGate$Logout" (57 : Nat) ({ cls := "AssertionGate$Message", name := "hasSoundSigs", desc := "(I)Z" } : Jvm.MethodName)) ∈ lw_tbl := qt4 _ (List.mem_of_getElem? (i := 196) rfl)
theorem qw917 : (Jvm.Cond.methodLink "AssertionGate" (253 : Nat) ({ cls := "AssertionGate", name := "takeLogout", desc := "()I" } : Jvm.MethodName)) ∈ lw_tbl := qt4 _ (List.mem_of_getElem? (i := 197) rfl)
theorem qw919 : (Jvm.Cond.instanceMethod ({ cls := "AssertionGate", name := "takeLogout", desc := "()I" } : Jvm.MethodName)) ∈ lw_tbl := qt4 _ (List.mem_of_getElem? (i := 199) rfl)
theorem qw920 : (Jvm.Cond.code ({ cls := "AssertionGate", name := "takeLogout", desc := "()I" } : Jvm.MethodName) prog_1_method_34_code (3 : Nat) (Option.some Jvm.ClassFile.FieldType.int)) ∈ lw_tbl := qt4 _ (List.mem_of_getElem? (i := 200) rfl)
theorem qw921 : (Jvm.Cond.methodLink "AssertionGate" (371 : Nat) ({ cls := "AssertionGate$Sessions", name := "end", desc := "(ILAssertionGate$Page;II)I" } : Jvm.MethodName)) ∈ lw_tbl := qt4 _ (List.mem_of_getElem? (i := 201) rfl)
theorem qw922 : (Jvm.Cond.instanceMethod ({ cls := "AssertionGate$Sessions", name := "end", desc := "(ILAssertionGate$Page;II)I" } : Jvm.MethodName)) ∈ lw_tbl := qt4 _ (List.mem_of_getElem? (i := 202) rfl)
theorem qw923 : (Jvm.Cond.selects "AssertionGate$Sessions" ({ cls := "AssertionGate$Sessions", name := "end", desc := "(ILAssertionGate$Page;II)I" } : Jvm.MethodName) ({ cls := "AssertionGate$Sessions", name := "end", desc := "(ILAssertionGate$Page;II)I" } : Jvm.MethodName)) ∈ lw_tbl := qt4 _ (List.mem_of_getElem? (i := 203) rfl)
theorem qw924 : (Jvm.Cond.code ({ cls := "AssertionGate$Sessions", name := "end", desc := "(ILAssertionGate$Page;II)I" } : Jvm.MethodName) prog_11_method_4_code (7 : Nat) (Option.some Jvm.ClassFile.FieldType.int)) ∈ lw_tbl := qt4 _ (List.mem_of_getElem? (i := 204) rfl)
theorem qw925 : (Jvm.Cond.methodLink "AssertionGate$Sessions" (41 : Nat) ({ cls := "AssertionGate$Labels", name := "isLabel", desc := "(ILAssertionGate$Page;II)Z" } : Jvm.MethodName)) ∈ lw_tbl := qt4 _ (List.mem_of_getElem? (i := 205) rfl)
theorem qw926 : (Jvm.Cond.methodLink "AssertionGateLaw" (98 : Nat) ({ cls := "AssertionGate", name := "session", desc := "(I)I" } : Jvm.MethodName)) ∈ lw_tbl := qt4 _ (List.mem_of_getElem? (i := 206) rfl)
theorem qw927 : (Jvm.Cond.instanceMethod ({ cls := "AssertionGate", name := "session", desc := "(I)I" } : Jvm.MethodName)) ∈ lw_tbl := qt4 _ (List.mem_of_getElem? (i := 207) rfl)
theorem qw928 : (Jvm.Cond.selects "AssertionGate" ({ cls := "AssertionGate", name := "session", desc := "(I)I" } : Jvm.MethodName) ({ cls := "AssertionGate", name := "session", desc := "(I)I" } : Jvm.MethodName)) ∈ lw_tbl := qt4 _ (List.mem_of_getElem? (i := 208) rfl)
theorem qw929 : (Jvm.Cond.code ({ cls := "AssertionGate", name := "session", desc := "(I)I" } : Jvm.MethodName) prog_1_method_28_code (2 : Nat) (Option.some Jvm.ClassFile.FieldType.int)) ∈ lw_tbl := qt4 _ (List.mem_of_getElem? (i := 209) rfl)
theorem qw930 : (Jvm.Cond.methodLink "AssertionGate" (256 : Nat) ({ cls := "AssertionGate$Sessions", name := "stateOf", desc := "(I)I" } : Jvm.MethodName)) ∈ lw_tbl := qt4 _ (List.mem_of_getElem? (i := 210) rfl)
theorem qw931 : (Jvm.Cond.instanceMethod ({ cls := "AssertionGate$Sessions", name := "stateOf", desc := "(I)I" } : Jvm.MethodName)) ∈ lw_tbl := qt4 _ (List.mem_of_getElem? (i := 211) rfl)
theorem qw932 : (Jvm.Cond.selects "AssertionGate$Sessions" ({ cls := "AssertionGate$Sessions", name := "stateOf", desc := "(I)I" } : Jvm.MethodName) ({ cls := "AssertionGate$Sessions", name := "stateOf", desc := "(I)I" } : Jvm.MethodName)) ∈ lw_tbl := qt4 _ (List.mem_of_getElem? (i := 212) rfl)
theorem qw933 : (Jvm.Cond.code ({ cls := "AssertionGate$Sessions", name := "stateOf", desc := "(I)I" } : Jvm.MethodName) prog_11_method_5_code (2 : Nat) (Option.some Jvm.ClassFile.FieldType.int)) ∈ lw_tbl := qt4 _ (List.mem_of_getElem? (i := 213) rfl)
theorem qw934 : (Jvm.Cond.methodLink "AssertionGateLaw" (102 : Nat) ({ cls := "AssertionGate", name := "name", desc := "(II)I" } : Jvm.MethodName)) ∈ lw_tbl := qt4 _ (List.mem_of_getElem? (i := 214) rfl)
theorem qw935 : (Jvm.Cond.instanceMethod ({ cls := "AssertionGate", name := "name", desc := "(II)I" } : Jvm.MethodName)) ∈ lw_tbl := qt4 _ (List.mem_of_getElem? (i := 215) rfl)
theorem qw936 : (Jvm.Cond.selects "AssertionGate" ({ cls := "AssertionGate", name := "name", desc := "(II)I" } : Jvm.MethodName) ({ cls := "AssertionGate", name := "name", desc := "(II)I" } : Jvm.MethodName)) ∈ lw_tbl := qt4 _ (List.mem_of_getElem? (i := 216) rfl)
theorem qw937 : (Jvm.Cond.code ({ cls := "AssertionGate", name := "name", desc := "(II)I" } : Jvm.MethodName) prog_1_method_29_code (3 : Nat) (Option.some Jvm.ClassFile.FieldType.int)) ∈ lw_tbl := qt4 _ (List.mem_of_getElem? (i := 217) rfl)
theorem qw938 : (Jvm.Cond.methodLink "AssertionGate" (262 : Nat) ({ cls := "AssertionGate$Labels", name := "codeAt", desc := "(II)I" } : Jvm.MethodName)) ∈ lw_tbl := qt4 _ (List.mem_of_getElem? (i := 218) rfl)
theorem qw939 : (Jvm.Cond.methodLink "AssertionGateLaw" (106 : Nat) ({ cls := "AssertionGate", name := "outstanding", desc := "()I" } : Jvm.MethodName)) ∈ lw_tbl := qt4 _ (List.mem_of_getElem? (i := 219) rfl)
theorem qw940 : (Jvm.Cond.instanceMethod ({ cls := "AssertionGate", name := "outstanding", desc := "()I" } : Jvm.MethodName)) ∈ lw_tbl := qt4 _ (List.mem_of_getElem? (i := 220) rfl)
theorem qw941 : (Jvm.Cond.selects "AssertionGate" ({ cls := "AssertionGate", name := "outstanding", desc := "()I" } : Jvm.MethodName) ({ cls := "AssertionGate", name := "outstanding", desc := "()I" } : Jvm.MethodName)) ∈ lw_tbl := qt4 _ (List.mem_of_getElem? (i := 221) rfl)
theorem qw942 : (Jvm.Cond.code ({ cls := "AssertionGate", name := "outstanding", desc := "()I" } : Jvm.MethodName) prog_1_method_30_code (1 : Nat) (Option.some Jvm.ClassFile.FieldType.int)) ∈ lw_tbl := qt4 _ (List.mem_of_getElem? (i := 222) rfl)
theorem qw943 : (Jvm.Cond.methodLink "AssertionGate" (264 : Nat) ({ cls := "AssertionGate$Requests", name := "openCount", desc := "(I)I" } : Jvm.MethodName)) ∈ lw_tbl := qt4 _ (List.mem_of_getElem? (i := 223) rfl)
theorem qw944 : (Jvm.Cond.instanceMethod ({ cls := "AssertionGate$Requests", name := "openCount", desc := "(I)I" } : Jvm.MethodName)) ∈ lw_tbl := qt4 _ (List.mem_of_getElem? (i := 224) rfl)
theorem qw945 : (Jvm.Cond.selects "AssertionGate$Requests" ({ cls := "AssertionGate$Requests", name := "openCount", desc := "(I)I" } : Jvm.MethodName) ({ cls := "AssertionGate$Requests", name := "openCount", desc := "(I)I" } : Jvm.MethodName)) ∈ lw_tbl := qt4 _ (List.mem_of_getElem? (i := 225) rfl)
theorem qw946 : (Jvm.Cond.code ({ cls := "AssertionGate$Requests", name := "openCount", desc := "(I)I" } : Jvm.MethodName) prog_9_method_6_code (4 : Nat) (Option.some Jvm.ClassFile.FieldType.int)) ∈ lw_tbl := qt4 _ (List.mem_of_getElem? (i := 226) rfl)
theorem qw947 : (Jvm.Cond.methodLink "AssertionGateLaw" (9 : Nat) ({ cls := "AssertionGateLaw", name := "cell", desc := "([II)I" } : Jvm.MethodName)) ∈ lw_tbl := qt4 _ (List.mem_of_getElem? (i := 227) rfl)
theorem qw948 : (Jvm.Cond.static ({ cls := "AssertionGateLaw", name := "cell", desc := "([II)I" } : Jvm.MethodName)) ∈ lw_tbl := qt4 _ (List.mem_of_getElem? (i := 228) rfl)
theorem qw949 : (Jvm.Cond.code ({ cls := "AssertionGateLaw", name := "cell", desc := "([II)I" } : Jvm.MethodName) method_2_code (2 : Nat) (Option.some Jvm.ClassFile.FieldType.int)) ∈ lw_tbl := qt4 _ (List.mem_of_getElem? (i := 229) rfl)
theorem qw950 : (Jvm.Cond.classLink "AssertionGateLaw" (18 : Nat) "AssertionGateModel") ∈ lw_tbl := qt4 _ (List.mem_of_getElem? (i := 230) rfl)
theorem qw951 : (Jvm.Cond.instantiable "AssertionGateModel" (36 : Nat)) ∈ lw_tbl := qt4 _ (List.mem_of_getElem? (i := 231) rfl)
theorem qw952 : (Jvm.Cond.methodLink "AssertionGateLaw" (20 : Nat) ({ cls := "AssertionGateModel", name := "<init>", desc := "(II)V" } : Jvm.MethodName)) ∈ lw_tbl := qt4 _ (List.mem_of_getElem? (i := 232) rfl)
theorem qw953 : (Jvm.Cond.instanceMethod ({ cls := "AssertionGateModel", name := "<init>", desc := "(II)V" } : Jvm.MethodName)) ∈ lw_tbl := qt4 _ (List.mem_of_getElem? (i := 233) rfl)
theorem qw954 : (Jvm.Cond.code ({ cls := "AssertionGateModel", name := "<init>", desc := "(II)V" } : Jvm.MethodName) prog_13_method_1_code (3 : Nat) (Option.none : Option Jvm.ClassFile.FieldType)) ∈ lw_tbl := qt4 _ (List.mem_of_getElem? (i := 234) rfl)
theorem qw956 : (Jvm.Cond.fieldLink "AssertionGateModel" (84 : Nat) "AssertionGateModel" "skew" "I") ∈ lw_tbl := qt4 _ (List.mem_of_getElem? (i := 236) rfl)
theorem qw957 : (Jvm.Cond.fieldLink "AssertionGateModel" (88 : Nat) "AssertionGateModel" "life" "I") ∈ lw_tbl := qt4 _ (List.mem_of_getElem? (i := 237) rfl)
theorem qw958 : (Jvm.Cond.fieldLink "AssertionGateModel" (101 : Nat) "AssertionGateModel" "clock" "I") ∈ lw_tbl := qt4 _ (List.mem_of_getElem? (i := 238) rfl)
theorem qw959 : (Jvm.Cond.fieldLink "AssertionGateModel" (7 : Nat) "AssertionGateModel" "text" "[I") ∈ lw_tbl := qt4 _ (List.mem_of_getElem? (i := 239) rfl)
theorem qw960 : (Jvm.Cond.fieldLink "AssertionGateModel" (113 : Nat) "AssertionGateModel" "size" "I") ∈ lw_tbl := qt5 _ (List.mem_of_getElem? (i := 0) rfl)
theorem qw961 : (Jvm.Cond.fieldLink "AssertionGateModel" (13 : Nat) "AssertionGateModel" "scrap" "[I") ∈ lw_tbl := qt5 _ (List.mem_of_getElem? (i := 1) rfl)
theorem qw962 : (Jvm.Cond.fieldLink "AssertionGateModel" (116 : Nat) "AssertionGateModel" "scraps" "I") ∈ lw_tbl := qt5 _ (List.mem_of_getElem? (i := 2) rfl)
theorem qw963 : (Jvm.Cond.fieldLink "AssertionGateModel" (16 : Nat) "AssertionGateModel" "trustN" "[I") ∈ lw_tbl := qt5 _ (List.mem_of_getElem? (i := 3) rfl)
theorem qw964 : (Jvm.Cond.fieldLink "AssertionGateModel" (19 : Nat) "AssertionGateModel" "trustE" "[I") ∈ lw_tbl := qt5 _ (List.mem_of_getElem? (i := 4) rfl)
theorem qw965 : (Jvm.Cond.fieldLink "AssertionGateModel" (22 : Nat) "AssertionGateModel" "keyN" "[I") ∈ lw_tbl := qt5 _ (List.mem_of_getElem? (i := 5) rfl)
theorem qw966 : (Jvm.Cond.fieldLink "AssertionGateModel" (25 : Nat) "AssertionGateModel" "keyD" "[I") ∈ lw_tbl := qt5 _ (List.mem_of_getElem? (i := 6) rfl)
theorem qw967 : (Jvm.Cond.fieldLink "AssertionGateModel" (104 : Nat) "AssertionGateModel" "requests" "I") ∈ lw_tbl := qt5 _ (List.mem_of_getElem? (i := 7) rfl)
theorem qw968 : (Jvm.Cond.fieldLink "AssertionGateModel" (28 : Nat) "AssertionGateModel" "made" "[I") ∈ lw_tbl := qt5 _ (List.mem_of_getElem? (i := 8) rfl)
theorem qw969 : (Jvm.Cond.fieldLink "AssertionGateModel" (31 : Nat) "AssertionGateModel" "goesTo" "[I") ∈ lw_tbl := qt5 _ (List.mem_of_getElem? (i := 9) rfl)
theorem qw970 : (Jvm.Cond.fieldLink "AssertionGateModel" (34 : Nat) "AssertionGateModel" "answered" "[Z") ∈ lw_tbl := qt5 _ (List.mem_of_getElem? (i := 10) rfl)
theorem qw971 : (Jvm.Cond.fieldLink "AssertionGateModel" (296 : Nat) "AssertionGateModel" "sessions" "I") ∈ lw_tbl := qt5 _ (List.mem_of_getElem? (i := 11) rfl)
theorem qw972 : (Jvm.Cond.fieldLink "AssertionGateModel" (38 : Nat) "AssertionGateModel" "owner" "[I") ∈ lw_tbl := qt5 _ (List.mem_of_getElem? (i := 12) rfl)
theorem qw973 : (Jvm.Cond.fieldLink "AssertionGateModel" (41 : Nat) "AssertionGateModel" "user" "[J") ∈ lw_tbl := qt5 _ (List.mem_of_getElem? (i := 13) rfl)
theorem qw974 : (Jvm.Cond.fieldLink "AssertionGateModel" (45 : Nat) "AssertionGateModel" "ended" "[Z") ∈ lw_tbl := qt5 _ (List.mem_of_getElem? (i := 14) rfl)
theorem qw975 : (Jvm.Cond.fieldLink "AssertionGateModel" (280 : Nat) "AssertionGateModel" "seenCount" "I") ∈ lw_tbl := qt5 _ (List.mem_of_getElem? (i := 15) rfl)
theorem qw976 : (Jvm.Cond.fieldLink "AssertionGateModel" (48 : Nat) "AssertionGateModel" "seen" "[J") ∈ lw_tbl := qt5 _ (List.mem_of_getElem? (i := 16) rfl)
theorem qw977 : (Jvm.Cond.fieldLink "AssertionGateModel" (328 : Nat) "AssertionGateModel" "issued" "I") ∈ lw_tbl := qt5 _ (List.mem_of_getElem? (i := 17) rfl)
theorem qw978 : (Jvm.Cond.fieldLink "AssertionGateModel" (146 : Nat) "AssertionGateModel" "count" "I") ∈ lw_tbl := qt5 _ (List.mem_of_getElem? (i := 18) rfl)
theorem qw979 : (Jvm.Cond.fieldLink "AssertionGateModel" (51 : Nat) "AssertionGateModel" "eName" "[J") ∈ lw_tbl := qt5 _ (List.mem_of_getElem? (i := 19) rfl)
theorem qw980 : (Jvm.Cond.fieldLink "AssertionGateModel" (54 : Nat) "AssertionGateModel" "eParent" "[I") ∈ lw_tbl := qt5 _ (List.mem_of_getElem? (i := 20) rfl)
theorem qw981 : (Jvm.Cond.fieldLink "AssertionGateModel" (57 : Nat) "AssertionGateModel" "eBegin" "[I") ∈ lw_tbl := qt5 _ (List.mem_of_getElem? (i := 21) rfl)
theorem qw982 : (Jvm.Cond.fieldLink "AssertionGateModel" (60 : Nat) "AssertionGateModel" "eFrom" "[I") ∈ lw_tbl := qt5 _ (List.mem_of_getElem? (i := 22) rfl)
theorem qw983 : (Jvm.Cond.fieldLink "AssertionGateModel" (63 : Nat) "AssertionGateModel" "eTo" "[I") ∈ lw_tbl := qt5 _ (List.mem_of_getElem? (i := 23) rfl)
theorem qw984 : (Jvm.Cond.fieldLink "AssertionGateModel" (66 : Nat) "AssertionGateModel" "eOver" "[I") ∈ lw_tbl := qt5 _ (List.mem_of_getElem? (i := 24) rfl)
theorem qw985 : (Jvm.Cond.fieldLink "AssertionGateModel" (69 : Nat) "AssertionGateModel" "eSingle" "[Z") ∈ lw_tbl := qt5 _ (List.mem_of_getElem? (i := 25) rfl)
theorem qw986 : (Jvm.Cond.fieldLink "AssertionGateModel" (72 : Nat) "AssertionGateModel" "attributes" "[I") ∈ lw_tbl := qt5 _ (List.mem_of_getElem? (i := 26) rfl)
theorem qw987 : (Jvm.Cond.fieldLink "AssertionGateModel" (75 : Nat) "AssertionGateModel" "aName" "[J") ∈ lw_tbl := qt5 _ (List.mem_of_getElem? (i := 27) rfl)
theorem qw988 : (Jvm.Cond.fieldLink "AssertionGateModel" (78 : Nat) "AssertionGateModel" "aFrom" "[I") ∈ lw_tbl := qt5 _ (List.mem_of_getElem? (i := 28) rfl)
theorem qw989 : (Jvm.Cond.fieldLink "AssertionGateModel" (81 : Nat) "AssertionGateModel" "aTo" "[I") ∈ lw_tbl := qt5 _ (List.mem_of_getElem? (i := 29) rfl)
theorem qw990 : (Jvm.Cond.fieldLink "AssertionGateModel" (126 : Nat) "AssertionGateModel" "word" "J") ∈ lw_tbl := qt5 _ (List.mem_of_getElem? (i := 30) rfl)
theorem qw991 : (Jvm.Cond.fieldLink "AssertionGateModel" (130 : Nat) "AssertionGateModel" "letters" "I") ∈ lw_tbl := qt5 _ (List.mem_of_getElem? (i := 31) rfl)
theorem qw1065 : (Jvm.Cond.arrayClass Jvm.ClassFile.FieldType.long) ∈ lw_tbl := qt5 _ (List.mem_of_getElem? (i := 105) rfl)
theorem qw1066 : (Jvm.Cond.methodLink "AssertionGateLaw" (25 : Nat) ({ cls := "AssertionGateModel", name := "trust", desc := "(III)Z" } : Jvm.MethodName)) ∈ lw_tbl := qt5 _ (List.mem_of_getElem? (i := 106) rfl)
theorem qw1067 : (Jvm.Cond.instanceMethod ({ cls := "AssertionGateModel", name := "trust", desc := "(III)Z" } : Jvm.MethodName)) ∈ lw_tbl := qt5 _ (List.mem_of_getElem? (i := 107) rfl)
theorem qw1068 : (Jvm.Cond.selects "AssertionGateModel" ({ cls := "AssertionGateModel", name := "trust", desc := "(III)Z" } : Jvm.MethodName) ({ cls := "AssertionGateModel", name := "trust", desc := "(III)Z" } : Jvm.MethodName)) ∈ lw_tbl := qt5 _ (List.mem_of_getElem? (i := 108) rfl)
theorem qw1069 : (Jvm.Cond.code ({ cls := "AssertionGateModel", name := "trust", desc := "(III)Z" } : Jvm.MethodName) prog_13_method_4_code (4 : Nat) (Option.some Jvm.ClassFile.FieldType.boolean)) ∈ lw_tbl := qt5 _ (List.mem_of_getElem? (i := 109) rfl)
theorem qw1070 : (Jvm.Cond.methodLink "AssertionGateModel" (93 : Nat) ({ cls := "AssertionGateModel", name := "issuer", desc := "(I)Z" } : Jvm.MethodName)) ∈ lw_tbl := qt5 _ (List.mem_of_getElem? (i := 110) rfl)
theorem qw1071 : (Jvm.Cond.static ({ cls := "AssertionGateModel", name := "issuer", desc := "(I)Z" } : Jvm.MethodName)) ∈ lw_tbl := qt5 _ (List.mem_of_getElem? (i := 111) rfl)
theorem qw1072 : (Jvm.Cond.code ({ cls := "AssertionGateModel", name := "issuer", desc := "(I)Z" } : Jvm.MethodName) prog_13_method_2_code (1 : Nat) (Option.some Jvm.ClassFile.FieldType.boolean)) ∈ lw_tbl := qt5 _ (List.mem_of_getElem? (i := 112) rfl)
theorem qw1073 : (Jvm.Cond.methodLink "AssertionGateModel" (97 : Nat) ({ cls := "AssertionGateModel", name := "numbers", desc := "(II)Z" } : Jvm.MethodName)) ∈ lw_tbl := qt5 _ (List.mem_of_getElem? (i := 113) rfl)
theorem qw1074 : (Jvm.Cond.static ({ cls := "AssertionGateModel", name := "numbers", desc := "(II)Z" } : Jvm.MethodName)) ∈ lw_tbl := qt5 _ (List.mem_of_getElem? (i := 114) rfl)
theorem qw1075 : (Jvm.Cond.code ({ cls := "AssertionGateModel", name := "numbers", desc := "(II)Z" } : Jvm.MethodName) prog_13_method_3_code (2 : Nat) (Option.some Jvm.ClassFile.FieldType.boolean)) ∈ lw_tbl := qt5 _ (List.mem_of_getElem? (i := 115) rfl)
theorem qw1078 : (Jvm.Cond.methodLink "AssertionGateLaw" (29 : Nat) ({ cls := "AssertionGateModel", name := "key", desc := "(III)Z" } : Jvm.MethodName)) ∈ lw_tbl := qt5 _ (List.mem_of_getElem? (i := 118) rfl)
theorem qw1079 : (Jvm.Cond.instanceMethod ({ cls := "AssertionGateModel", name := "key", desc := "(III)Z" } : Jvm.MethodName)) ∈ lw_tbl := qt5 _ (List.mem_of_getElem? (i := 119) rfl)
theorem qw1080 : (Jvm.Cond.selects "AssertionGateModel" ({ cls := "AssertionGateModel", name := "key", desc := "(III)Z" } : Jvm.MethodName) ({ cls := "AssertionGateModel", name := "key", desc := "(III)Z" } : Jvm.MethodName)) ∈ lw_tbl := qt5 _ (List.mem_of_getElem? (i := 120) rfl)
theorem qw1081 : (Jvm.Cond.code ({ cls := "AssertionGateModel", name := "key", desc := "(III)Z" } : Jvm.MethodName) prog_13_method_5_code (4 : Nat) (Option.some Jvm.ClassFile.FieldType.boolean)) ∈ lw_tbl := qt5 _ (List.mem_of_getElem? (i := 121) rfl)
theorem qw1082 : (Jvm.Cond.methodLink "AssertionGateLaw" (34 : Nat) ({ cls := "AssertionGateModel", name := "pass", desc := "(I)Z" } : Jvm.MethodName)) ∈ lw_tbl := qt5 _ (List.mem_of_getElem? (i := 122) rfl)
theorem qw1083 : (Jvm.Cond.instanceMethod ({ cls := "AssertionGateModel", name := "pass", desc := "(I)Z" } : Jvm.MethodName)) ∈ lw_tbl := qt5 _ (List.mem_of_getElem? (i := 123) rfl)
theorem qw1084 : (Jvm.Cond.selects "AssertionGateModel" ({ cls := "AssertionGateModel", name := "pass", desc := "(I)Z" } : Jvm.MethodName) ({ cls := "AssertionGateModel", name := "pass", desc := "(I)Z" } : Jvm.MethodName)) ∈ lw_tbl := qt5 _ (List.mem_of_getElem? (i := 124) rfl)
theorem qw1085 : (Jvm.Cond.code ({ cls := "AssertionGateModel", name := "pass", desc := "(I)Z" } : Jvm.MethodName) prog_13_method_6_code (2 : Nat) (Option.some Jvm.ClassFile.FieldType.boolean)) ∈ lw_tbl := qt5 _ (List.mem_of_getElem? (i := 125) rfl)
theorem qw1086 : (Jvm.Cond.methodLink "AssertionGateLaw" (39 : Nat) ({ cls := "AssertionGateModel", name := "request", desc := "(I)I" } : Jvm.MethodName)) ∈ lw_tbl := qt5 _ (List.mem_of_getElem? (i := 126) rfl)
theorem qw1087 : (Jvm.Cond.instanceMethod ({ cls := "AssertionGateModel", name := "request", desc := "(I)I" } : Jvm.MethodName)) ∈ lw_tbl := qt5 _ (List.mem_of_getElem? (i := 127) rfl)
theorem qw1088 : (Jvm.Cond.selects "AssertionGateModel" ({ cls := "AssertionGateModel", name := "request", desc := "(I)I" } : Jvm.MethodName) ({ cls := "AssertionGateModel", name := "request", desc := "(I)I" } : Jvm.MethodName)) ∈ lw_tbl := qt5 _ (List.mem_of_getElem? (i := 128) rfl)
theorem qw1089 : (Jvm.Cond.code ({ cls := "AssertionGateModel", name := "request", desc := "(I)I" } : Jvm.MethodName) prog_13_method_7_code (2 : Nat) (Option.some Jvm.ClassFile.FieldType.int)) ∈ lw_tbl := qt5 _ (List.mem_of_getElem? (i := 129) rfl)
theorem qw1090 : (Jvm.Cond.methodLink "AssertionGateLaw" (109 : Nat) ({ cls := "AssertionGateModel", name := "outstanding", desc := "()I" } : Jvm.MethodName)) ∈ lw_tbl := qt5 _ (List.mem_of_getElem? (i := 130) rfl)
theorem qw1091 : (Jvm.Cond.instanceMethod ({ cls := "AssertionGateModel", name := "outstanding", desc := "()I" } : Jvm.MethodName)) ∈ lw_tbl := qt5 _ (List.mem_of_getElem? (i := 131) rfl)
theorem qw1092 : (Jvm.Cond.selects "AssertionGateModel" ({ cls := "AssertionGateModel", name := "outstanding", desc := "()I" } : Jvm.MethodName) ({ cls := "AssertionGateModel", name := "outstanding", desc := "()I" } : Jvm.MethodName)) ∈ lw_tbl := qt5 _ (List.mem_of_getElem? (i := 132) rfl)
theorem qw1093 : (Jvm.Cond.code ({ cls := "AssertionGateModel", name := "outstanding", desc := "()I" } : Jvm.MethodName) prog_13_method_9_code (3 : Nat) (Option.some Jvm.ClassFile.FieldType.int)) ∈ lw_tbl := qt5 _ (List.mem_of_getElem? (i := 133) rfl)
theorem qw1094 : (Jvm.Cond.methodLink "AssertionGateModel" (107 : Nat) ({ cls := "AssertionGateModel", name := "waits", desc := "(I)Z" } : Jvm.MethodName)) ∈ lw_tbl := qt5 _ (List.mem_of_getElem? (i := 134) rfl)
theorem qw1096 : (Jvm.Cond.instanceMethod ({ cls := "AssertionGateModel", name := "waits", desc := "(I)Z" } : Jvm.MethodName)) ∈ lw_tbl := qt5 _ (List.mem_of_getElem? (i := 136) rfl)
theorem qw1097 : (Jvm.Cond.code ({ cls := "AssertionGateModel", name := "waits", desc := "(I)Z" } : Jvm.MethodName) prog_13_method_8_code (2 : Nat) (Option.some Jvm.ClassFile.FieldType.boolean)) ∈ lw_tbl := qt5 _ (List.mem_of_getElem? (i := 137) rfl)
theorem qw1098 : (Jvm.Cond.methodLink "AssertionGateLaw" (54 : Nat) ({ cls := "AssertionGateModel", name := "write", desc := "(C)Z" } : Jvm.MethodName)) ∈ lw_tbl := qt5 _ (List.mem_of_getElem? (i := 138) rfl)
theorem qw1099 : (Jvm.Cond.instanceMethod ({ cls := "AssertionGateModel", name := "write", desc := "(C)Z" } : Jvm.MethodName)) ∈ lw_tbl := qt5 _ (List.mem_of_getElem? (i := 139) rfl)
theorem qw1100 : (Jvm.Cond.selects "AssertionGateModel" ({ cls := "AssertionGateModel", name := "write", desc := "(C)Z" } : Jvm.MethodName) ({ cls := "AssertionGateModel", name := "write", desc := "(C)Z" } : Jvm.MethodName)) ∈ lw_tbl := qt5 _ (List.mem_of_getElem? (i := 140) rfl)
theorem qw1101 : (Jvm.Cond.code ({ cls := "AssertionGateModel", name := "write", desc := "(C)Z" } : Jvm.MethodName) prog_13_method_12_code (2 : Nat) (Option.some Jvm.ClassFile.FieldType.boolean)) ∈ lw_tbl := qt5 _ (List.mem_of_getElem? (i := 141) rfl)
theorem qw1102 : (Jvm.Cond.methodLink "AssertionGateModel" (110 : Nat) ({ cls := "AssertionGateModel", name := "printable", desc := "(I)Z" } : Jvm.MethodName)) ∈ lw_tbl := qt5 _ (List.mem_of_getElem? (i := 142) rfl)
theorem qw1103 : (Jvm.Cond.static ({ cls := "AssertionGateModel", name := "printable", desc := "(I)Z" } : Jvm.MethodName)) ∈ lw_tbl := qt5 _ (List.mem_of_getElem? (i := 143) rfl)
theorem qw1104 : (Jvm.Cond.code ({ cls := "AssertionGateModel", name := "printable", desc := "(I)Z" } : Jvm.MethodName) prog_13_method_11_code (1 : Nat) (Option.some Jvm.ClassFile.FieldType.boolean)) ∈ lw_tbl := qt5 _ (List.mem_of_getElem? (i := 144) rfl)
theorem qw1105 : (Jvm.Cond.methodLink "AssertionGateLaw" (59 : Nat) ({ cls := "AssertionGateModel", name := "set", desc := "(IC)Z" } : Jvm.MethodName)) ∈ lw_tbl := qt5 _ (List.mem_of_getElem? (i := 145) rfl)
theorem qw1106 : (Jvm.Cond.instanceMethod ({ cls := "AssertionGateModel", name := "set", desc := "(IC)Z" } : Jvm.MethodName)) ∈ lw_tbl := qt5 _ (List.mem_of_getElem? (i := 146) rfl)
theorem qw1107 : (Jvm.Cond.selects "AssertionGateModel" ({ cls := "AssertionGateModel", name := "set", desc := "(IC)Z" } : Jvm.MethodName) ({ cls := "AssertionGateModel", name := "set", desc := "(IC)Z" } : Jvm.MethodName)) ∈ lw_tbl := qt5 _ (List.mem_of_getElem? (i := 147) rfl)
theorem qw1108 : (Jvm.Cond.code ({ cls := "AssertionGateModel", name := "set", desc := "(IC)Z" } : Jvm.MethodName) prog_13_method_13_code (3 : Nat) (Option.some Jvm.ClassFile.FieldType.boolean)) ∈ lw_tbl := qt5 _ (List.mem_of_getElem? (i := 148) rfl)
theorem qw1109 : (Jvm.Cond.methodLink "AssertionGateLaw" (63 : Nat) ({ cls := "AssertionGateModel", name := "cut", desc := "(II)Z" } : Jvm.MethodName)) ∈ lw_tbl := qt5 _ (List.mem_of_getElem? (i := 149) rfl)
theorem qw1110 : (Jvm.Cond.instanceMethod ({ cls := "AssertionGateModel", name := "cut", desc := "(II)Z" } : Jvm.MethodName)) ∈ lw_tbl := qt5 _ (List.mem_of_getElem? (i := 150) rfl)
theorem qw1111 : (Jvm.Cond.selects "AssertionGateModel" ({ cls := "AssertionGateModel", name := "cut", desc := "(II)Z" } : Jvm.MethodName) ({ cls := "AssertionGateModel", name := "cut", desc := "(II)Z" } : Jvm.MethodName)) ∈ lw_tbl := qt5 _ (List.mem_of_getElem? (i := 151) rfl)
theorem qw1112 : (Jvm.Cond.code ({ cls := "AssertionGateModel", name := "cut", desc := "(II)Z" } : Jvm.MethodName) prog_13_method_14_code (4 : Nat) (Option.some Jvm.ClassFile.FieldType.boolean)) ∈ lw_tbl := qt5 _ (List.mem_of_getElem? (i := 152) rfl)
theorem qw1113 : (Jvm.Cond.methodLink "AssertionGateLaw" (67 : Nat) ({ cls := "AssertionGateModel", name := "paste", desc := "(I)Z" } : Jvm.MethodName)) ∈ lw_tbl := qt5 _ (List.mem_of_getElem? (i := 153) rfl)
theorem qw1114 : (Jvm.Cond.instanceMethod ({ cls := "AssertionGateModel", name := "paste", desc := "(I)Z" } : Jvm.MethodName)) ∈ lw_tbl := qt5 _ (List.mem_of_getElem? (i := 154) rfl)
theorem qw1115 : (Jvm.Cond.selects "AssertionGateModel" ({ cls := "AssertionGateModel", name := "paste", desc := "(I)Z" } : Jvm.MethodName) ({ cls := "AssertionGateModel", name := "paste", desc := "(I)Z" } : Jvm.MethodName)) ∈ lw_tbl := qt5 _ (List.mem_of_getElem? (i := 155) rfl)
theorem qw1116 : (Jvm.Cond.code ({ cls := "AssertionGateModel", name := "paste", desc := "(I)Z" } : Jvm.MethodName) prog_13_method_15_code (3 : Nat) (Option.some Jvm.ClassFile.FieldType.boolean)) ∈ lw_tbl := qt5 _ (List.mem_of_getElem? (i := 156) rfl)
theorem qw1117 : (Jvm.Cond.methodLink "AssertionGateLaw" (71 : Nat) ({ cls := "AssertionGateModel", name := "clear", desc := "()V" } : Jvm.MethodName)) ∈ lw_tbl := qt5 _ (List.mem_of_getElem? (i := 157) rfl)
theorem qw1118 : (Jvm.Cond.instanceMethod ({ cls := "AssertionGateModel", name := "clear", desc := "()V" } : Jvm.MethodName)) ∈ lw_tbl := qt5 _ (List.mem_of_getElem? (i := 158) rfl)
theorem qw1119 : (Jvm.Cond.selects "AssertionGateModel" ({ cls := "AssertionGateModel", name := "clear", desc := "()V" } : Jvm.MethodName) ({ cls := "AssertionGateModel", name := "clear", desc := "()V" } : Jvm.MethodName)) ∈ lw_tbl := qt5 _ (List.mem_of_getElem? (i := 159) rfl)
theorem qw1120 : (Jvm.Cond.code ({ cls := "AssertionGateModel", name := "clear", desc := "()V" } : Jvm.MethodName) prog_13_method_16_code (1 : Nat) (Option.none : Option Jvm.ClassFile.FieldType)) ∈ lw_tbl := qt5 _ (List.mem_of_getElem? (i := 160) rfl)
theorem qw1121 : (Jvm.Cond.methodLink "AssertionGateLaw" (76 : Nat) ({ cls := "AssertionGateModel", name := "length", desc := "()I" } : Jvm.MethodName)) ∈ lw_tbl := qt5 _ (List.mem_of_getElem? (i := 161) rfl)
theorem qw1122 : (Jvm.Cond.instanceMethod ({ cls := "AssertionGateModel", name := "length", desc := "()I" } : Jvm.MethodName)) ∈ lw_tbl := qt5 _ (List.mem_of_getElem? (i := 162) rfl)
theorem qw1123 : (Jvm.Cond.selects "AssertionGateModel" ({ cls := "AssertionGateModel", name := "length", desc := "()I" } : Jvm.MethodName) ({ cls := "AssertionGateModel", name := "length", desc := "()I" } : Jvm.MethodName)) ∈ lw_tbl := qt5 _ (List.mem_of_getElem? (i := 163) rfl)
theorem qw1124 : (Jvm.Cond.code ({ cls := "AssertionGateModel", name := "length", desc := "()I" } : Jvm.MethodName) prog_13_method_17_code (1 : Nat) (Option.some Jvm.ClassFile.FieldType.int)) ∈ lw_tbl := qt5 _ (List.mem_of_getElem? (i := 164) rfl)
theorem qw1125 : (Jvm.Cond.methodLink "AssertionGateLaw" (80 : Nat) ({ cls := "AssertionGateModel", name := "at", desc := "(I)I" } : Jvm.MethodName)) ∈ lw_tbl := qt5 _ (List.mem_of_getElem? (i := 165) rfl)
theorem qw1126 : (Jvm.Cond.instanceMethod ({ cls := "AssertionGateModel", name := "at", desc := "(I)I" } : Jvm.MethodName)) ∈ lw_tbl := qt5 _ (List.mem_of_getElem? (i := 166) rfl)
theorem qw1127 : (Jvm.Cond.selects "AssertionGateModel" ({ cls := "AssertionGateModel", name := "at", desc := "(I)I" } : Jvm.MethodName) ({ cls := "AssertionGateModel", name := "at", desc := "(I)I" } : Jvm.MethodName)) ∈ lw_tbl := qt5 _ (List.mem_of_getElem? (i := 167) rfl)
theorem qw1128 : (Jvm.Cond.code ({ cls := "AssertionGateModel", name := "at", desc := "(I)I" } : Jvm.MethodName) prog_13_method_18_code (2 : Nat) (Option.some Jvm.ClassFile.FieldType.int)) ∈ lw_tbl := qt5 _ (List.mem_of_getElem? (i := 168) rfl)
theorem qw1129 : (Jvm.Cond.methodLink "AssertionGateLaw" (84 : Nat) ({ cls := "AssertionGateModel", name := "elements", desc := "()I" } : Jvm.MethodName)) ∈ lw_tbl := qt5 _ (List.mem_of_getElem? (i := 169) rfl)
theorem qw1130 : (Jvm.Cond.instanceMethod ({ cls := "AssertionGateModel", name := "elements", desc := "()I" } : Jvm.MethodName)) ∈ lw_tbl := qt5 _ (List.mem_of_getElem? (i := 170) rfl)
theorem qw1131 : (Jvm.Cond.selects "AssertionGateModel" ({ cls := "AssertionGateModel", name := "elements", desc := "()I" } : Jvm.MethodName) ({ cls := "AssertionGateModel", name := "elements", desc := "()I" } : Jvm.MethodName)) ∈ lw_tbl := qt5 _ (List.mem_of_getElem? (i := 171) rfl)
theorem qw1132 : (Jvm.Cond.code ({ cls := "AssertionGateModel", name := "elements", desc := "()I" } : Jvm.MethodName) prog_13_method_31_code (1 : Nat) (Option.some Jvm.ClassFile.FieldType.int)) ∈ lw_tbl := qt5 _ (List.mem_of_getElem? (i := 172) rfl)
theorem qw1133 : (Jvm.Cond.methodLink "AssertionGateModel" (169 : Nat) ({ cls := "AssertionGateModel", name := "read", desc := "()I" } : Jvm.MethodName)) ∈ lw_tbl := qt5 _ (List.mem_of_getElem? (i := 173) rfl)
theorem qw1135 : (Jvm.Cond.instanceMethod ({ cls := "AssertionGateModel", name := "read", desc := "()I" } : Jvm.MethodName)) ∈ lw_tbl := qt5 _ (List.mem_of_getElem? (i := 175) rfl)
theorem qw1136 : (Jvm.Cond.code ({ cls := "AssertionGateModel", name := "read", desc := "()I" } : Jvm.MethodName) prog_13_method_30_code (6 : Nat) (Option.some Jvm.ClassFile.FieldType.int)) ∈ lw_tbl := qt5 _ (List.mem_of_getElem? (i := 176) rfl)
theorem qw1137 : (Jvm.Cond.methodLink "AssertionGateModel" (153 : Nat) ({ cls := "AssertionGateModel", name := "banned", desc := "()Z" } : Jvm.MethodName)) ∈ lw_tbl := qt5 _ (List.mem_of_getElem? (i := 177) rfl)
theorem qw1139 : (Jvm.Cond.instanceMethod ({ cls := "AssertionGateModel", name := "banned", desc := "()Z" } : Jvm.MethodName)) ∈ lw_tbl := qt5 _ (List.mem_of_getElem? (i := 179) rfl)
theorem qw1140 : (Jvm.Cond.code ({ cls := "AssertionGateModel", name := "banned", desc := "()Z" } : Jvm.MethodName) prog_13_method_20_code (4 : Nat) (Option.some Jvm.ClassFile.FieldType.boolean)) ∈ lw_tbl := qt5 _ (List.mem_of_getElem? (i := 180) rfl)
theorem qw1141 : (Jvm.Cond.methodLink "AssertionGateModel" (119 : Nat) ({ cls := "AssertionGateModel", name := "at", desc := "(I)I" } : Jvm.MethodName)) ∈ lw_tbl := qt5 _ (List.mem_of_getElem? (i := 181) rfl)
theorem qw1142 : (Jvm.Cond.methodLink "AssertionGateModel" (123 : Nat) ({ cls := "AssertionGateModel", name := "dashes", desc := "(I)Z" } : Jvm.MethodName)) ∈ lw_tbl := qt5 _ (List.mem_of_getElem? (i := 182) rfl)
theorem qw1144 : (Jvm.Cond.instanceMethod ({ cls := "AssertionGateModel", name := "dashes", desc := "(I)Z" } : Jvm.MethodName)) ∈ lw_tbl := qt5 _ (List.mem_of_getElem? (i := 184) rfl)
theorem qw1145 : (Jvm.Cond.code ({ cls := "AssertionGateModel", name := "dashes", desc := "(I)Z" } : Jvm.MethodName) prog_13_method_19_code (2 : Nat) (Option.some Jvm.ClassFile.FieldType.boolean)) ∈ lw_tbl := qt5 _ (List.mem_of_getElem? (i := 185) rfl)
theorem qw1146 : (Jvm.Cond.methodLink "AssertionGateModel" (133 : Nat) ({ cls := "AssertionGateModel", name := "letter", desc := "(I)Z" } : Jvm.MethodName)) ∈ lw_tbl := qt5 _ (List.mem_of_getElem? (i := 186) rfl)
theorem qw1147 : (Jvm.Cond.static ({ cls := "AssertionGateModel", name := "letter", desc := "(I)Z" } : Jvm.MethodName)) ∈ lw_tbl := qt5 _ (List.mem_of_getElem? (i := 187) rfl)
theorem qw1148 : (Jvm.Cond.code ({ cls := "AssertionGateModel", name := "letter", desc := "(I)Z" } : Jvm.MethodName) prog_13_method_21_code (1 : Nat) (Option.some Jvm.ClassFile.FieldType.boolean)) ∈ lw_tbl := qt5 _ (List.mem_of_getElem? (i := 188) rfl)
theorem qw1149 : (Jvm.Cond.methodLink "AssertionGateModel" (157 : Nat) ({ cls := "AssertionGateModel", name := "tag", desc := "(II)I" } : Jvm.MethodName)) ∈ lw_tbl := qt5 _ (List.mem_of_getElem? (i := 189) rfl)
theorem qw1151 : (Jvm.Cond.instanceMethod ({ cls := "AssertionGateModel", name := "tag", desc := "(II)I" } : Jvm.MethodName)) ∈ lw_tbl := qt5 _ (List.mem_of_getElem? (i := 191) rfl)
theorem qw1152 : (Jvm.Cond.code ({ cls := "AssertionGateModel", name := "tag", desc := "(II)I" } : Jvm.MethodName) prog_13_method_26_code (6 : Nat) (Option.some Jvm.ClassFile.FieldType.int)) ∈ lw_tbl := qt5 _ (List.mem_of_getElem? (i := 192) rfl)
theorem qw1153 : (Jvm.Cond.methodLink "AssertionGateModel" (139 : Nat) ({ cls := "AssertionGateModel", name := "nameAt", desc := "(I)I" } : Jvm.MethodName)) ∈ lw_tbl := qt5 _ (List.mem_of_getElem? (i := 193) rfl)
theorem qw1155 : (Jvm.Cond.instanceMethod ({ cls := "AssertionGateModel", name := "nameAt", desc := "(I)I" } : Jvm.MethodName)) ∈ lw_tbl := qt5 _ (List.mem_of_getElem? (i := 195) rfl)
theorem qw1156 : (Jvm.Cond.code ({ cls := "AssertionGateModel", name := "nameAt", desc := "(I)I" } : Jvm.MethodName) prog_13_method_22_code (4 : Nat) (Option.some Jvm.ClassFile.FieldType.int)) ∈ lw_tbl := qt5 _ (List.mem_of_getElem? (i := 196) rfl)
theorem qw1157 : (Jvm.Cond.methodLink "AssertionGateModel" (136 : Nat) ({ cls := "AssertionGateModel", name := "spaces", desc := "(I)I" } : Jvm.MethodName)) ∈ lw_tbl := qt5 _ (List.mem_of_getElem? (i := 197) rfl)
theorem qw1159 : (Jvm.Cond.instanceMethod ({ cls := "AssertionGateModel", name := "spaces", desc := "(I)I" } : Jvm.MethodName)) ∈ lw_tbl := qt5 _ (List.mem_of_getElem? (i := 199) rfl)
theorem qw1160 : (Jvm.Cond.code ({ cls := "AssertionGateModel", name := "spaces", desc := "(I)I" } : Jvm.MethodName) prog_13_method_23_code (3 : Nat) (Option.some Jvm.ClassFile.FieldType.int)) ∈ lw_tbl := qt5 _ (List.mem_of_getElem? (i := 200) rfl)
theorem qw1161 : (Jvm.Cond.methodLink "AssertionGateModel" (149 : Nat) ({ cls := "AssertionGateModel", name := "attribute", desc := "(II)I" } : Jvm.MethodName)) ∈ lw_tbl := qt5 _ (List.mem_of_getElem? (i := 201) rfl)
theorem qw1163 : (Jvm.Cond.instanceMethod ({ cls := "AssertionGateModel", name := "attribute", desc := "(II)I" } : Jvm.MethodName)) ∈ lw_tbl := qt5 _ (List.mem_of_getElem? (i := 203) rfl)
theorem qw1164 : (Jvm.Cond.code ({ cls := "AssertionGateModel", name := "attribute", desc := "(II)I" } : Jvm.MethodName) prog_13_method_24_code (6 : Nat) (Option.some Jvm.ClassFile.FieldType.int)) ∈ lw_tbl := qt5 _ (List.mem_of_getElem? (i := 204) rfl)
theorem qw1165 : (Jvm.Cond.methodLink "AssertionGateModel" (142 : Nat) ({ cls := "AssertionGateModel", name := "find", desc := "(IJ)I" } : Jvm.MethodName)) ∈ lw_tbl := qt5 _ (List.mem_of_getElem? (i := 205) rfl)
theorem qw1167 : (Jvm.Cond.instanceMethod ({ cls := "AssertionGateModel", name := "find", desc := "(IJ)I" } : Jvm.MethodName)) ∈ lw_tbl := qt5 _ (List.mem_of_getElem? (i := 207) rfl)
theorem qw1168 : (Jvm.Cond.code ({ cls := "AssertionGateModel", name := "find", desc := "(IJ)I" } : Jvm.MethodName) prog_13_method_25_code (6 : Nat) (Option.some Jvm.ClassFile.FieldType.int)) ∈ lw_tbl := qt5 _ (List.mem_of_getElem? (i := 208) rfl)
theorem qw1169 : (Jvm.Cond.methodLink "AssertionGateModel" (160 : Nat) ({ cls := "AssertionGateModel", name := "comment", desc := "(I)I" } : Jvm.MethodName)) ∈ lw_tbl := qt5 _ (List.mem_of_getElem? (i := 209) rfl)
theorem qw1171 : (Jvm.Cond.instanceMethod ({ cls := "AssertionGateModel", name := "comment", desc := "(I)I" } : Jvm.MethodName)) ∈ lw_tbl := qt5 _ (List.mem_of_getElem? (i := 211) rfl)
theorem qw1172 : (Jvm.Cond.code ({ cls := "AssertionGateModel", name := "comment", desc := "(I)I" } : Jvm.MethodName) prog_13_method_27_code (3 : Nat) (Option.some Jvm.ClassFile.FieldType.int)) ∈ lw_tbl := qt5 _ (List.mem_of_getElem? (i := 212) rfl)
theorem qw1173 : (Jvm.Cond.methodLink "AssertionGateModel" (163 : Nat) ({ cls := "AssertionGateModel", name := "close", desc := "(II)I" } : Jvm.MethodName)) ∈ lw_tbl := qt5 _ (List.mem_of_getElem? (i := 213) rfl)
theorem qw1175 : (Jvm.Cond.instanceMethod ({ cls := "AssertionGateModel", name := "close", desc := "(II)I" } : Jvm.MethodName)) ∈ lw_tbl := qt5 _ (List.mem_of_getElem? (i := 215) rfl)
theorem qw1176 : (Jvm.Cond.code ({ cls := "AssertionGateModel", name := "close", desc := "(II)I" } : Jvm.MethodName) prog_13_method_28_code (4 : Nat) (Option.some Jvm.ClassFile.FieldType.int)) ∈ lw_tbl := qt5 _ (List.mem_of_getElem? (i := 216) rfl)
theorem qw1177 : (Jvm.Cond.methodLink "AssertionGateModel" (166 : Nat) ({ cls := "AssertionGateModel", name := "depth", desc := "(I)I" } : Jvm.MethodName)) ∈ lw_tbl := qt5 _ (List.mem_of_getElem? (i := 217) rfl)
theorem qw1179 : (Jvm.Cond.instanceMethod ({ cls := "AssertionGateModel", name := "depth", desc := "(I)I" } : Jvm.MethodName)) ∈ lw_tbl := qt5 _ (List.mem_of_getElem? (i := 219) rfl)
theorem qw1180 : (Jvm.Cond.code ({ cls := "AssertionGateModel", name := "depth", desc := "(I)I" } : Jvm.MethodName) prog_13_method_29_code (4 : Nat) (Option.some Jvm.ClassFile.FieldType.int)) ∈ lw_tbl := qt5 _ (List.mem_of_getElem? (i := 220) rfl)
theorem qw1181 : (Jvm.Cond.methodLink "AssertionGateLaw" (88 : Nat) ({ cls := "AssertionGateModel", name := "digest", desc := "(I)I" } : Jvm.MethodName)) ∈ lw_tbl := qt5 _ (List.mem_of_getElem? (i := 221) rfl)
theorem qw1182 : (Jvm.Cond.instanceMethod ({ cls := "AssertionGateModel", name := "digest", desc := "(I)I" } : Jvm.MethodName)) ∈ lw_tbl := qt5 _ (List.mem_of_getElem? (i := 222) rfl)
theorem qw1183 : (Jvm.Cond.selects "AssertionGateModel" ({ cls := "AssertionGateModel", name := "digest", desc := "(I)I" } : Jvm.MethodName) ({ cls := "AssertionGateModel", name := "digest", desc := "(I)I" } : Jvm.MethodName)) ∈ lw_tbl := qt5 _ (List.mem_of_getElem? (i := 223) rfl)
theorem qw1184 : (Jvm.Cond.code ({ cls := "AssertionGateModel", name := "digest", desc := "(I)I" } : Jvm.MethodName) prog_13_method_39_code (3 : Nat) (Option.some Jvm.ClassFile.FieldType.int)) ∈ lw_tbl := qt5 _ (List.mem_of_getElem? (i := 224) rfl)
theorem qw1185 : (Jvm.Cond.methodLink "AssertionGateModel" (196 : Nat) ({ cls := "AssertionGateModel", name := "digestOf", desc := "(I)I" } : Jvm.MethodName)) ∈ lw_tbl := qt5 _ (List.mem_of_getElem? (i := 225) rfl)
theorem qw1187 : (Jvm.Cond.instanceMethod ({ cls := "AssertionGateModel", name := "digestOf", desc := "(I)I" } : Jvm.MethodName)) ∈ lw_tbl := qt5 _ (List.mem_of_getElem? (i := 227) rfl)
theorem qw1188 : (Jvm.Cond.code ({ cls := "AssertionGateModel", name := "digestOf", desc := "(I)I" } : Jvm.MethodName) prog_13_method_38_code (7 : Nat) (Option.some Jvm.ClassFile.FieldType.int)) ∈ lw_tbl := qt5 _ (List.mem_of_getElem? (i := 228) rfl)
theorem qw1189 : (Jvm.Cond.methodLink "AssertionGateModel" (184 : Nat) ({ cls := "AssertionGateModel", name := "foldHead", desc := "(II)I" } : Jvm.MethodName)) ∈ lw_tbl := qt5 _ (List.mem_of_getElem? (i := 229) rfl)
theorem qw1191 : (Jvm.Cond.instanceMethod ({ cls := "AssertionGateModel", name := "foldHead", desc := "(II)I" } : Jvm.MethodName)) ∈ lw_tbl := qt5 _ (List.mem_of_getElem? (i := 231) rfl)
theorem qw1192 : (Jvm.Cond.code ({ cls := "AssertionGateModel", name := "foldHead", desc := "(II)I" } : Jvm.MethodName) prog_13_method_35_code (9 : Nat) (Option.some Jvm.ClassFile.FieldType.int)) ∈ lw_tbl := qt5 _ (List.mem_of_getElem? (i := 232) rfl)
theorem qw1193 : (Jvm.Cond.methodLink "AssertionGateModel" (175 : Nat) ({ cls := "AssertionGateModel", name := "fold", desc := "(II)I" } : Jvm.MethodName)) ∈ lw_tbl := qt5 _ (List.mem_of_getElem? (i := 233) rfl)
theorem qw1194 : (Jvm.Cond.static ({ cls := "AssertionGateModel", name := "fold", desc := "(II)I" } : Jvm.MethodName)) ∈ lw_tbl := qt5 _ (List.mem_of_getElem? (i := 234) rfl)
theorem qw1195 : (Jvm.Cond.code ({ cls := "AssertionGateModel", name := "fold", desc := "(II)I" } : Jvm.MethodName) prog_13_method_32_code (2 : Nat) (Option.some Jvm.ClassFile.FieldType.int)) ∈ lw_tbl := qt5 _ (List.mem_of_getElem? (i := 235) rfl)
theorem qw1196 : (Jvm.Cond.methodLink "AssertionGateModel" (178 : Nat) ({ cls := "AssertionGateModel", name := "foldName", desc := "(IJ)I" } : Jvm.MethodName)) ∈ lw_tbl := qt5 _ (List.mem_of_getElem? (i := 236) rfl)
theorem qw1197 : (Jvm.Cond.static ({ cls := "AssertionGateModel", name := "foldName", desc := "(IJ)I" } : Jvm.MethodName)) ∈ lw_tbl := qt5 _ (List.mem_of_getElem? (i := 237) rfl)
theorem qw1198 : (Jvm.Cond.code ({ cls := "AssertionGateModel", name := "foldName", desc := "(IJ)I" } : Jvm.MethodName) prog_13_method_33_code (6 : Nat) (Option.some Jvm.ClassFile.FieldType.int)) ∈ lw_tbl := qt5 _ (List.mem_of_getElem? (i := 238) rfl)
theorem qw1200 : (Jvm.Cond.methodLink "AssertionGateModel" (181 : Nat) ({ cls := "AssertionGateModel", name := "foldAttribute", desc := "(II)I" } : Jvm.MethodName)) ∈ lw_tbl := qt6 _ (List.mem_of_getElem? (i := 0) rfl)
theorem qw1202 : (Jvm.Cond.instanceMethod ({ cls := "AssertionGateModel", name := "foldAttribute", desc := "(II)I" } : Jvm.MethodName)) ∈ lw_tbl := qt6 _ (List.mem_of_getElem? (i := 2) rfl)
theorem qw1203 : (Jvm.Cond.code ({ cls := "AssertionGateModel", name := "foldAttribute", desc := "(II)I" } : Jvm.MethodName) prog_13_method_34_code (5 : Nat) (Option.some Jvm.ClassFile.FieldType.int)) ∈ lw_tbl := qt6 _ (List.mem_of_getElem? (i := 3) rfl)
theorem qw1204 : (Jvm.Cond.methodLink "AssertionGateModel" (187 : Nat) ({ cls := "AssertionGateModel", name := "elementAt", desc := "(IZ)I" } : Jvm.MethodName)) ∈ lw_tbl := qt6 _ (List.mem_of_getElem? (i := 4) rfl)
theorem qw1206 : (Jvm.Cond.instanceMethod ({ cls := "AssertionGateModel", name := "elementAt", desc := "(IZ)I" } : Jvm.MethodName)) ∈ lw_tbl := qt6 _ (List.mem_of_getElem? (i := 6) rfl)
theorem qw1207 : (Jvm.Cond.code ({ cls := "AssertionGateModel", name := "elementAt", desc := "(IZ)I" } : Jvm.MethodName) prog_13_method_37_code (5 : Nat) (Option.some Jvm.ClassFile.FieldType.int)) ∈ lw_tbl := qt6 _ (List.mem_of_getElem? (i := 7) rfl)
theorem qw1208 : (Jvm.Cond.methodLink "AssertionGateModel" (191 : Nat) ({ cls := "AssertionGateModel", name := "foldTail", desc := "(II)I" } : Jvm.MethodName)) ∈ lw_tbl := qt6 _ (List.mem_of_getElem? (i := 8) rfl)
theorem qw1210 : (Jvm.Cond.instanceMethod ({ cls := "AssertionGateModel", name := "foldTail", desc := "(II)I" } : Jvm.MethodName)) ∈ lw_tbl := qt6 _ (List.mem_of_getElem? (i := 10) rfl)
theorem qw1211 : (Jvm.Cond.code ({ cls := "AssertionGateModel", name := "foldTail", desc := "(II)I" } : Jvm.MethodName) prog_13_method_36_code (4 : Nat) (Option.some Jvm.ClassFile.FieldType.int)) ∈ lw_tbl := qt6 _ (List.mem_of_getElem? (i := 11) rfl)
theorem qw1213 : (Jvm.Cond.methodLink "AssertionGateLaw" (93 : Nat) ({ cls := "AssertionGateModel", name := "seal", desc := "(II)I" } : Jvm.MethodName)) ∈ lw_tbl := qt6 _ (List.mem_of_getElem? (i := 13) rfl)
theorem qw1214 : (Jvm.Cond.instanceMethod ({ cls := "AssertionGateModel", name := "seal", desc := "(II)I" } : Jvm.MethodName)) ∈ lw_tbl := qt6 _ (List.mem_of_getElem? (i := 14) rfl)
theorem qw1215 : (Jvm.Cond.selects "AssertionGateModel" ({ cls := "AssertionGateModel", name := "seal", desc := "(II)I" } : Jvm.MethodName) ({ cls := "AssertionGateModel", name := "seal", desc := "(II)I" } : Jvm.MethodName)) ∈ lw_tbl := qt6 _ (List.mem_of_getElem? (i := 15) rfl)
theorem qw1216 : (Jvm.Cond.code ({ cls := "AssertionGateModel", name := "seal", desc := "(II)I" } : Jvm.MethodName) prog_13_method_40_code (4 : Nat) (Option.some Jvm.ClassFile.FieldType.int)) ∈ lw_tbl := qt6 _ (List.mem_of_getElem? (i := 16) rfl)
theorem qw1217 : (Jvm.Cond.methodLink "AssertionGateModel" (199 : Nat) ({ cls := "AssertionGateModel", name := "digest", desc := "(I)I" } : Jvm.MethodName)) ∈ lw_tbl := qt6 _ (List.mem_of_getElem? (i := 17) rfl)
theorem qw1218 : (Jvm.Cond.methodLink "AssertionGateModel" (202 : Nat) ({ cls := "AssertionGateModel", name := "power", desc := "(III)I" } : Jvm.MethodName)) ∈ lw_tbl := qt6 _ (List.mem_of_getElem? (i := 18) rfl)
theorem qw1219 : (Jvm.Cond.static ({ cls := "AssertionGateModel", name := "power", desc := "(III)I" } : Jvm.MethodName)) ∈ lw_tbl := qt6 _ (List.mem_of_getElem? (i := 19) rfl)
theorem qw1220 : (Jvm.Cond.code ({ cls := "AssertionGateModel", name := "power", desc := "(III)I" } : Jvm.MethodName) prog_13_method_10_code (13 : Nat) (Option.some Jvm.ClassFile.FieldType.int)) ∈ lw_tbl := qt6 _ (List.mem_of_getElem? (i := 20) rfl)
theorem qw1221 : (Jvm.Cond.methodLink "AssertionGateLaw" (97 : Nat) ({ cls := "AssertionGateModel", name := "consume", desc := "()I" } : Jvm.MethodName)) ∈ lw_tbl := qt6 _ (List.mem_of_getElem? (i := 21) rfl)
theorem qw1222 : (Jvm.Cond.instanceMethod ({ cls := "AssertionGateModel", name := "consume", desc := "()I" } : Jvm.MethodName)) ∈ lw_tbl := qt6 _ (List.mem_of_getElem? (i := 22) rfl)
theorem qw1223 : (Jvm.Cond.selects "AssertionGateModel" ({ cls := "AssertionGateModel", name := "consume", desc := "()I" } : Jvm.MethodName) ({ cls := "AssertionGateModel", name := "consume", desc := "()I" } : Jvm.MethodName)) ∈ lw_tbl := qt6 _ (List.mem_of_getElem? (i := 23) rfl)
theorem qw1224 : (Jvm.Cond.code ({ cls := "AssertionGateModel", name := "consume", desc := "()I" } : Jvm.MethodName) prog_13_method_60_code (4 : Nat) (Option.some Jvm.ClassFile.FieldType.int)) ∈ lw_tbl := qt6 _ (List.mem_of_getElem? (i := 24) rfl)
theorem qw1225 : (Jvm.Cond.methodLink "AssertionGateModel" (303 : Nat) ({ cls := "AssertionGateModel", name := "twice", desc := "()Z" } : Jvm.MethodName)) ∈ lw_tbl := qt6 _ (List.mem_of_getElem? (i := 25) rfl)
theorem qw1227 : (Jvm.Cond.instanceMethod ({ cls := "AssertionGateModel", name := "twice", desc := "()Z" } : Jvm.MethodName)) ∈ lw_tbl := qt6 _ (List.mem_of_getElem? (i := 27) rfl)
theorem qw1228 : (Jvm.Cond.code ({ cls := "AssertionGateModel", name := "twice", desc := "()Z" } : Jvm.MethodName) prog_13_method_50_code (6 : Nat) (Option.some Jvm.ClassFile.FieldType.boolean)) ∈ lw_tbl := qt6 _ (List.mem_of_getElem? (i := 28) rfl)
theorem qw1230 : (Jvm.Cond.methodLink "AssertionGateModel" (229 : Nat) ({ cls := "AssertionGateModel", name := "same", desc := "(II)Z" } : Jvm.MethodName)) ∈ lw_tbl := qt6 _ (List.mem_of_getElem? (i := 30) rfl)
theorem qw1232 : (Jvm.Cond.instanceMethod ({ cls := "AssertionGateModel", name := "same", desc := "(II)Z" } : Jvm.MethodName)) ∈ lw_tbl := qt6 _ (List.mem_of_getElem? (i := 32) rfl)
theorem qw1233 : (Jvm.Cond.code ({ cls := "AssertionGateModel", name := "same", desc := "(II)Z" } : Jvm.MethodName) prog_13_method_45_code (6 : Nat) (Option.some Jvm.ClassFile.FieldType.boolean)) ∈ lw_tbl := qt6 _ (List.mem_of_getElem? (i := 33) rfl)
theorem qw1234 : (Jvm.Cond.methodLink "AssertionGateModel" (306 : Nat) ({ cls := "AssertionGateModel", name := "isResponse", desc := "()Z" } : Jvm.MethodName)) ∈ lw_tbl := qt6 _ (List.mem_of_getElem? (i := 34) rfl)
theorem qw1236 : (Jvm.Cond.instanceMethod ({ cls := "AssertionGateModel", name := "isResponse", desc := "()Z" } : Jvm.MethodName)) ∈ lw_tbl := qt6 _ (List.mem_of_getElem? (i := 36) rfl)
theorem qw1237 : (Jvm.Cond.code ({ cls := "AssertionGateModel", name := "isResponse", desc := "()Z" } : Jvm.MethodName) prog_13_method_51_code (7 : Nat) (Option.some Jvm.ClassFile.FieldType.boolean)) ∈ lw_tbl := qt6 _ (List.mem_of_getElem? (i := 37) rfl)
theorem qw1239 : (Jvm.Cond.methodLink "AssertionGateModel" (234 : Nat) ({ cls := "AssertionGateModel", name := "keyOf", desc := "(IJ)J" } : Jvm.MethodName)) ∈ lw_tbl := qt6 _ (List.mem_of_getElem? (i := 39) rfl)
theorem qw1241 : (Jvm.Cond.instanceMethod ({ cls := "AssertionGateModel", name := "keyOf", desc := "(IJ)J" } : Jvm.MethodName)) ∈ lw_tbl := qt6 _ (List.mem_of_getElem? (i := 41) rfl)
theorem qw1242 : (Jvm.Cond.code ({ cls := "AssertionGateModel", name := "keyOf", desc := "(IJ)J" } : Jvm.MethodName) prog_13_method_43_code (5 : Nat) (Option.some Jvm.ClassFile.FieldType.long)) ∈ lw_tbl := qt6 _ (List.mem_of_getElem? (i := 42) rfl)
theorem qw1243 : (Jvm.Cond.methodLink "AssertionGateModel" (206 : Nat) ({ cls := "AssertionGateModel", name := "pack", desc := "(II)J" } : Jvm.MethodName)) ∈ lw_tbl := qt6 _ (List.mem_of_getElem? (i := 43) rfl)
theorem qw1245 : (Jvm.Cond.instanceMethod ({ cls := "AssertionGateModel", name := "pack", desc := "(II)J" } : Jvm.MethodName)) ∈ lw_tbl := qt6 _ (List.mem_of_getElem? (i := 45) rfl)
theorem qw1246 : (Jvm.Cond.code ({ cls := "AssertionGateModel", name := "pack", desc := "(II)J" } : Jvm.MethodName) prog_13_method_41_code (7 : Nat) (Option.some Jvm.ClassFile.FieldType.long)) ∈ lw_tbl := qt6 _ (List.mem_of_getElem? (i := 46) rfl)
theorem qw1249 : (Jvm.Cond.methodLink "AssertionGateModel" (242 : Nat) ({ cls := "AssertionGateModel", name := "sigs", desc := "(I)Z" } : Jvm.MethodName)) ∈ lw_tbl := qt6 _ (List.mem_of_getElem? (i := 49) rfl)
theorem qw1251 : (Jvm.Cond.instanceMethod ({ cls := "AssertionGateModel", name := "sigs", desc := "(I)Z" } : Jvm.MethodName)) ∈ lw_tbl := qt6 _ (List.mem_of_getElem? (i := 51) rfl)
theorem qw1252 : (Jvm.Cond.code ({ cls := "AssertionGateModel", name := "sigs", desc := "(I)Z" } : Jvm.MethodName) prog_13_method_49_code (3 : Nat) (Option.some Jvm.ClassFile.FieldType.boolean)) ∈ lw_tbl := qt6 _ (List.mem_of_getElem? (i := 52) rfl)
theorem qw1253 : (Jvm.Cond.methodLink "AssertionGateModel" (213 : Nat) ({ cls := "AssertionGateModel", name := "child", desc := "(IJ)I" } : Jvm.MethodName)) ∈ lw_tbl := qt6 _ (List.mem_of_getElem? (i := 53) rfl)
theorem qw1255 : (Jvm.Cond.instanceMethod ({ cls := "AssertionGateModel", name := "child", desc := "(IJ)I" } : Jvm.MethodName)) ∈ lw_tbl := qt6 _ (List.mem_of_getElem? (i := 55) rfl)
theorem qw1256 : (Jvm.Cond.code ({ cls := "AssertionGateModel", name := "child", desc := "(IJ)I" } : Jvm.MethodName) prog_13_method_47_code (5 : Nat) (Option.some Jvm.ClassFile.FieldType.int)) ∈ lw_tbl := qt6 _ (List.mem_of_getElem? (i := 56) rfl)
theorem qw1257 : (Jvm.Cond.methodLink "AssertionGateModel" (210 : Nat) ({ cls := "AssertionGateModel", name := "children", desc := "(IJ)I" } : Jvm.MethodName)) ∈ lw_tbl := qt6 _ (List.mem_of_getElem? (i := 57) rfl)
theorem qw1259 : (Jvm.Cond.instanceMethod ({ cls := "AssertionGateModel", name := "children", desc := "(IJ)I" } : Jvm.MethodName)) ∈ lw_tbl := qt6 _ (List.mem_of_getElem? (i := 59) rfl)
theorem qw1260 : (Jvm.Cond.code ({ cls := "AssertionGateModel", name := "children", desc := "(IJ)I" } : Jvm.MethodName) prog_13_method_46_code (6 : Nat) (Option.some Jvm.ClassFile.FieldType.int)) ∈ lw_tbl := qt6 _ (List.mem_of_getElem? (i := 60) rfl)
theorem qw1263 : (Jvm.Cond.methodLink "AssertionGateModel" (224 : Nat) ({ cls := "AssertionGateModel", name := "numberOf", desc := "(IJ)I" } : Jvm.MethodName)) ∈ lw_tbl := qt6 _ (List.mem_of_getElem? (i := 63) rfl)
theorem qw1265 : (Jvm.Cond.instanceMethod ({ cls := "AssertionGateModel", name := "numberOf", desc := "(IJ)I" } : Jvm.MethodName)) ∈ lw_tbl := qt6 _ (List.mem_of_getElem? (i := 65) rfl)
theorem qw1266 : (Jvm.Cond.code ({ cls := "AssertionGateModel", name := "numberOf", desc := "(IJ)I" } : Jvm.MethodName) prog_13_method_44_code (8 : Nat) (Option.some Jvm.ClassFile.FieldType.int)) ∈ lw_tbl := qt6 _ (List.mem_of_getElem? (i := 66) rfl)
theorem qw1268 : (Jvm.Cond.methodLink "AssertionGateModel" (247 : Nat) ({ cls := "AssertionGateModel", name := "oneWord", desc := "(IJ)Z" } : Jvm.MethodName)) ∈ lw_tbl := qt6 _ (List.mem_of_getElem? (i := 68) rfl)
theorem qw1270 : (Jvm.Cond.instanceMethod ({ cls := "AssertionGateModel", name := "oneWord", desc := "(IJ)Z" } : Jvm.MethodName)) ∈ lw_tbl := qt6 _ (List.mem_of_getElem? (i := 70) rfl)
theorem qw1271 : (Jvm.Cond.code ({ cls := "AssertionGateModel", name := "oneWord", desc := "(IJ)Z" } : Jvm.MethodName) prog_13_method_48_code (4 : Nat) (Option.some Jvm.ClassFile.FieldType.boolean)) ∈ lw_tbl := qt6 _ (List.mem_of_getElem? (i := 71) rfl)
theorem qw1272 : (Jvm.Cond.methodLink "AssertionGateModel" (216 : Nat) ({ cls := "AssertionGateModel", name := "wordOf", desc := "(I)J" } : Jvm.MethodName)) ∈ lw_tbl := qt6 _ (List.mem_of_getElem? (i := 72) rfl)
theorem qw1274 : (Jvm.Cond.instanceMethod ({ cls := "AssertionGateModel", name := "wordOf", desc := "(I)J" } : Jvm.MethodName)) ∈ lw_tbl := qt6 _ (List.mem_of_getElem? (i := 74) rfl)
theorem qw1275 : (Jvm.Cond.code ({ cls := "AssertionGateModel", name := "wordOf", desc := "(I)J" } : Jvm.MethodName) prog_13_method_42_code (2 : Nat) (Option.some Jvm.ClassFile.FieldType.long)) ∈ lw_tbl := qt6 _ (List.mem_of_getElem? (i := 75) rfl)
theorem qw1286 : (Jvm.Cond.methodLink "AssertionGateModel" (309 : Nat) ({ cls := "AssertionGateModel", name := "isLogout", desc := "()Z" } : Jvm.MethodName)) ∈ lw_tbl := qt6 _ (List.mem_of_getElem? (i := 86) rfl)
theorem qw1288 : (Jvm.Cond.instanceMethod ({ cls := "AssertionGateModel", name := "isLogout", desc := "()Z" } : Jvm.MethodName)) ∈ lw_tbl := qt6 _ (List.mem_of_getElem? (i := 88) rfl)
theorem qw1289 : (Jvm.Cond.code ({ cls := "AssertionGateModel", name := "isLogout", desc := "()Z" } : Jvm.MethodName) prog_13_method_52_code (1 : Nat) (Option.some Jvm.ClassFile.FieldType.boolean)) ∈ lw_tbl := qt6 _ (List.mem_of_getElem? (i := 89) rfl)
theorem qw1291 : (Jvm.Cond.methodLink "AssertionGateModel" (312 : Nat) ({ cls := "AssertionGateModel", name := "sound", desc := "(I)Z" } : Jvm.MethodName)) ∈ lw_tbl := qt6 _ (List.mem_of_getElem? (i := 91) rfl)
theorem qw1293 : (Jvm.Cond.instanceMethod ({ cls := "AssertionGateModel", name := "sound", desc := "(I)Z" } : Jvm.MethodName)) ∈ lw_tbl := qt6 _ (List.mem_of_getElem? (i := 93) rfl)
theorem qw1294 : (Jvm.Cond.code ({ cls := "AssertionGateModel", name := "sound", desc := "(I)Z" } : Jvm.MethodName) prog_13_method_54_code (5 : Nat) (Option.some Jvm.ClassFile.FieldType.boolean)) ∈ lw_tbl := qt6 _ (List.mem_of_getElem? (i := 94) rfl)
theorem qw1295 : (Jvm.Cond.methodLink "AssertionGateModel" (277 : Nat) ({ cls := "AssertionGateModel", name := "named", desc := "(I)I" } : Jvm.MethodName)) ∈ lw_tbl := qt6 _ (List.mem_of_getElem? (i := 95) rfl)
theorem qw1297 : (Jvm.Cond.instanceMethod ({ cls := "AssertionGateModel", name := "named", desc := "(I)I" } : Jvm.MethodName)) ∈ lw_tbl := qt6 _ (List.mem_of_getElem? (i := 97) rfl)
theorem qw1298 : (Jvm.Cond.code ({ cls := "AssertionGateModel", name := "named", desc := "(I)I" } : Jvm.MethodName) prog_13_method_53_code (4 : Nat) (Option.some Jvm.ClassFile.FieldType.int)) ∈ lw_tbl := qt6 _ (List.mem_of_getElem? (i := 98) rfl)
theorem qw1302 : (Jvm.Cond.methodLink "AssertionGateModel" (315 : Nat) ({ cls := "AssertionGateModel", name := "accept", desc := "(I)I" } : Jvm.MethodName)) ∈ lw_tbl := qt6 _ (List.mem_of_getElem? (i := 102) rfl)
theorem qw1304 : (Jvm.Cond.instanceMethod ({ cls := "AssertionGateModel", name := "accept", desc := "(I)I" } : Jvm.MethodName)) ∈ lw_tbl := qt6 _ (List.mem_of_getElem? (i := 104) rfl)
theorem qw1305 : (Jvm.Cond.code ({ cls := "AssertionGateModel", name := "accept", desc := "(I)I" } : Jvm.MethodName) prog_13_method_58_code (6 : Nat) (Option.some Jvm.ClassFile.FieldType.int)) ∈ lw_tbl := qt6 _ (List.mem_of_getElem? (i := 105) rfl)
theorem qw1306 : (Jvm.Cond.methodLink "AssertionGateModel" (289 : Nat) ({ cls := "AssertionGateModel", name := "faults", desc := "(I)I" } : Jvm.MethodName)) ∈ lw_tbl := qt6 _ (List.mem_of_getElem? (i := 106) rfl)
theorem qw1308 : (Jvm.Cond.instanceMethod ({ cls := "AssertionGateModel", name := "faults", desc := "(I)I" } : Jvm.MethodName)) ∈ lw_tbl := qt6 _ (List.mem_of_getElem? (i := 108) rfl)
theorem qw1309 : (Jvm.Cond.code ({ cls := "AssertionGateModel", name := "faults", desc := "(I)I" } : Jvm.MethodName) prog_13_method_57_code (6 : Nat) (Option.some Jvm.ClassFile.FieldType.int)) ∈ lw_tbl := qt6 _ (List.mem_of_getElem? (i := 109) rfl)
theorem qw1312 : (Jvm.Cond.methodLink "AssertionGateModel" (292 : Nat) ({ cls := "AssertionGateModel", name := "isSeen", desc := "(J)Z" } : Jvm.MethodName)) ∈ lw_tbl := qt6 _ (List.mem_of_getElem? (i := 112) rfl)
theorem qw1314 : (Jvm.Cond.instanceMethod ({ cls := "AssertionGateModel", name := "isSeen", desc := "(J)Z" } : Jvm.MethodName)) ∈ lw_tbl := qt6 _ (List.mem_of_getElem? (i := 114) rfl)
theorem qw1315 : (Jvm.Cond.code ({ cls := "AssertionGateModel", name := "isSeen", desc := "(J)Z" } : Jvm.MethodName) prog_13_method_55_code (5 : Nat) (Option.some Jvm.ClassFile.FieldType.boolean)) ∈ lw_tbl := qt6 _ (List.mem_of_getElem? (i := 115) rfl)
theorem qw1316 : (Jvm.Cond.methodLink "AssertionGateModel" (299 : Nat) ({ cls := "AssertionGateModel", name := "see", desc := "(J)V" } : Jvm.MethodName)) ∈ lw_tbl := qt6 _ (List.mem_of_getElem? (i := 116) rfl)
theorem qw1318 : (Jvm.Cond.instanceMethod ({ cls := "AssertionGateModel", name := "see", desc := "(J)V" } : Jvm.MethodName)) ∈ lw_tbl := qt6 _ (List.mem_of_getElem? (i := 118) rfl)
theorem qw1319 : (Jvm.Cond.code ({ cls := "AssertionGateModel", name := "see", desc := "(J)V" } : Jvm.MethodName) prog_13_method_56_code (3 : Nat) (Option.none : Option Jvm.ClassFile.FieldType)) ∈ lw_tbl := qt6 _ (List.mem_of_getElem? (i := 119) rfl)
theorem qw1320 : (Jvm.Cond.methodLink "AssertionGateModel" (318 : Nat) ({ cls := "AssertionGateModel", name := "logout", desc := "()I" } : Jvm.MethodName)) ∈ lw_tbl := qt6 _ (List.mem_of_getElem? (i := 120) rfl)
theorem qw1322 : (Jvm.Cond.instanceMethod ({ cls := "AssertionGateModel", name := "logout", desc := "()I" } : Jvm.MethodName)) ∈ lw_tbl := qt6 _ (List.mem_of_getElem? (i := 122) rfl)
theorem qw1323 : (Jvm.Cond.code ({ cls := "AssertionGateModel", name := "logout", desc := "()I" } : Jvm.MethodName) prog_13_method_59_code (5 : Nat) (Option.some Jvm.ClassFile.FieldType.int)) ∈ lw_tbl := qt6 _ (List.mem_of_getElem? (i := 123) rfl)
theorem qw1324 : (Jvm.Cond.methodLink "AssertionGateLaw" (101 : Nat) ({ cls := "AssertionGateModel", name := "session", desc := "(I)I" } : Jvm.MethodName)) ∈ lw_tbl := qt6 _ (List.mem_of_getElem? (i := 124) rfl)
theorem qw1325 : (Jvm.Cond.instanceMethod ({ cls := "AssertionGateModel", name := "session", desc := "(I)I" } : Jvm.MethodName)) ∈ lw_tbl := qt6 _ (List.mem_of_getElem? (i := 125) rfl)
theorem qw1326 : (Jvm.Cond.selects "AssertionGateModel" ({ cls := "AssertionGateModel", name := "session", desc := "(I)I" } : Jvm.MethodName) ({ cls := "AssertionGateModel", name := "session", desc := "(I)I" } : Jvm.MethodName)) ∈ lw_tbl := qt6 _ (List.mem_of_getElem? (i := 126) rfl)
theorem qw1327 : (Jvm.Cond.code ({ cls := "AssertionGateModel", name := "session", desc := "(I)I" } : Jvm.MethodName) prog_13_method_61_code (2 : Nat) (Option.some Jvm.ClassFile.FieldType.int)) ∈ lw_tbl := qt6 _ (List.mem_of_getElem? (i := 127) rfl)
theorem qw1328 : (Jvm.Cond.methodLink "AssertionGateLaw" (105 : Nat) ({ cls := "AssertionGateModel", name := "name", desc := "(II)I" } : Jvm.MethodName)) ∈ lw_tbl := qt6 _ (List.mem_of_getElem? (i := 128) rfl)
theorem qw1329 : (Jvm.Cond.instanceMethod ({ cls := "AssertionGateModel", name := "name", desc := "(II)I" } : Jvm.MethodName)) ∈ lw_tbl := qt6 _ (List.mem_of_getElem? (i := 129) rfl)
theorem qw1330 : (Jvm.Cond.selects "AssertionGateModel" ({ cls := "AssertionGateModel", name := "name", desc := "(II)I" } : Jvm.MethodName) ({ cls := "AssertionGateModel", name := "name", desc := "(II)I" } : Jvm.MethodName)) ∈ lw_tbl := qt6 _ (List.mem_of_getElem? (i := 130) rfl)
theorem qw1331 : (Jvm.Cond.code ({ cls := "AssertionGateModel", name := "name", desc := "(II)I" } : Jvm.MethodName) prog_13_method_62_code (6 : Nat) (Option.some Jvm.ClassFile.FieldType.int)) ∈ lw_tbl := qt6 _ (List.mem_of_getElem? (i := 131) rfl)
theorem qw1332 : (Jvm.Cond.methodLink "AssertionGateLaw" (44 : Nat) ({ cls := "AssertionGateModel", name := "issue", desc := "(IIIII)Z" } : Jvm.MethodName)) ∈ lw_tbl := qt6 _ (List.mem_of_getElem? (i := 132) rfl)
theorem qw1333 : (Jvm.Cond.instanceMethod ({ cls := "AssertionGateModel", name := "issue", desc := "(IIIII)Z" } : Jvm.MethodName)) ∈ lw_tbl := qt6 _ (List.mem_of_getElem? (i := 133) rfl)
theorem qw1334 : (Jvm.Cond.selects "AssertionGateModel" ({ cls := "AssertionGateModel", name := "issue", desc := "(IIIII)Z" } : Jvm.MethodName) ({ cls := "AssertionGateModel", name := "issue", desc := "(IIIII)Z" } : Jvm.MethodName)) ∈ lw_tbl := qt6 _ (List.mem_of_getElem? (i := 134) rfl)
theorem qw1335 : (Jvm.Cond.code ({ cls := "AssertionGateModel", name := "issue", desc := "(IIIII)Z" } : Jvm.MethodName) prog_13_method_71_code (8 : Nat) (Option.some Jvm.ClassFile.FieldType.boolean)) ∈ lw_tbl := qt6 _ (List.mem_of_getElem? (i := 135) rfl)
theorem qw1336 : (Jvm.Cond.methodLink "AssertionGateModel" (405 : Nat) ({ cls := "AssertionGateModel", name := "fill", desc := "(IIIIII)V" } : Jvm.MethodName)) ∈ lw_tbl := qt6 _ (List.mem_of_getElem? (i := 136) rfl)
theorem qw1338 : (Jvm.Cond.instanceMethod ({ cls := "AssertionGateModel", name := "fill", desc := "(IIIIII)V" } : Jvm.MethodName)) ∈ lw_tbl := qt6 _ (List.mem_of_getElem? (i := 138) rfl)
theorem qw1339 : (Jvm.Cond.code ({ cls := "AssertionGateModel", name := "fill", desc := "(IIIIII)V" } : Jvm.MethodName) prog_13_method_69_code (7 : Nat) (Option.none : Option Jvm.ClassFile.FieldType)) ∈ lw_tbl := qt6 _ (List.mem_of_getElem? (i := 139) rfl)
theorem qw1341 : (Jvm.Cond.methodLink "AssertionGateModel" (323 : Nat) ({ cls := "AssertionGateModel", name := "put", desc := "(J)V" } : Jvm.MethodName)) ∈ lw_tbl := qt6 _ (List.mem_of_getElem? (i := 141) rfl)
theorem qw1343 : (Jvm.Cond.instanceMethod ({ cls := "AssertionGateModel", name := "put", desc := "(J)V" } : Jvm.MethodName)) ∈ lw_tbl := qt6 _ (List.mem_of_getElem? (i := 143) rfl)
theorem qw1344 : (Jvm.Cond.code ({ cls := "AssertionGateModel", name := "put", desc := "(J)V" } : Jvm.MethodName) prog_13_method_63_code (5 : Nat) (Option.none : Option Jvm.ClassFile.FieldType)) ∈ lw_tbl := qt6 _ (List.mem_of_getElem? (i := 144) rfl)
theorem qw1346 : (Jvm.Cond.methodLink "AssertionGateModel" (331 : Nat) ({ cls := "AssertionGateModel", name := "putNumber", desc := "(I)V" } : Jvm.MethodName)) ∈ lw_tbl := qt6 _ (List.mem_of_getElem? (i := 146) rfl)
theorem qw1348 : (Jvm.Cond.instanceMethod ({ cls := "AssertionGateModel", name := "putNumber", desc := "(I)V" } : Jvm.MethodName)) ∈ lw_tbl := qt6 _ (List.mem_of_getElem? (i := 148) rfl)
theorem qw1349 : (Jvm.Cond.code ({ cls := "AssertionGateModel", name := "putNumber", desc := "(I)V" } : Jvm.MethodName) prog_13_method_64_code (3 : Nat) (Option.none : Option Jvm.ClassFile.FieldType)) ∈ lw_tbl := qt6 _ (List.mem_of_getElem? (i := 149) rfl)
theorem qw1353 : (Jvm.Cond.methodLink "AssertionGateModel" (374 : Nat) ({ cls := "AssertionGateModel", name := "putIssuer", desc := "(I)V" } : Jvm.MethodName)) ∈ lw_tbl := qt6 _ (List.mem_of_getElem? (i := 153) rfl)
theorem qw1355 : (Jvm.Cond.instanceMethod ({ cls := "AssertionGateModel", name := "putIssuer", desc := "(I)V" } : Jvm.MethodName)) ∈ lw_tbl := qt6 _ (List.mem_of_getElem? (i := 155) rfl)
theorem qw1356 : (Jvm.Cond.code ({ cls := "AssertionGateModel", name := "putIssuer", desc := "(I)V" } : Jvm.MethodName) prog_13_method_66_code (2 : Nat) (Option.none : Option Jvm.ClassFile.FieldType)) ∈ lw_tbl := qt6 _ (List.mem_of_getElem? (i := 156) rfl)
theorem qw1364 : (Jvm.Cond.methodLink "AssertionGateModel" (387 : Nat) ({ cls := "AssertionGateModel", name := "putSubject", desc := "(III)V" } : Jvm.MethodName)) ∈ lw_tbl := qt6 _ (List.mem_of_getElem? (i := 164) rfl)
theorem qw1366 : (Jvm.Cond.instanceMethod ({ cls := "AssertionGateModel", name := "putSubject", desc := "(III)V" } : Jvm.MethodName)) ∈ lw_tbl := qt6 _ (List.mem_of_getElem? (i := 166) rfl)
theorem qw1367 : (Jvm.Cond.code ({ cls := "AssertionGateModel", name := "putSubject", desc := "(III)V" } : Jvm.MethodName) prog_13_method_68_code (4 : Nat) (Option.none : Option Jvm.ClassFile.FieldType)) ∈ lw_tbl := qt6 _ (List.mem_of_getElem? (i := 167) rfl)
theorem qw1369 : (Jvm.Cond.methodLink "AssertionGateModel" (349 : Nat) ({ cls := "AssertionGateModel", name := "putUser", desc := "(I)V" } : Jvm.MethodName)) ∈ lw_tbl := qt6 _ (List.mem_of_getElem? (i := 169) rfl)
theorem qw1371 : (Jvm.Cond.instanceMethod ({ cls := "AssertionGateModel", name := "putUser", desc := "(I)V" } : Jvm.MethodName)) ∈ lw_tbl := qt6 _ (List.mem_of_getElem? (i := 171) rfl)
theorem qw1372 : (Jvm.Cond.code ({ cls := "AssertionGateModel", name := "putUser", desc := "(I)V" } : Jvm.MethodName) prog_13_method_67_code (2 : Nat) (Option.none : Option Jvm.ClassFile.FieldType)) ∈ lw_tbl := qt6 _ (List.mem_of_getElem? (i := 172) rfl)
theorem qw1385 : (Jvm.Cond.methodLink "AssertionGateModel" (397 : Nat) ({ cls := "AssertionGateModel", name := "putSig", desc := "(II)V" } : Jvm.MethodName)) ∈ lw_tbl := qt6 _ (List.mem_of_getElem? (i := 185) rfl)
theorem qw1387 : (Jvm.Cond.instanceMethod ({ cls := "AssertionGateModel", name := "putSig", desc := "(II)V" } : Jvm.MethodName)) ∈ lw_tbl := qt6 _ (List.mem_of_getElem? (i := 187) rfl)
theorem qw1388 : (Jvm.Cond.code ({ cls := "AssertionGateModel", name := "putSig", desc := "(II)V" } : Jvm.MethodName) prog_13_method_65_code (3 : Nat) (Option.none : Option Jvm.ClassFile.FieldType)) ∈ lw_tbl := qt6 _ (List.mem_of_getElem? (i := 188) rfl)
theorem qw1394 : (Jvm.Cond.methodLink "AssertionGateModel" (409 : Nat) ({ cls := "AssertionGateModel", name := "signature", desc := "(II)I" } : Jvm.MethodName)) ∈ lw_tbl := qt6 _ (List.mem_of_getElem? (i := 194) rfl)
theorem qw1396 : (Jvm.Cond.instanceMethod ({ cls := "AssertionGateModel", name := "signature", desc := "(II)I" } : Jvm.MethodName)) ∈ lw_tbl := qt6 _ (List.mem_of_getElem? (i := 196) rfl)
theorem qw1397 : (Jvm.Cond.code ({ cls := "AssertionGateModel", name := "signature", desc := "(II)I" } : Jvm.MethodName) prog_13_method_70_code (4 : Nat) (Option.some Jvm.ClassFile.FieldType.int)) ∈ lw_tbl := qt6 _ (List.mem_of_getElem? (i := 197) rfl)
theorem qw1398 : (Jvm.Cond.methodLink "AssertionGateLaw" (49 : Nat) ({ cls := "AssertionGateModel", name := "leave", desc := "(II)Z" } : Jvm.MethodName)) ∈ lw_tbl := qt6 _ (List.mem_of_getElem? (i := 198) rfl)
theorem qw1399 : (Jvm.Cond.instanceMethod ({ cls := "AssertionGateModel", name := "leave", desc := "(II)Z" } : Jvm.MethodName)) ∈ lw_tbl := qt6 _ (List.mem_of_getElem? (i := 199) rfl)
theorem qw1400 : (Jvm.Cond.selects "AssertionGateModel" ({ cls := "AssertionGateModel", name := "leave", desc := "(II)Z" } : Jvm.MethodName) ({ cls := "AssertionGateModel", name := "leave", desc := "(II)Z" } : Jvm.MethodName)) ∈ lw_tbl := qt6 _ (List.mem_of_getElem? (i := 200) rfl)
theorem qw1401 : (Jvm.Cond.code ({ cls := "AssertionGateModel", name := "leave", desc := "(II)Z" } : Jvm.MethodName) prog_13_method_73_code (4 : Nat) (Option.some Jvm.ClassFile.FieldType.boolean)) ∈ lw_tbl := qt6 _ (List.mem_of_getElem? (i := 201) rfl)
theorem qw1402 : (Jvm.Cond.methodLink "AssertionGateModel" (418 : Nat) ({ cls := "AssertionGateModel", name := "fillOut", desc := "(III)V" } : Jvm.MethodName)) ∈ lw_tbl := qt6 _ (List.mem_of_getElem? (i := 202) rfl)
theorem qw1404 : (Jvm.Cond.instanceMethod ({ cls := "AssertionGateModel", name := "fillOut", desc := "(III)V" } : Jvm.MethodName)) ∈ lw_tbl := qt6 _ (List.mem_of_getElem? (i := 204) rfl)
theorem qw1405 : (Jvm.Cond.code ({ cls := "AssertionGateModel", name := "fillOut", desc := "(III)V" } : Jvm.MethodName) prog_13_method_72_code (4 : Nat) (Option.none : Option Jvm.ClassFile.FieldType)) ∈ lw_tbl := qt6 _ (List.mem_of_getElem? (i := 205) rfl)
theorem qs0 : (Jvm.Cond.selects "AssertionGate" ({ cls := "AssertionGate", name := "putHead", desc := "(II)V" } : Jvm.MethodName) ({ cls := "AssertionGate", name := "putHead", desc := "(II)V" } : Jvm.MethodName)) ∈ lw_tbl := List.mem_append_left _ (List.mem_of_getElem? (i := 0) rfl)
theorem qs1 : (Jvm.Cond.selects "AssertionGate" ({ cls := "AssertionGate", name := "putIssuer", desc := "(I)V" } : Jvm.MethodName) ({ cls := "AssertionGate", name := "putIssuer", desc := "(I)V" } : Jvm.MethodName)) ∈ lw_tbl := List.mem_append_left _ (List.mem_of_getElem? (i := 1) rfl)
theorem qs2 : (Jvm.Cond.selects "AssertionGate" ({ cls := "AssertionGate", name := "putAssertion", desc := "(IIII)V" } : Jvm.MethodName) ({ cls := "AssertionGate", name := "putAssertion", desc := "(IIII)V" } : Jvm.MethodName)) ∈ lw_tbl := List.mem_append_left _ (List.mem_of_getElem? (i := 2) rfl)
theorem qs3 : (Jvm.Cond.selects "AssertionGate" ({ cls := "AssertionGate", name := "putUser", desc := "(I)V" } : Jvm.MethodName) ({ cls := "AssertionGate", name := "putUser", desc := "(I)V" } : Jvm.MethodName)) ∈ lw_tbl := List.mem_append_left _ (List.mem_of_getElem? (i := 3) rfl)
theorem qs4 : (Jvm.Cond.selects "AssertionGate" ({ cls := "AssertionGate", name := "sealOfRead", desc := "(II)I" } : Jvm.MethodName) ({ cls := "AssertionGate", name := "sealOfRead", desc := "(II)I" } : Jvm.MethodName)) ∈ lw_tbl := List.mem_append_left _ (List.mem_of_getElem? (i := 4) rfl)
theorem qs5 : (Jvm.Cond.selects "AssertionGate$Reader" ({ cls := "AssertionGate$Reader", name := "isBanned", desc := "()Z" } : Jvm.MethodName) ({ cls := "AssertionGate$Reader", name := "isBanned", desc := "()Z" } : Jvm.MethodName)) ∈ lw_tbl := List.mem_append_left _ (List.mem_of_getElem? (i := 5) rfl)
theorem qs6 : (Jvm.Cond.selects "AssertionGate$Reader" ({ cls := "AssertionGate$Reader", name := "afterStartTag", desc := "(I)I" } : Jvm.MethodName) ({ cls := "AssertionGate$Reader", name := "afterStartTag", desc := "(I)I" } : Jvm.MethodName)) ∈ lw_tbl := List.mem_append_left _ (List.mem_of_getElem? (i := 6) rfl)
theorem qs7 : (Jvm.Cond.selects "AssertionGate$Reader" ({ cls := "AssertionGate$Reader", name := "afterName", desc := "(I)I" } : Jvm.MethodName) ({ cls := "AssertionGate$Reader", name := "afterName", desc := "(I)I" } : Jvm.MethodName)) ∈ lw_tbl := List.mem_append_left _ (List.mem_of_getElem? (i := 7) rfl)
theorem qs8 : (Jvm.Cond.selects "AssertionGate$Reader" ({ cls := "AssertionGate$Reader", name := "afterAttributes", desc := "(II)I" } : Jvm.MethodName) ({ cls := "AssertionGate$Reader", name := "afterAttributes", desc := "(II)I" } : Jvm.MethodName)) ∈ lw_tbl := List.mem_append_left _ (List.mem_of_getElem? (i := 8) rfl)
theorem qs9 : (Jvm.Cond.selects "AssertionGate$Reader" ({ cls := "AssertionGate$Reader", name := "closingQuote", desc := "(I)I" } : Jvm.MethodName) ({ cls := "AssertionGate$Reader", name := "closingQuote", desc := "(I)I" } : Jvm.MethodName)) ∈ lw_tbl := List.mem_append_left _ (List.mem_of_getElem? (i := 9) rfl)
theorem qs10 : (Jvm.Cond.selects "AssertionGate$Reader" ({ cls := "AssertionGate$Reader", name := "afterEndTag", desc := "(I)I" } : Jvm.MethodName) ({ cls := "AssertionGate$Reader", name := "afterEndTag", desc := "(I)I" } : Jvm.MethodName)) ∈ lw_tbl := List.mem_append_left _ (List.mem_of_getElem? (i := 10) rfl)
theorem qs11 : (Jvm.Cond.selects "AssertionGate$Digester" ({ cls := "AssertionGate$Digester", name := "fold", desc := "(I)V" } : Jvm.MethodName) ({ cls := "AssertionGate$Digester", name := "fold", desc := "(I)V" } : Jvm.MethodName)) ∈ lw_tbl := List.mem_append_left _ (List.mem_of_getElem? (i := 11) rfl)
theorem qs12 : (Jvm.Cond.selects "AssertionGate$Digester" ({ cls := "AssertionGate$Digester", name := "foldEndTag", desc := "(I)I" } : Jvm.MethodName) ({ cls := "AssertionGate$Digester", name := "foldEndTag", desc := "(I)I" } : Jvm.MethodName)) ∈ lw_tbl := List.mem_append_left _ (List.mem_of_getElem? (i := 12) rfl)
theorem qs13 : (Jvm.Cond.selects "AssertionGate$Digester" ({ cls := "AssertionGate$Digester", name := "foldEnd", desc := "(II)V" } : Jvm.MethodName) ({ cls := "AssertionGate$Digester", name := "foldEnd", desc := "(II)V" } : Jvm.MethodName)) ∈ lw_tbl := List.mem_append_left _ (List.mem_of_getElem? (i := 13) rfl)
theorem qs14 : (Jvm.Cond.selects "AssertionGate$Digester" ({ cls := "AssertionGate$Digester", name := "foldSpan", desc := "(II)V" } : Jvm.MethodName) ({ cls := "AssertionGate$Digester", name := "foldSpan", desc := "(II)V" } : Jvm.MethodName)) ∈ lw_tbl := List.mem_append_left _ (List.mem_of_getElem? (i := 14) rfl)
theorem qs15 : (Jvm.Cond.selects "AssertionGate$Digester" ({ cls := "AssertionGate$Digester", name := "foldStartTag", desc := "(I)I" } : Jvm.MethodName) ({ cls := "AssertionGate$Digester", name := "foldStartTag", desc := "(I)I" } : Jvm.MethodName)) ∈ lw_tbl := List.mem_append_left _ (List.mem_of_getElem? (i := 15) rfl)
theorem qs16 : (Jvm.Cond.selects "AssertionGate$Digester" ({ cls := "AssertionGate$Digester", name := "passOver", desc := "(I)V" } : Jvm.MethodName) ({ cls := "AssertionGate$Digester", name := "passOver", desc := "(I)V" } : Jvm.MethodName)) ∈ lw_tbl := List.mem_append_left _ (List.mem_of_getElem? (i := 16) rfl)
theorem qs17 : (Jvm.Cond.selects "AssertionGate" ({ cls := "AssertionGate", name := "putSig", desc := "(CI)V" } : Jvm.MethodName) ({ cls := "AssertionGate", name := "putSig", desc := "(CI)V" } : Jvm.MethodName)) ∈ lw_tbl := List.mem_append_left _ (List.mem_of_getElem? (i := 17) rfl)
theorem qs18 : (Jvm.Cond.selects "AssertionGate$Response" ({ cls := "AssertionGate$Response", name := "findParts", desc := "()V" } : Jvm.MethodName) ({ cls := "AssertionGate$Response", name := "findParts", desc := "()V" } : Jvm.MethodName)) ∈ lw_tbl := List.mem_append_left _ (List.mem_of_getElem? (i := 18) rfl)
theorem qs19 : (Jvm.Cond.selects "AssertionGate$Response" ({ cls := "AssertionGate$Response", name := "isHeadSound", desc := "()Z" } : Jvm.MethodName) ({ cls := "AssertionGate$Response", name := "isHeadSound", desc := "()Z" } : Jvm.MethodName)) ∈ lw_tbl := List.mem_append_left _ (List.mem_of_getElem? (i := 19) rfl)
theorem qs20 : (Jvm.Cond.selects "AssertionGate$Response" ({ cls := "AssertionGate$Response", name := "isAssnSound", desc := "()Z" } : Jvm.MethodName) ({ cls := "AssertionGate$Response", name := "isAssnSound", desc := "()Z" } : Jvm.MethodName)) ∈ lw_tbl := List.mem_append_left _ (List.mem_of_getElem? (i := 20) rfl)
theorem qs21 : (Jvm.Cond.selects "AssertionGate$Response" ({ cls := "AssertionGate$Response", name := "isSubjSound", desc := "()Z" } : Jvm.MethodName) ({ cls := "AssertionGate$Response", name := "isSubjSound", desc := "()Z" } : Jvm.MethodName)) ∈ lw_tbl := List.mem_append_left _ (List.mem_of_getElem? (i := 21) rfl)
theorem qs22 : (Jvm.Cond.selects "AssertionGate" ({ cls := "AssertionGate", name := "takeResponse", desc := "()I" } : Jvm.MethodName) ({ cls := "AssertionGate", name := "takeResponse", desc := "()I" } : Jvm.MethodName)) ∈ lw_tbl := List.mem_append_left _ (List.mem_of_getElem? (i := 22) rfl)
theorem qs23 : (Jvm.Cond.selects "AssertionGate" ({ cls := "AssertionGate", name := "isValid", desc := "(III)Z" } : Jvm.MethodName) ({ cls := "AssertionGate", name := "isValid", desc := "(III)Z" } : Jvm.MethodName)) ∈ lw_tbl := List.mem_append_left _ (List.mem_of_getElem? (i := 23) rfl)
theorem qs24 : (Jvm.Cond.selects "AssertionGate" ({ cls := "AssertionGate", name := "trustedNamed", desc := "(I)I" } : Jvm.MethodName) ({ cls := "AssertionGate", name := "trustedNamed", desc := "(I)I" } : Jvm.MethodName)) ∈ lw_tbl := List.mem_append_left _ (List.mem_of_getElem? (i := 24) rfl)
theorem qs25 : (Jvm.Cond.selects "AssertionGate" ({ cls := "AssertionGate", name := "faultOfTerms", desc := "(I)I" } : Jvm.MethodName) ({ cls := "AssertionGate", name := "faultOfTerms", desc := "(I)I" } : Jvm.MethodName)) ∈ lw_tbl := List.mem_append_left _ (List.mem_of_getElem? (i := 25) rfl)
theorem qs26 : (Jvm.Cond.selects "AssertionGate" ({ cls := "AssertionGate", name := "hasRunOut", desc := "(I)Z" } : Jvm.MethodName) ({ cls := "AssertionGate", name := "hasRunOut", desc := "(I)Z" } : Jvm.MethodName)) ∈ lw_tbl := List.mem_append_left _ (List.mem_of_getElem? (i := 26) rfl)
theorem qs27 : (Jvm.Cond.selects "AssertionGate" ({ cls := "AssertionGate", name := "isSeen", desc := "(I)Z" } : Jvm.MethodName) ({ cls := "AssertionGate", name := "isSeen", desc := "(I)Z" } : Jvm.MethodName)) ∈ lw_tbl := List.mem_append_left _ (List.mem_of_getElem? (i := 27) rfl)
theorem qs28 : (Jvm.Cond.selects "AssertionGate" ({ cls := "AssertionGate", name := "markSeen", desc := "(I)V" } : Jvm.MethodName) ({ cls := "AssertionGate", name := "markSeen", desc := "(I)V" } : Jvm.MethodName)) ∈ lw_tbl := List.mem_append_left _ (List.mem_of_getElem? (i := 28) rfl)
theorem qs29 : (Jvm.Cond.selects "AssertionGate" ({ cls := "AssertionGate", name := "takeLogout", desc := "()I" } : Jvm.MethodName) ({ cls := "AssertionGate", name := "takeLogout", desc := "()I" } : Jvm.MethodName)) ∈ lw_tbl := List.mem_append_left _ (List.mem_of_getElem? (i := 29) rfl)
theorem qs30 : (Jvm.Cond.selects "AssertionGateModel" ({ cls := "AssertionGateModel", name := "waits", desc := "(I)Z" } : Jvm.MethodName) ({ cls := "AssertionGateModel", name := "waits", desc := "(I)Z" } : Jvm.MethodName)) ∈ lw_tbl := List.mem_append_left _ (List.mem_of_getElem? (i := 30) rfl)
theorem qs31 : (Jvm.Cond.selects "AssertionGateModel" ({ cls := "AssertionGateModel", name := "read", desc := "()I" } : Jvm.MethodName) ({ cls := "AssertionGateModel", name := "read", desc := "()I" } : Jvm.MethodName)) ∈ lw_tbl := List.mem_append_left _ (List.mem_of_getElem? (i := 31) rfl)
theorem qs32 : (Jvm.Cond.selects "AssertionGateModel" ({ cls := "AssertionGateModel", name := "banned", desc := "()Z" } : Jvm.MethodName) ({ cls := "AssertionGateModel", name := "banned", desc := "()Z" } : Jvm.MethodName)) ∈ lw_tbl := List.mem_append_left _ (List.mem_of_getElem? (i := 32) rfl)
theorem qs33 : (Jvm.Cond.selects "AssertionGateModel" ({ cls := "AssertionGateModel", name := "dashes", desc := "(I)Z" } : Jvm.MethodName) ({ cls := "AssertionGateModel", name := "dashes", desc := "(I)Z" } : Jvm.MethodName)) ∈ lw_tbl := List.mem_append_left _ (List.mem_of_getElem? (i := 33) rfl)
theorem qs34 : (Jvm.Cond.selects "AssertionGateModel" ({ cls := "AssertionGateModel", name := "tag", desc := "(II)I" } : Jvm.MethodName) ({ cls := "AssertionGateModel", name := "tag", desc := "(II)I" } : Jvm.MethodName)) ∈ lw_tbl := List.mem_append_left _ (List.mem_of_getElem? (i := 34) rfl)
theorem qs35 : (Jvm.Cond.selects "AssertionGateModel" ({ cls := "AssertionGateModel", name := "nameAt", desc := "(I)I" } : Jvm.MethodName) ({ cls := "AssertionGateModel", name := "nameAt", desc := "(I)I" } : Jvm.MethodName)) ∈ lw_tbl := List.mem_append_left _ (List.mem_of_getElem? (i := 35) rfl)
theorem qs36 : (Jvm.Cond.selects "AssertionGateModel" ({ cls := "AssertionGateModel", name := "spaces", desc := "(I)I" } : Jvm.MethodName) ({ cls := "AssertionGateModel", name := "spaces", desc := "(I)I" } : Jvm.MethodName)) ∈ lw_tbl := List.mem_append_left _ (List.mem_of_getElem? (i := 36) rfl)
theorem qs37 : (Jvm.Cond.selects "AssertionGateModel" ({ cls := "AssertionGateModel", name := "attribute", desc := "(II)I" } : Jvm.MethodName) ({ cls := "AssertionGateModel", name := "attribute", desc := "(II)I" } : Jvm.MethodName)) ∈ lw_tbl := List.mem_append_left _ (List.mem_of_getElem? (i := 37) rfl)
theorem qs38 : (Jvm.Cond.selects "AssertionGateModel" ({ cls := "AssertionGateModel", name := "find", desc := "(IJ)I" } : Jvm.MethodName) ({ cls := "AssertionGateModel", name := "find", desc := "(IJ)I" } : Jvm.MethodName)) ∈ lw_tbl := List.mem_append_left _ (List.mem_of_getElem? (i := 38) rfl)
theorem qs39 : (Jvm.Cond.selects "AssertionGateModel" ({ cls := "AssertionGateModel", name := "comment", desc := "(I)I" } : Jvm.MethodName) ({ cls := "AssertionGateModel", name := "comment", desc := "(I)I" } : Jvm.MethodName)) ∈ lw_tbl := List.mem_append_left _ (List.mem_of_getElem? (i := 39) rfl)
theorem qs40 : (Jvm.Cond.selects "AssertionGateModel" ({ cls := "AssertionGateModel", name := "close", desc := "(II)I" } : Jvm.MethodName) ({ cls := "AssertionGateModel", name := "close", desc := "(II)I" } : Jvm.MethodName)) ∈ lw_tbl := List.mem_append_left _ (List.mem_of_getElem? (i := 40) rfl)
theorem qs41 : (Jvm.Cond.selects "AssertionGateModel" ({ cls := "AssertionGateModel", name := "depth", desc := "(I)I" } : Jvm.MethodName) ({ cls := "AssertionGateModel", name := "depth", desc := "(I)I" } : Jvm.MethodName)) ∈ lw_tbl := List.mem_append_left _ (List.mem_of_getElem? (i := 41) rfl)
theorem qs42 : (Jvm.Cond.selects "AssertionGateModel" ({ cls := "AssertionGateModel", name := "digestOf", desc := "(I)I" } : Jvm.MethodName) ({ cls := "AssertionGateModel", name := "digestOf", desc := "(I)I" } : Jvm.MethodName)) ∈ lw_tbl := List.mem_append_left _ (List.mem_of_getElem? (i := 42) rfl)
theorem qs43 : (Jvm.Cond.selects "AssertionGateModel" ({ cls := "AssertionGateModel", name := "foldHead", desc := "(II)I" } : Jvm.MethodName) ({ cls := "AssertionGateModel", name := "foldHead", desc := "(II)I" } : Jvm.MethodName)) ∈ lw_tbl := List.mem_append_left _ (List.mem_of_getElem? (i := 43) rfl)
theorem qs44 : (Jvm.Cond.selects "AssertionGateModel" ({ cls := "AssertionGateModel", name := "foldAttribute", desc := "(II)I" } : Jvm.MethodName) ({ cls := "AssertionGateModel", name := "foldAttribute", desc := "(II)I" } : Jvm.MethodName)) ∈ lw_tbl := List.mem_append_left _ (List.mem_of_getElem? (i := 44) rfl)
theorem qs45 : (Jvm.Cond.selects "AssertionGateModel" ({ cls := "AssertionGateModel", name := "elementAt", desc := "(IZ)I" } : Jvm.MethodName) ({ cls := "AssertionGateModel", name := "elementAt", desc := "(IZ)I" } : Jvm.MethodName)) ∈ lw_tbl := List.mem_append_left _ (List.mem_of_getElem? (i := 45) rfl)
theorem qs46 : (Jvm.Cond.selects "AssertionGateModel" ({ cls := "AssertionGateModel", name := "foldTail", desc := "(II)I" } : Jvm.MethodName) ({ cls := "AssertionGateModel", name := "foldTail", desc := "(II)I" } : Jvm.MethodName)) ∈ lw_tbl := List.mem_append_left _ (List.mem_of_getElem? (i := 46) rfl)
theorem qs47 : (Jvm.Cond.selects "AssertionGateModel" ({ cls := "AssertionGateModel", name := "twice", desc := "()Z" } : Jvm.MethodName) ({ cls := "AssertionGateModel", name := "twice", desc := "()Z" } : Jvm.MethodName)) ∈ lw_tbl := List.mem_append_left _ (List.mem_of_getElem? (i := 47) rfl)
theorem qs48 : (Jvm.Cond.selects "AssertionGateModel" ({ cls := "AssertionGateModel", name := "same", desc := "(II)Z" } : Jvm.MethodName) ({ cls := "AssertionGateModel", name := "same", desc := "(II)Z" } : Jvm.MethodName)) ∈ lw_tbl := List.mem_append_left _ (List.mem_of_getElem? (i := 48) rfl)
theorem qs49 : (Jvm.Cond.selects "AssertionGateModel" ({ cls := "AssertionGateModel", name := "isResponse", desc := "()Z" } : Jvm.MethodName) ({ cls := "AssertionGateModel", name := "isResponse", desc := "()Z" } : Jvm.MethodName)) ∈ lw_tbl := List.mem_append_left _ (List.mem_of_getElem? (i := 49) rfl)
theorem qs50 : (Jvm.Cond.selects "AssertionGateModel" ({ cls := "AssertionGateModel", name := "keyOf", desc := "(IJ)J" } : Jvm.MethodName) ({ cls := "AssertionGateModel", name := "keyOf", desc := "(IJ)J" } : Jvm.MethodName)) ∈ lw_tbl := List.mem_append_left _ (List.mem_of_getElem? (i := 50) rfl)
theorem qs51 : (Jvm.Cond.selects "AssertionGateModel" ({ cls := "AssertionGateModel", name := "pack", desc := "(II)J" } : Jvm.MethodName) ({ cls := "AssertionGateModel", name := "pack", desc := "(II)J" } : Jvm.MethodName)) ∈ lw_tbl := List.mem_append_left _ (List.mem_of_getElem? (i := 51) rfl)
theorem qs52 : (Jvm.Cond.selects "AssertionGateModel" ({ cls := "AssertionGateModel", name := "sigs", desc := "(I)Z" } : Jvm.MethodName) ({ cls := "AssertionGateModel", name := "sigs", desc := "(I)Z" } : Jvm.MethodName)) ∈ lw_tbl := List.mem_append_left _ (List.mem_of_getElem? (i := 52) rfl)
theorem qs53 : (Jvm.Cond.selects "AssertionGateModel" ({ cls := "AssertionGateModel", name := "child", desc := "(IJ)I" } : Jvm.MethodName) ({ cls := "AssertionGateModel", name := "child", desc := "(IJ)I" } : Jvm.MethodName)) ∈ lw_tbl := List.mem_append_left _ (List.mem_of_getElem? (i := 53) rfl)
theorem qs54 : (Jvm.Cond.selects "AssertionGateModel" ({ cls := "AssertionGateModel", name := "children", desc := "(IJ)I" } : Jvm.MethodName) ({ cls := "AssertionGateModel", name := "children", desc := "(IJ)I" } : Jvm.MethodName)) ∈ lw_tbl := List.mem_append_left _ (List.mem_of_getElem? (i := 54) rfl)
theorem qs55 : (Jvm.Cond.selects "AssertionGateModel" ({ cls := "AssertionGateModel", name := "numberOf", desc := "(IJ)I" } : Jvm.MethodName) ({ cls := "AssertionGateModel", name := "numberOf", desc := "(IJ)I" } : Jvm.MethodName)) ∈ lw_tbl := List.mem_append_left _ (List.mem_of_getElem? (i := 55) rfl)
theorem qs56 : (Jvm.Cond.selects "AssertionGateModel" ({ cls := "AssertionGateModel", name := "oneWord", desc := "(IJ)Z" } : Jvm.MethodName) ({ cls := "AssertionGateModel", name := "oneWord", desc := "(IJ)Z" } : Jvm.MethodName)) ∈ lw_tbl := List.mem_append_left _ (List.mem_of_getElem? (i := 56) rfl)
theorem qs57 : (Jvm.Cond.selects "AssertionGateModel" ({ cls := "AssertionGateModel", name := "wordOf", desc := "(I)J" } : Jvm.MethodName) ({ cls := "AssertionGateModel", name := "wordOf", desc := "(I)J" } : Jvm.MethodName)) ∈ lw_tbl := List.mem_append_left _ (List.mem_of_getElem? (i := 57) rfl)
theorem qs58 : (Jvm.Cond.selects "AssertionGateModel" ({ cls := "AssertionGateModel", name := "isLogout", desc := "()Z" } : Jvm.MethodName) ({ cls := "AssertionGateModel", name := "isLogout", desc := "()Z" } : Jvm.MethodName)) ∈ lw_tbl := List.mem_append_left _ (List.mem_of_getElem? (i := 58) rfl)
theorem qs59 : (Jvm.Cond.selects "AssertionGateModel" ({ cls := "AssertionGateModel", name := "sound", desc := "(I)Z" } : Jvm.MethodName) ({ cls := "AssertionGateModel", name := "sound", desc := "(I)Z" } : Jvm.MethodName)) ∈ lw_tbl := List.mem_append_left _ (List.mem_of_getElem? (i := 59) rfl)
theorem qs60 : (Jvm.Cond.selects "AssertionGateModel" ({ cls := "AssertionGateModel", name := "named", desc := "(I)I" } : Jvm.MethodName) ({ cls := "AssertionGateModel", name := "named", desc := "(I)I" } : Jvm.MethodName)) ∈ lw_tbl := List.mem_append_left _ (List.mem_of_getElem? (i := 60) rfl)
theorem qs61 : (Jvm.Cond.selects "AssertionGateModel" ({ cls := "AssertionGateModel", name := "accept", desc := "(I)I" } : Jvm.MethodName) ({ cls := "AssertionGateModel", name := "accept", desc := "(I)I" } : Jvm.MethodName)) ∈ lw_tbl := List.mem_append_left _ (List.mem_of_getElem? (i := 61) rfl)
theorem qs62 : (Jvm.Cond.selects "AssertionGateModel" ({ cls := "AssertionGateModel", name := "faults", desc := "(I)I" } : Jvm.MethodName) ({ cls := "AssertionGateModel", name := "faults", desc := "(I)I" } : Jvm.MethodName)) ∈ lw_tbl := List.mem_append_left _ (List.mem_of_getElem? (i := 62) rfl)
theorem qs63 : (Jvm.Cond.selects "AssertionGateModel" ({ cls := "AssertionGateModel", name := "isSeen", desc := "(J)Z" } : Jvm.MethodName) ({ cls := "AssertionGateModel", name := "isSeen", desc := "(J)Z" } : Jvm.MethodName)) ∈ lw_tbl := List.mem_append_left _ (List.mem_of_getElem? (i := 63) rfl)
theorem qs64 : (Jvm.Cond.selects "AssertionGateModel" ({ cls := "AssertionGateModel", name := "see", desc := "(J)V" } : Jvm.MethodName) ({ cls := "AssertionGateModel", name := "see", desc := "(J)V" } : Jvm.MethodName)) ∈ lw_tbl := List.mem_append_left _ (List.mem_of_getElem? (i := 64) rfl)
theorem qs65 : (Jvm.Cond.selects "AssertionGateModel" ({ cls := "AssertionGateModel", name := "logout", desc := "()I" } : Jvm.MethodName) ({ cls := "AssertionGateModel", name := "logout", desc := "()I" } : Jvm.MethodName)) ∈ lw_tbl := List.mem_append_left _ (List.mem_of_getElem? (i := 65) rfl)
theorem qs66 : (Jvm.Cond.selects "AssertionGateModel" ({ cls := "AssertionGateModel", name := "fill", desc := "(IIIIII)V" } : Jvm.MethodName) ({ cls := "AssertionGateModel", name := "fill", desc := "(IIIIII)V" } : Jvm.MethodName)) ∈ lw_tbl := List.mem_append_left _ (List.mem_of_getElem? (i := 66) rfl)
theorem qs67 : (Jvm.Cond.selects "AssertionGateModel" ({ cls := "AssertionGateModel", name := "put", desc := "(J)V" } : Jvm.MethodName) ({ cls := "AssertionGateModel", name := "put", desc := "(J)V" } : Jvm.MethodName)) ∈ lw_tbl := List.mem_append_left _ (List.mem_of_getElem? (i := 67) rfl)
theorem qs68 : (Jvm.Cond.selects "AssertionGateModel" ({ cls := "AssertionGateModel", name := "putNumber", desc := "(I)V" } : Jvm.MethodName) ({ cls := "AssertionGateModel", name := "putNumber", desc := "(I)V" } : Jvm.MethodName)) ∈ lw_tbl := List.mem_append_left _ (List.mem_of_getElem? (i := 68) rfl)
theorem qs69 : (Jvm.Cond.selects "AssertionGateModel" ({ cls := "AssertionGateModel", name := "putIssuer", desc := "(I)V" } : Jvm.MethodName) ({ cls := "AssertionGateModel", name := "putIssuer", desc := "(I)V" } : Jvm.MethodName)) ∈ lw_tbl := List.mem_append_left _ (List.mem_of_getElem? (i := 69) rfl)
theorem qs70 : (Jvm.Cond.selects "AssertionGateModel" ({ cls := "AssertionGateModel", name := "putSubject", desc := "(III)V" } : Jvm.MethodName) ({ cls := "AssertionGateModel", name := "putSubject", desc := "(III)V" } : Jvm.MethodName)) ∈ lw_tbl := List.mem_append_left _ (List.mem_of_getElem? (i := 70) rfl)
theorem qs71 : (Jvm.Cond.selects "AssertionGateModel" ({ cls := "AssertionGateModel", name := "putUser", desc := "(I)V" } : Jvm.MethodName) ({ cls := "AssertionGateModel", name := "putUser", desc := "(I)V" } : Jvm.MethodName)) ∈ lw_tbl := List.mem_append_left _ (List.mem_of_getElem? (i := 71) rfl)
theorem qs72 : (Jvm.Cond.selects "AssertionGateModel" ({ cls := "AssertionGateModel", name := "putSig", desc := "(II)V" } : Jvm.MethodName) ({ cls := "AssertionGateModel", name := "putSig", desc := "(II)V" } : Jvm.MethodName)) ∈ lw_tbl := List.mem_append_left _ (List.mem_of_getElem? (i := 72) rfl)
theorem qs73 : (Jvm.Cond.selects "AssertionGateModel" ({ cls := "AssertionGateModel", name := "signature", desc := "(II)I" } : Jvm.MethodName) ({ cls := "AssertionGateModel", name := "signature", desc := "(II)I" } : Jvm.MethodName)) ∈ lw_tbl := List.mem_append_left _ (List.mem_of_getElem? (i := 73) rfl)
theorem qs74 : (Jvm.Cond.selects "AssertionGateModel" ({ cls := "AssertionGateModel", name := "fillOut", desc := "(III)V" } : Jvm.MethodName) ({ cls := "AssertionGateModel", name := "fillOut", desc := "(III)V" } : Jvm.MethodName)) ∈ lw_tbl := List.mem_append_left _ (List.mem_of_getElem? (i := 74) rfl)
end
