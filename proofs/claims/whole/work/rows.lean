section
/-- a private method of a class that the tables say can be made, by its rows of tables_1 -/
def lw_okq (q : MethodName × Nat) : Prop := (q.1.cls ≠ "java/lang/invoke/MethodHandle" ∧ q.1.cls ≠ "java/lang/invoke/VarHandle") ∧ Cond.instantiable q.1.cls q.2 ∈ tables_1 ∧ Cond.privateMethod q.1 ∈ tables_1 ∧ Cond.instanceMethod q.1 ∈ tables_1
theorem lw_p0 : lw_okq (⟨"LeftGloves", "finding", "(I)I"⟩, 8) := ⟨⟨by decide +kernel, by decide +kernel⟩, List.mem_of_getElem? (i := 17) (by decide +kernel), List.mem_of_getElem? (i := 212) (by decide +kernel), List.mem_of_getElem? (i := 213) (by decide +kernel)⟩
theorem lw_p1 : lw_okq (⟨"LeftGloves", "daysUntil", "(III)I"⟩, 8) := ⟨⟨by decide +kernel, by decide +kernel⟩, List.mem_of_getElem? (i := 17) (by decide +kernel), List.mem_of_getElem? (i := 448) (by decide +kernel), List.mem_of_getElem? (i := 449) (by decide +kernel)⟩
theorem lw_p2 : lw_okq (⟨"LeftGloves", "isSoInTrial", "(III)Z"⟩, 8) := ⟨⟨by decide +kernel, by decide +kernel⟩, List.mem_of_getElem? (i := 17) (by decide +kernel), List.mem_of_getElem? (i := 452) (by decide +kernel), List.mem_of_getElem? (i := 453) (by decide +kernel)⟩
theorem lw_p3 : lw_okq (⟨"LeftGloves", "bestFor", "(IIII)I"⟩, 8) := ⟨⟨by decide +kernel, by decide +kernel⟩, List.mem_of_getElem? (i := 17) (by decide +kernel), List.mem_of_getElem? (i := 472) (by decide +kernel), List.mem_of_getElem? (i := 473) (by decide +kernel)⟩
theorem lw_p4 : lw_okq (⟨"LeftGloves", "tryOut", "(III)V"⟩, 8) := ⟨⟨by decide +kernel, by decide +kernel⟩, List.mem_of_getElem? (i := 17) (by decide +kernel), List.mem_of_getElem? (i := 476) (by decide +kernel), List.mem_of_getElem? (i := 477) (by decide +kernel)⟩
theorem lw_p5 : lw_okq (⟨"LeftGloves", "comesToKnowWithout", "(IIII)Z"⟩, 8) := ⟨⟨by decide +kernel, by decide +kernel⟩, List.mem_of_getElem? (i := 17) (by decide +kernel), List.mem_of_getElem? (i := 506) (by decide +kernel), List.mem_of_getElem? (i := 507) (by decide +kernel)⟩
theorem lw_p6 : lw_okq (⟨"LeftGloves", "choicesAsTold", "(IIII)I"⟩, 8) := ⟨⟨by decide +kernel, by decide +kernel⟩, List.mem_of_getElem? (i := 17) (by decide +kernel), List.mem_of_getElem? (i := 514) (by decide +kernel), List.mem_of_getElem? (i := 515) (by decide +kernel)⟩
theorem lw_p7 : lw_okq (⟨"LeftGloves", "lackOf", "(I)I"⟩, 8) := ⟨⟨by decide +kernel, by decide +kernel⟩, List.mem_of_getElem? (i := 17) (by decide +kernel), List.mem_of_getElem? (i := 518) (by decide +kernel), List.mem_of_getElem? (i := 519) (by decide +kernel)⟩
theorem lw_p8 : lw_okq (⟨"LeftGloves", "trialGoesAsTold", "(LLeftGloves$Sheet;I)Z"⟩, 8) := ⟨⟨by decide +kernel, by decide +kernel⟩, List.mem_of_getElem? (i := 17) (by decide +kernel), List.mem_of_getElem? (i := 530) (by decide +kernel), List.mem_of_getElem? (i := 531) (by decide +kernel)⟩
theorem lw_p9 : lw_okq (⟨"LeftGloves$Tokens", "begin", "(II)V"⟩, 5) := ⟨⟨by decide +kernel, by decide +kernel⟩, List.mem_of_getElem? (i := 121) (by decide +kernel), List.mem_of_getElem? (i := 594) (by decide +kernel), List.mem_of_getElem? (i := 595) (by decide +kernel)⟩
theorem lw_p10 : lw_okq (⟨"LeftGloves$Tokens", "takeUp", "(II)V"⟩, 5) := ⟨⟨by decide +kernel, by decide +kernel⟩, List.mem_of_getElem? (i := 121) (by decide +kernel), List.mem_of_getElem? (i := 598) (by decide +kernel), List.mem_of_getElem? (i := 599) (by decide +kernel)⟩
theorem lw_p11 : lw_okq (⟨"LeftGloves$Tokens", "nameWords", "(LLeftGloves$Tape;)V"⟩, 5) := ⟨⟨by decide +kernel, by decide +kernel⟩, List.mem_of_getElem? (i := 121) (by decide +kernel), List.mem_of_getElem? (i := 605) (by decide +kernel), List.mem_of_getElem? (i := 606) (by decide +kernel)⟩
theorem lw_p12 : lw_okq (⟨"LeftGloves$TextReader", "takeItem", "(LLeftGloves$Club;)V"⟩, 3) := ⟨⟨by decide +kernel, by decide +kernel⟩, List.mem_of_getElem? (i := 115) (by decide +kernel), List.mem_of_getElem? (i := 678) (by decide +kernel), List.mem_of_getElem? (i := 679) (by decide +kernel)⟩
theorem lw_p13 : lw_okq (⟨"LeftGloves$TextReader", "takes", "(I)Z"⟩, 3) := ⟨⟨by decide +kernel, by decide +kernel⟩, List.mem_of_getElem? (i := 115) (by decide +kernel), List.mem_of_getElem? (i := 682) (by decide +kernel), List.mem_of_getElem? (i := 683) (by decide +kernel)⟩
theorem lw_p14 : lw_okq (⟨"LeftGloves$TextReader", "takeSaying", "(LLeftGloves$Club;)V"⟩, 3) := ⟨⟨by decide +kernel, by decide +kernel⟩, List.mem_of_getElem? (i := 115) (by decide +kernel), List.mem_of_getElem? (i := 690) (by decide +kernel), List.mem_of_getElem? (i := 691) (by decide +kernel)⟩
theorem lw_p15 : lw_okq (⟨"LeftGloves$TextReader", "takeNumber", "(I)I"⟩, 3) := ⟨⟨by decide +kernel, by decide +kernel⟩, List.mem_of_getElem? (i := 115) (by decide +kernel), List.mem_of_getElem? (i := 694) (by decide +kernel), List.mem_of_getElem? (i := 695) (by decide +kernel)⟩
def lw_privs_1 : List (MethodName × Nat) := [(⟨"LeftGloves", "finding", "(I)I"⟩, 8), (⟨"LeftGloves", "daysUntil", "(III)I"⟩, 8), (⟨"LeftGloves", "isSoInTrial", "(III)Z"⟩, 8), (⟨"LeftGloves", "bestFor", "(IIII)I"⟩, 8), (⟨"LeftGloves", "tryOut", "(III)V"⟩, 8), (⟨"LeftGloves", "comesToKnowWithout", "(IIII)Z"⟩, 8), (⟨"LeftGloves", "choicesAsTold", "(IIII)I"⟩, 8), (⟨"LeftGloves", "lackOf", "(I)I"⟩, 8), (⟨"LeftGloves", "trialGoesAsTold", "(LLeftGloves$Sheet;I)Z"⟩, 8), (⟨"LeftGloves$Tokens", "begin", "(II)V"⟩, 5), (⟨"LeftGloves$Tokens", "takeUp", "(II)V"⟩, 5), (⟨"LeftGloves$Tokens", "nameWords", "(LLeftGloves$Tape;)V"⟩, 5), (⟨"LeftGloves$TextReader", "takeItem", "(LLeftGloves$Club;)V"⟩, 3), (⟨"LeftGloves$TextReader", "takes", "(I)Z"⟩, 3), (⟨"LeftGloves$TextReader", "takeSaying", "(LLeftGloves$Club;)V"⟩, 3), (⟨"LeftGloves$TextReader", "takeNumber", "(I)I"⟩, 3)]
theorem lw_r1 : ∀ q ∈ lw_privs_1, lw_okq q := List.forall_mem_cons.mpr ⟨lw_p0, List.forall_mem_cons.mpr ⟨lw_p1, List.forall_mem_cons.mpr ⟨lw_p2, List.forall_mem_cons.mpr ⟨lw_p3, List.forall_mem_cons.mpr ⟨lw_p4, List.forall_mem_cons.mpr ⟨lw_p5, List.forall_mem_cons.mpr ⟨lw_p6, List.forall_mem_cons.mpr ⟨lw_p7, List.forall_mem_cons.mpr ⟨lw_p8, List.forall_mem_cons.mpr ⟨lw_p9, List.forall_mem_cons.mpr ⟨lw_p10, List.forall_mem_cons.mpr ⟨lw_p11, List.forall_mem_cons.mpr ⟨lw_p12, List.forall_mem_cons.mpr ⟨lw_p13, List.forall_mem_cons.mpr ⟨lw_p14, List.forall_mem_cons.mpr ⟨lw_p15, fun _ h => absurd h List.not_mem_nil⟩⟩⟩⟩⟩⟩⟩⟩⟩⟩⟩⟩⟩⟩⟩⟩
theorem lw_p16 : lw_okq (⟨"LeftGloves$TextReader", "takeHand", "(LLeftGloves$Club;)V"⟩, 3) := ⟨⟨by decide +kernel, by decide +kernel⟩, List.mem_of_getElem? (i := 115) (by decide +kernel), List.mem_of_getElem? (i := 703) (by decide +kernel), List.mem_of_getElem? (i := 704) (by decide +kernel)⟩
theorem lw_p17 : lw_okq (⟨"LeftGloves$TextReader", "takeGlove", "(LLeftGloves$Club;)V"⟩, 3) := ⟨⟨by decide +kernel, by decide +kernel⟩, List.mem_of_getElem? (i := 115) (by decide +kernel), List.mem_of_getElem? (i := 708) (by decide +kernel), List.mem_of_getElem? (i := 709) (by decide +kernel)⟩
theorem lw_p18 : lw_okq (⟨"LeftGloves$TextReader", "takeTrait", "(ILLeftGloves$Glove;I)V"⟩, 3) := ⟨⟨by decide +kernel, by decide +kernel⟩, List.mem_of_getElem? (i := 115) (by decide +kernel), List.mem_of_getElem? (i := 714) (by decide +kernel), List.mem_of_getElem? (i := 715) (by decide +kernel)⟩
theorem lw_p19 : lw_okq (⟨"LeftGlovesModel", "becomes", "(II)I"⟩, 18) := ⟨⟨by decide +kernel, by decide +kernel⟩, List.mem_of_getElem? (i := 798) (by decide +kernel), List.mem_of_getElem? (i := 874) (by decide +kernel), List.mem_of_getElem? (i := 875) (by decide +kernel)⟩
theorem lw_p20 : lw_okq (⟨"LeftGlovesModel", "finds", "(I)I"⟩, 18) := ⟨⟨by decide +kernel, by decide +kernel⟩, List.mem_of_getElem? (i := 798) (by decide +kernel), List.mem_of_getElem? (i := 878) (by decide +kernel), List.mem_of_getElem? (i := 879) (by decide +kernel)⟩
theorem lw_p21 : lw_okq (⟨"LeftGlovesModel", "isIn", "(II)Z"⟩, 18) := ⟨⟨by decide +kernel, by decide +kernel⟩, List.mem_of_getElem? (i := 798) (by decide +kernel), List.mem_of_getElem? (i := 892) (by decide +kernel), List.mem_of_getElem? (i := 893) (by decide +kernel)⟩
theorem lw_p22 : lw_okq (⟨"LeftGlovesModel", "its", "(II)I"⟩, 18) := ⟨⟨by decide +kernel, by decide +kernel⟩, List.mem_of_getElem? (i := 798) (by decide +kernel), List.mem_of_getElem? (i := 896) (by decide +kernel), List.mem_of_getElem? (i := 897) (by decide +kernel)⟩
theorem lw_p23 : lw_okq (⟨"LeftGlovesModel", "hushIn", "(I)I"⟩, 18) := ⟨⟨by decide +kernel, by decide +kernel⟩, List.mem_of_getElem? (i := 798) (by decide +kernel), List.mem_of_getElem? (i := 900) (by decide +kernel), List.mem_of_getElem? (i := 901) (by decide +kernel)⟩
theorem lw_p24 : lw_okq (⟨"LeftGlovesModel", "hushes", "(I)I"⟩, 18) := ⟨⟨by decide +kernel, by decide +kernel⟩, List.mem_of_getElem? (i := 798) (by decide +kernel), List.mem_of_getElem? (i := 904) (by decide +kernel), List.mem_of_getElem? (i := 905) (by decide +kernel)⟩
theorem lw_p25 : lw_okq (⟨"LeftGlovesModel", "known", "(II)I"⟩, 18) := ⟨⟨by decide +kernel, by decide +kernel⟩, List.mem_of_getElem? (i := 798) (by decide +kernel), List.mem_of_getElem? (i := 908) (by decide +kernel), List.mem_of_getElem? (i := 909) (by decide +kernel)⟩
theorem lw_p26 : lw_okq (⟨"LeftGlovesModel", "comes", "(II)I"⟩, 18) := ⟨⟨by decide +kernel, by decide +kernel⟩, List.mem_of_getElem? (i := 798) (by decide +kernel), List.mem_of_getElem? (i := 917) (by decide +kernel), List.mem_of_getElem? (i := 918) (by decide +kernel)⟩
theorem lw_p27 : lw_okq (⟨"LeftGlovesModel", "sets", "(III)V"⟩, 18) := ⟨⟨by decide +kernel, by decide +kernel⟩, List.mem_of_getElem? (i := 798) (by decide +kernel), List.mem_of_getElem? (i := 921) (by decide +kernel), List.mem_of_getElem? (i := 922) (by decide +kernel)⟩
theorem lw_p28 : lw_okq (⟨"LeftGlovesModel", "isGlove", "(I)Z"⟩, 18) := ⟨⟨by decide +kernel, by decide +kernel⟩, List.mem_of_getElem? (i := 798) (by decide +kernel), List.mem_of_getElem? (i := 929) (by decide +kernel), List.mem_of_getElem? (i := 930) (by decide +kernel)⟩
theorem lw_p29 : lw_okq (⟨"LeftGlovesModel", "needs", "(I)I"⟩, 18) := ⟨⟨by decide +kernel, by decide +kernel⟩, List.mem_of_getElem? (i := 798) (by decide +kernel), List.mem_of_getElem? (i := 934) (by decide +kernel), List.mem_of_getElem? (i := 935) (by decide +kernel)⟩
theorem lw_p30 : lw_okq (⟨"LeftGlovesModel", "hasOther", "(I)Z"⟩, 18) := ⟨⟨by decide +kernel, by decide +kernel⟩, List.mem_of_getElem? (i := 798) (by decide +kernel), List.mem_of_getElem? (i := 941) (by decide +kernel), List.mem_of_getElem? (i := 942) (by decide +kernel)⟩
theorem lw_p31 : lw_okq (⟨"LeftGlovesModel", "stays", "(I)I"⟩, 18) := ⟨⟨by decide +kernel, by decide +kernel⟩, List.mem_of_getElem? (i := 798) (by decide +kernel), List.mem_of_getElem? (i := 945) (by decide +kernel), List.mem_of_getElem? (i := 946) (by decide +kernel)⟩
def lw_privs_2 : List (MethodName × Nat) := [(⟨"LeftGloves$TextReader", "takeHand", "(LLeftGloves$Club;)V"⟩, 3), (⟨"LeftGloves$TextReader", "takeGlove", "(LLeftGloves$Club;)V"⟩, 3), (⟨"LeftGloves$TextReader", "takeTrait", "(ILLeftGloves$Glove;I)V"⟩, 3), (⟨"LeftGlovesModel", "becomes", "(II)I"⟩, 18), (⟨"LeftGlovesModel", "finds", "(I)I"⟩, 18), (⟨"LeftGlovesModel", "isIn", "(II)Z"⟩, 18), (⟨"LeftGlovesModel", "its", "(II)I"⟩, 18), (⟨"LeftGlovesModel", "hushIn", "(I)I"⟩, 18), (⟨"LeftGlovesModel", "hushes", "(I)I"⟩, 18), (⟨"LeftGlovesModel", "known", "(II)I"⟩, 18), (⟨"LeftGlovesModel", "comes", "(II)I"⟩, 18), (⟨"LeftGlovesModel", "sets", "(III)V"⟩, 18), (⟨"LeftGlovesModel", "isGlove", "(I)Z"⟩, 18), (⟨"LeftGlovesModel", "needs", "(I)I"⟩, 18), (⟨"LeftGlovesModel", "hasOther", "(I)Z"⟩, 18), (⟨"LeftGlovesModel", "stays", "(I)I"⟩, 18)]
theorem lw_r2 : ∀ q ∈ lw_privs_2, lw_okq q := List.forall_mem_cons.mpr ⟨lw_p16, List.forall_mem_cons.mpr ⟨lw_p17, List.forall_mem_cons.mpr ⟨lw_p18, List.forall_mem_cons.mpr ⟨lw_p19, List.forall_mem_cons.mpr ⟨lw_p20, List.forall_mem_cons.mpr ⟨lw_p21, List.forall_mem_cons.mpr ⟨lw_p22, List.forall_mem_cons.mpr ⟨lw_p23, List.forall_mem_cons.mpr ⟨lw_p24, List.forall_mem_cons.mpr ⟨lw_p25, List.forall_mem_cons.mpr ⟨lw_p26, List.forall_mem_cons.mpr ⟨lw_p27, List.forall_mem_cons.mpr ⟨lw_p28, List.forall_mem_cons.mpr ⟨lw_p29, List.forall_mem_cons.mpr ⟨lw_p30, List.forall_mem_cons.mpr ⟨lw_p31, fun _ h => absurd h List.not_mem_nil⟩⟩⟩⟩⟩⟩⟩⟩⟩⟩⟩⟩⟩⟩⟩⟩
theorem lw_p32 : lw_okq (⟨"LeftGlovesModel", "keeps", "(I)I"⟩, 18) := ⟨⟨by decide +kernel, by decide +kernel⟩, List.mem_of_getElem? (i := 798) (by decide +kernel), List.mem_of_getElem? (i := 949) (by decide +kernel), List.mem_of_getElem? (i := 950) (by decide +kernel)⟩
theorem lw_p33 : lw_okq (⟨"LeftGlovesModel", "drawnOn", "(I)V"⟩, 18) := ⟨⟨by decide +kernel, by decide +kernel⟩, List.mem_of_getElem? (i := 798) (by decide +kernel), List.mem_of_getElem? (i := 965) (by decide +kernel), List.mem_of_getElem? (i := 966) (by decide +kernel)⟩
theorem lw_p34 : lw_okq (⟨"LeftGlovesModel", "daysGo", "(I)V"⟩, 18) := ⟨⟨by decide +kernel, by decide +kernel⟩, List.mem_of_getElem? (i := 798) (by decide +kernel), List.mem_of_getElem? (i := 983) (by decide +kernel), List.mem_of_getElem? (i := 984) (by decide +kernel)⟩
theorem lw_p35 : lw_okq (⟨"LeftGlovesModel", "dayGoes", "()V"⟩, 18) := ⟨⟨by decide +kernel, by decide +kernel⟩, List.mem_of_getElem? (i := 798) (by decide +kernel), List.mem_of_getElem? (i := 987) (by decide +kernel), List.mem_of_getElem? (i := 988) (by decide +kernel)⟩
theorem lw_p36 : lw_okq (⟨"LeftGlovesModel", "todays", "()I"⟩, 18) := ⟨⟨by decide +kernel, by decide +kernel⟩, List.mem_of_getElem? (i := 798) (by decide +kernel), List.mem_of_getElem? (i := 991) (by decide +kernel), List.mem_of_getElem? (i := 992) (by decide +kernel)⟩
theorem lw_p37 : lw_okq (⟨"LeftGlovesModel", "hearers", "(I)I"⟩, 18) := ⟨⟨by decide +kernel, by decide +kernel⟩, List.mem_of_getElem? (i := 798) (by decide +kernel), List.mem_of_getElem? (i := 995) (by decide +kernel), List.mem_of_getElem? (i := 996) (by decide +kernel)⟩
theorem lw_p38 : lw_okq (⟨"LeftGlovesModel", "learns", "(II)V"⟩, 18) := ⟨⟨by decide +kernel, by decide +kernel⟩, List.mem_of_getElem? (i := 798) (by decide +kernel), List.mem_of_getElem? (i := 999) (by decide +kernel), List.mem_of_getElem? (i := 1000) (by decide +kernel)⟩
theorem lw_p39 : lw_okq (⟨"LeftGlovesModel", "allKnow", "()I"⟩, 18) := ⟨⟨by decide +kernel, by decide +kernel⟩, List.mem_of_getElem? (i := 798) (by decide +kernel), List.mem_of_getElem? (i := 1006) (by decide +kernel), List.mem_of_getElem? (i := 1007) (by decide +kernel)⟩
theorem lw_p40 : lw_okq (⟨"LeftGlovesModel", "allHands", "()I"⟩, 18) := ⟨⟨by decide +kernel, by decide +kernel⟩, List.mem_of_getElem? (i := 798) (by decide +kernel), List.mem_of_getElem? (i := 1014) (by decide +kernel), List.mem_of_getElem? (i := 1015) (by decide +kernel)⟩
theorem lw_p41 : lw_okq (⟨"LeftGlovesModel", "allDrawn", "()I"⟩, 18) := ⟨⟨by decide +kernel, by decide +kernel⟩, List.mem_of_getElem? (i := 798) (by decide +kernel), List.mem_of_getElem? (i := 1018) (by decide +kernel), List.mem_of_getElem? (i := 1019) (by decide +kernel)⟩
theorem lw_p42 : lw_okq (⟨"LeftGlovesModel", "wisest", "()I"⟩, 18) := ⟨⟨by decide +kernel, by decide +kernel⟩, List.mem_of_getElem? (i := 798) (by decide +kernel), List.mem_of_getElem? (i := 1022) (by decide +kernel), List.mem_of_getElem? (i := 1023) (by decide +kernel)⟩
theorem lw_p43 : lw_okq (⟨"LeftGlovesModel", "behind", "(II)I"⟩, 18) := ⟨⟨by decide +kernel, by decide +kernel⟩, List.mem_of_getElem? (i := 798) (by decide +kernel), List.mem_of_getElem? (i := 1034) (by decide +kernel), List.mem_of_getElem? (i := 1035) (by decide +kernel)⟩
theorem lw_p44 : lw_okq (⟨"LeftGlovesModel", "areKnown", "(I)Z"⟩, 18) := ⟨⟨by decide +kernel, by decide +kernel⟩, List.mem_of_getElem? (i := 798) (by decide +kernel), List.mem_of_getElem? (i := 1055) (by decide +kernel), List.mem_of_getElem? (i := 1056) (by decide +kernel)⟩
theorem lw_p45 : lw_okq (⟨"LeftGlovesModel", "bestOf", "(IIII)I"⟩, 18) := ⟨⟨by decide +kernel, by decide +kernel⟩, List.mem_of_getElem? (i := 798) (by decide +kernel), List.mem_of_getElem? (i := 1063) (by decide +kernel), List.mem_of_getElem? (i := 1064) (by decide +kernel)⟩
theorem lw_p46 : lw_okq (⟨"LeftGlovesModel", "whyNot", "(II)I"⟩, 18) := ⟨⟨by decide +kernel, by decide +kernel⟩, List.mem_of_getElem? (i := 798) (by decide +kernel), List.mem_of_getElem? (i := 1092) (by decide +kernel), List.mem_of_getElem? (i := 1093) (by decide +kernel)⟩
theorem lw_p47 : lw_okq (⟨"LeftGlovesModel", "whyNone", "(I)I"⟩, 18) := ⟨⟨by decide +kernel, by decide +kernel⟩, List.mem_of_getElem? (i := 798) (by decide +kernel), List.mem_of_getElem? (i := 1096) (by decide +kernel), List.mem_of_getElem? (i := 1097) (by decide +kernel)⟩
def lw_privs_3 : List (MethodName × Nat) := [(⟨"LeftGlovesModel", "keeps", "(I)I"⟩, 18), (⟨"LeftGlovesModel", "drawnOn", "(I)V"⟩, 18), (⟨"LeftGlovesModel", "daysGo", "(I)V"⟩, 18), (⟨"LeftGlovesModel", "dayGoes", "()V"⟩, 18), (⟨"LeftGlovesModel", "todays", "()I"⟩, 18), (⟨"LeftGlovesModel", "hearers", "(I)I"⟩, 18), (⟨"LeftGlovesModel", "learns", "(II)V"⟩, 18), (⟨"LeftGlovesModel", "allKnow", "()I"⟩, 18), (⟨"LeftGlovesModel", "allHands", "()I"⟩, 18), (⟨"LeftGlovesModel", "allDrawn", "()I"⟩, 18), (⟨"LeftGlovesModel", "wisest", "()I"⟩, 18), (⟨"LeftGlovesModel", "behind", "(II)I"⟩, 18), (⟨"LeftGlovesModel", "areKnown", "(I)Z"⟩, 18), (⟨"LeftGlovesModel", "bestOf", "(IIII)I"⟩, 18), (⟨"LeftGlovesModel", "whyNot", "(II)I"⟩, 18), (⟨"LeftGlovesModel", "whyNone", "(I)I"⟩, 18)]
theorem lw_r3 : ∀ q ∈ lw_privs_3, lw_okq q := List.forall_mem_cons.mpr ⟨lw_p32, List.forall_mem_cons.mpr ⟨lw_p33, List.forall_mem_cons.mpr ⟨lw_p34, List.forall_mem_cons.mpr ⟨lw_p35, List.forall_mem_cons.mpr ⟨lw_p36, List.forall_mem_cons.mpr ⟨lw_p37, List.forall_mem_cons.mpr ⟨lw_p38, List.forall_mem_cons.mpr ⟨lw_p39, List.forall_mem_cons.mpr ⟨lw_p40, List.forall_mem_cons.mpr ⟨lw_p41, List.forall_mem_cons.mpr ⟨lw_p42, List.forall_mem_cons.mpr ⟨lw_p43, List.forall_mem_cons.mpr ⟨lw_p44, List.forall_mem_cons.mpr ⟨lw_p45, List.forall_mem_cons.mpr ⟨lw_p46, List.forall_mem_cons.mpr ⟨lw_p47, fun _ h => absurd h List.not_mem_nil⟩⟩⟩⟩⟩⟩⟩⟩⟩⟩⟩⟩⟩⟩⟩⟩
theorem lw_p48 : lw_okq (⟨"LeftGlovesModel", "fitting", "(IIII)I"⟩, 18) := ⟨⟨by decide +kernel, by decide +kernel⟩, List.mem_of_getElem? (i := 798) (by decide +kernel), List.mem_of_getElem? (i := 1103) (by decide +kernel), List.mem_of_getElem? (i := 1104) (by decide +kernel)⟩
theorem lw_p49 : lw_okq (⟨"LeftGlovesModel", "drawOne", "()I"⟩, 18) := ⟨⟨by decide +kernel, by decide +kernel⟩, List.mem_of_getElem? (i := 798) (by decide +kernel), List.mem_of_getElem? (i := 1115) (by decide +kernel), List.mem_of_getElem? (i := 1116) (by decide +kernel)⟩
theorem lw_p50 : lw_okq (⟨"LeftGlovesModel", "items", "()I"⟩, 18) := ⟨⟨by decide +kernel, by decide +kernel⟩, List.mem_of_getElem? (i := 798) (by decide +kernel), List.mem_of_getElem? (i := 1141) (by decide +kernel), List.mem_of_getElem? (i := 1142) (by decide +kernel)⟩
theorem lw_p51 : lw_okq (⟨"LeftGlovesModel", "next", "()V"⟩, 18) := ⟨⟨by decide +kernel, by decide +kernel⟩, List.mem_of_getElem? (i := 798) (by decide +kernel), List.mem_of_getElem? (i := 1145) (by decide +kernel), List.mem_of_getElem? (i := 1146) (by decide +kernel)⟩
theorem lw_p52 : lw_okq (⟨"LeftGlovesModel", "byteAt", "(I)I"⟩, 18) := ⟨⟨by decide +kernel, by decide +kernel⟩, List.mem_of_getElem? (i := 798) (by decide +kernel), List.mem_of_getElem? (i := 1149) (by decide +kernel), List.mem_of_getElem? (i := 1150) (by decide +kernel)⟩
theorem lw_p53 : lw_okq (⟨"LeftGlovesModel", "item", "()V"⟩, 18) := ⟨⟨by decide +kernel, by decide +kernel⟩, List.mem_of_getElem? (i := 798) (by decide +kernel), List.mem_of_getElem? (i := 1163) (by decide +kernel), List.mem_of_getElem? (i := 1164) (by decide +kernel)⟩
theorem lw_p54 : lw_okq (⟨"LeftGlovesModel", "kindHere", "()I"⟩, 18) := ⟨⟨by decide +kernel, by decide +kernel⟩, List.mem_of_getElem? (i := 798) (by decide +kernel), List.mem_of_getElem? (i := 1167) (by decide +kernel), List.mem_of_getElem? (i := 1168) (by decide +kernel)⟩
theorem lw_p55 : lw_okq (⟨"LeftGlovesModel", "isWord", "(J)Z"⟩, 18) := ⟨⟨by decide +kernel, by decide +kernel⟩, List.mem_of_getElem? (i := 798) (by decide +kernel), List.mem_of_getElem? (i := 1172) (by decide +kernel), List.mem_of_getElem? (i := 1173) (by decide +kernel)⟩
theorem lw_p56 : lw_okq (⟨"LeftGlovesModel", "gloveHere", "(I)V"⟩, 18) := ⟨⟨by decide +kernel, by decide +kernel⟩, List.mem_of_getElem? (i := 798) (by decide +kernel), List.mem_of_getElem? (i := 1182) (by decide +kernel), List.mem_of_getElem? (i := 1183) (by decide +kernel)⟩
theorem lw_p57 : lw_okq (⟨"LeftGlovesModel", "wrongHere", "()V"⟩, 18) := ⟨⟨by decide +kernel, by decide +kernel⟩, List.mem_of_getElem? (i := 798) (by decide +kernel), List.mem_of_getElem? (i := 1186) (by decide +kernel), List.mem_of_getElem? (i := 1187) (by decide +kernel)⟩
theorem lw_p58 : lw_okq (⟨"LeftGlovesModel", "perhaps", "(JII)V"⟩, 18) := ⟨⟨by decide +kernel, by decide +kernel⟩, List.mem_of_getElem? (i := 798) (by decide +kernel), List.mem_of_getElem? (i := 1191) (by decide +kernel), List.mem_of_getElem? (i := 1192) (by decide +kernel)⟩
theorem lw_p59 : lw_okq (⟨"LeftGlovesModel", "numberHere", "(I)I"⟩, 18) := ⟨⟨by decide +kernel, by decide +kernel⟩, List.mem_of_getElem? (i := 798) (by decide +kernel), List.mem_of_getElem? (i := 1195) (by decide +kernel), List.mem_of_getElem? (i := 1196) (by decide +kernel)⟩
theorem lw_p60 : lw_okq (⟨"LeftGlovesModel", "saidHere", "()V"⟩, 18) := ⟨⟨by decide +kernel, by decide +kernel⟩, List.mem_of_getElem? (i := 798) (by decide +kernel), List.mem_of_getElem? (i := 1203) (by decide +kernel), List.mem_of_getElem? (i := 1204) (by decide +kernel)⟩
theorem lw_p61 : lw_okq (⟨"LeftGlovesModel", "handHere", "()V"⟩, 18) := ⟨⟨by decide +kernel, by decide +kernel⟩, List.mem_of_getElem? (i := 798) (by decide +kernel), List.mem_of_getElem? (i := 1208) (by decide +kernel), List.mem_of_getElem? (i := 1209) (by decide +kernel)⟩
theorem lw_p62 : lw_okq (⟨"LeftGlovesModel", "holding", "()I"⟩, 18) := ⟨⟨by decide +kernel, by decide +kernel⟩, List.mem_of_getElem? (i := 798) (by decide +kernel), List.mem_of_getElem? (i := 1261) (by decide +kernel), List.mem_of_getElem? (i := 1262) (by decide +kernel)⟩
def lw_privs_4 : List (MethodName × Nat) := [(⟨"LeftGlovesModel", "fitting", "(IIII)I"⟩, 18), (⟨"LeftGlovesModel", "drawOne", "()I"⟩, 18), (⟨"LeftGlovesModel", "items", "()I"⟩, 18), (⟨"LeftGlovesModel", "next", "()V"⟩, 18), (⟨"LeftGlovesModel", "byteAt", "(I)I"⟩, 18), (⟨"LeftGlovesModel", "item", "()V"⟩, 18), (⟨"LeftGlovesModel", "kindHere", "()I"⟩, 18), (⟨"LeftGlovesModel", "isWord", "(J)Z"⟩, 18), (⟨"LeftGlovesModel", "gloveHere", "(I)V"⟩, 18), (⟨"LeftGlovesModel", "wrongHere", "()V"⟩, 18), (⟨"LeftGlovesModel", "perhaps", "(JII)V"⟩, 18), (⟨"LeftGlovesModel", "numberHere", "(I)I"⟩, 18), (⟨"LeftGlovesModel", "saidHere", "()V"⟩, 18), (⟨"LeftGlovesModel", "handHere", "()V"⟩, 18), (⟨"LeftGlovesModel", "holding", "()I"⟩, 18)]
theorem lw_r4 : ∀ q ∈ lw_privs_4, lw_okq q := List.forall_mem_cons.mpr ⟨lw_p48, List.forall_mem_cons.mpr ⟨lw_p49, List.forall_mem_cons.mpr ⟨lw_p50, List.forall_mem_cons.mpr ⟨lw_p51, List.forall_mem_cons.mpr ⟨lw_p52, List.forall_mem_cons.mpr ⟨lw_p53, List.forall_mem_cons.mpr ⟨lw_p54, List.forall_mem_cons.mpr ⟨lw_p55, List.forall_mem_cons.mpr ⟨lw_p56, List.forall_mem_cons.mpr ⟨lw_p57, List.forall_mem_cons.mpr ⟨lw_p58, List.forall_mem_cons.mpr ⟨lw_p59, List.forall_mem_cons.mpr ⟨lw_p60, List.forall_mem_cons.mpr ⟨lw_p61, List.forall_mem_cons.mpr ⟨lw_p62, fun _ h => absurd h List.not_mem_nil⟩⟩⟩⟩⟩⟩⟩⟩⟩⟩⟩⟩⟩⟩⟩
def lw_privs : List (MethodName × Nat) := lw_privs_1 ++ (lw_privs_2 ++ (lw_privs_3 ++ (lw_privs_4)))
def lw_tbl : List Cond := k2_sels lw_privs ++ tables_1
theorem lw_privs_ok : ∀ q ∈ lw_privs, lw_okq q := by
  show ∀ q ∈ lw_privs_1 ++ (lw_privs_2 ++ (lw_privs_3 ++ (lw_privs_4))), lw_okq q
  exact List.forall_mem_append.mpr ⟨lw_r1, List.forall_mem_append.mpr ⟨lw_r2, List.forall_mem_append.mpr ⟨lw_r3, lw_r4⟩⟩⟩
end
section
def RX0 : String := "LeftGloves$Club"
def TX0 : u_T := fun k => match k with
  | 0 => ("LeftGloves$Club", "gloves", "[LLeftGloves$Glove;", true)
  | 1 => ("LeftGloves$Club", "list", "[I", true)
  | 2 => ("LeftGloves$Club", "spots", "[I", true)
  | 3 => ("LeftGloves$Club", "size", "I", false)
  | 4 => ("LeftGloves$Club", "day", "I", false)
  | _ => ("LeftGloves$Club", "z", "I", false)
def tyX0 : Nat → FieldType := fun k => match k with
  | 0 => .array (.object "LeftGloves$Glove")
  | 1 => .array .int
  | 2 => .array .int
  | 3 => .int
  | 4 => .int
  | _ => .int
theorem nmX0 : ∀ a, a < 6 → ∀ b, b < 6 → a ≠ b → (TX0 a).2.1 ≠ (TX0 b).2.1 := by decide +kernel
theorem tyX0_ok : ∀ k, k < 6 → parseFieldDescriptor (TX0 k).2.2.1 = some (tyX0 k) := by decide +kernel
abbrev cX0_init : ByteArray := prog_2_method_1_code
def yX0_init : MethodName := ⟨RX0, "<init>", "()V"⟩
abbrev cX0_become : ByteArray := prog_2_method_2_code
def yX0_become : MethodName := ⟨RX0, "become", "(LLeftGloves$Club;)V"⟩
abbrev cX0_has : ByteArray := prog_2_method_3_code
def yX0_has : MethodName := ⟨RX0, "has", "(I)Z"⟩
abbrev cX0_putDown : ByteArray := prog_2_method_4_code
def yX0_putDown : MethodName := ⟨RX0, "putDown", "(II)I"⟩
abbrev cX0_lyingIn : ByteArray := prog_2_method_5_code
def yX0_lyingIn : MethodName := ⟨RX0, "lyingIn", "(II)I"⟩
abbrev cX0_hushOf : ByteArray := prog_2_method_6_code
def yX0_hushOf : MethodName := ⟨RX0, "hushOf", "(I)I"⟩
abbrev cX0_knownBy : ByteArray := prog_2_method_7_code
def yX0_knownBy : MethodName := ⟨RX0, "knownBy", "(I)I"⟩
abbrev cX0_knownByHandsOf : ByteArray := prog_2_method_8_code
def yX0_knownByHandsOf : MethodName := ⟨RX0, "knownByHandsOf", "(I)I"⟩
abbrev cX0_knownByGloves : ByteArray := prog_2_method_9_code
def yX0_knownByGloves : MethodName := ⟨RX0, "knownByGloves", "()I"⟩
abbrev cX0_knownByHands : ByteArray := prog_2_method_10_code
def yX0_knownByHands : MethodName := ⟨RX0, "knownByHands", "()I"⟩
abbrev cX0_knownToAnyone : ByteArray := prog_2_method_11_code
def yX0_knownToAnyone : MethodName := ⟨RX0, "knownToAnyone", "()I"⟩
abbrev cX0_everyone : ByteArray := prog_2_method_12_code
def yX0_everyone : MethodName := ⟨RX0, "everyone", "()I"⟩
abbrev cX0_whoKnows : ByteArray := prog_2_method_13_code
def yX0_whoKnows : MethodName := ⟨RX0, "whoKnows", "(IZ)I"⟩
abbrev cX0_saidIn : ByteArray := prog_2_method_14_code
def yX0_saidIn : MethodName := ⟨RX0, "saidIn", "(I)I"⟩
abbrev cX0_drawnInAll : ByteArray := prog_2_method_15_code
def yX0_drawnInAll : MethodName := ⟨RX0, "drawnInAll", "()I"⟩
abbrev cX0_topicsInHand : ByteArray := prog_2_method_16_code
def yX0_topicsInHand : MethodName := ⟨RX0, "topicsInHand", "(I)I"⟩
abbrev cX0_wisest : ByteArray := prog_2_method_17_code
def yX0_wisest : MethodName := ⟨RX0, "wisest", "()I"⟩
abbrev cX0_spotsThatHold : ByteArray := prog_2_method_18_code
def yX0_spotsThatHold : MethodName := ⟨RX0, "spotsThatHold", "()I"⟩
abbrev cX0_needOf : ByteArray := prog_2_method_19_code
def yX0_needOf : MethodName := ⟨RX0, "needOf", "(I)I"⟩
abbrev cX0_hearersOf : ByteArray := prog_2_method_20_code
def yX0_hearersOf : MethodName := ⟨RX0, "hearersOf", "(II)I"⟩
abbrev cX0_placeOfToday : ByteArray := prog_2_method_21_code
def yX0_placeOfToday : MethodName := ⟨RX0, "placeOfToday", "()I"⟩
abbrev cX0_passDays : ByteArray := prog_2_method_22_code
def yX0_passDays : MethodName := ⟨RX0, "passDays", "(II)V"⟩
abbrev cX0_passDay : ByteArray := prog_2_method_23_code
def yX0_passDay : MethodName := ⟨RX0, "passDay", "(I)V"⟩
abbrev cX0_drawSaying : ByteArray := prog_2_method_24_code
def yX0_drawSaying : MethodName := ⟨RX0, "drawSaying", "()V"⟩
abbrev cX0_nextDraw : ByteArray := prog_2_method_25_code
def yX0_nextDraw : MethodName := ⟨RX0, "nextDraw", "()I"⟩
def RX1 : String := "LeftGloves$Glove"
def TX1 : u_T := fun k => match k with
  | 0 => ("LeftGloves$Glove", "kind", "I", false)
  | 1 => ("LeftGloves$Glove", "room", "I", false)
  | 2 => ("LeftGloves$Glove", "open", "I", false)
  | 3 => ("LeftGloves$Glove", "knows", "I", false)
  | 4 => ("LeftGloves$Glove", "lies", "I", false)
  | 5 => ("LeftGloves$Glove", "hand", "I", false)
  | _ => ("LeftGloves$Glove", "drawn", "I", false)
def tyX1 : Nat → FieldType := fun k => match k with
  | 0 => .int
  | 1 => .int
  | 2 => .int
  | 3 => .int
  | 4 => .int
  | 5 => .int
  | _ => .int
theorem nmX1 : ∀ a, a < 7 → ∀ b, b < 7 → a ≠ b → (TX1 a).2.1 ≠ (TX1 b).2.1 := by decide +kernel
theorem tyX1_ok : ∀ k, k < 7 → parseFieldDescriptor (TX1 k).2.2.1 = some (tyX1 k) := by decide +kernel
abbrev cX1_init : ByteArray := prog_3_method_1_code
def yX1_init : MethodName := ⟨RX1, "<init>", "()V"⟩
abbrev cX1_mostOf : ByteArray := prog_3_method_2_code
def yX1_mostOf : MethodName := ⟨RX1, "mostOf", "(I)I"⟩
abbrev cX1_beNew : ByteArray := prog_3_method_3_code
def yX1_beNew : MethodName := ⟨RX1, "beNew", "(II)V"⟩
abbrev cX1_become : ByteArray := prog_3_method_4_code
def yX1_become : MethodName := ⟨RX1, "become", "(LLeftGloves$Glove;)V"⟩
abbrev cX1_trait : ByteArray := prog_3_method_5_code
def yX1_trait : MethodName := ⟨RX1, "trait", "(I)I"⟩
abbrev cX1_setTrait : ByteArray := prog_3_method_6_code
def yX1_setTrait : MethodName := ⟨RX1, "setTrait", "(II)V"⟩
abbrev cX1_needs : ByteArray := prog_3_method_7_code
def yX1_needs : MethodName := ⟨RX1, "needs", "(Z)I"⟩
abbrev cX1_hushes : ByteArray := prog_3_method_8_code
def yX1_hushes : MethodName := ⟨RX1, "hushes", "()I"⟩
abbrev cX1_stays : ByteArray := prog_3_method_9_code
def yX1_stays : MethodName := ⟨RX1, "stays", "()I"⟩
abbrev cX1_keeps : ByteArray := prog_3_method_10_code
def yX1_keeps : MethodName := ⟨RX1, "keeps", "()I"⟩
abbrev cX1_isA : ByteArray := prog_3_method_11_code
def yX1_isA : MethodName := ⟨RX1, "isA", "(I)Z"⟩
abbrev cX1_takeIn : ByteArray := prog_3_method_12_code
def yX1_takeIn : MethodName := ⟨RX1, "takeIn", "(I)V"⟩
abbrev cX1_lieOneDay : ByteArray := prog_3_method_13_code
def yX1_lieOneDay : MethodName := ⟨RX1, "lieOneDay", "()V"⟩
abbrev cX1_beDrawnOn : ByteArray := prog_3_method_14_code
def yX1_beDrawnOn : MethodName := ⟨RX1, "beDrawnOn", "()V"⟩
def RX2 : String := "LeftGloves$Sheet"
def TX2 : u_T := fun k => match k with
  | 0 => ("LeftGloves$Sheet", "numbers", "[I", true)
  | 1 => ("LeftGloves$Sheet", "bits", "I", false)
  | _ => ("LeftGloves$Sheet", "size", "I", false)
def tyX2 : Nat → FieldType := fun k => match k with
  | 0 => .array .int
  | 1 => .int
  | _ => .int
theorem nmX2 : ∀ a, a < 3 → ∀ b, b < 3 → a ≠ b → (TX2 a).2.1 ≠ (TX2 b).2.1 := by decide +kernel
theorem tyX2_ok : ∀ k, k < 3 → parseFieldDescriptor (TX2 k).2.2.1 = some (tyX2 k) := by decide +kernel
abbrev cX2_init : ByteArray := prog_4_method_1_code
def yX2_init : MethodName := ⟨RX2, "<init>", "()V"⟩
abbrev cX2_isMissing : ByteArray := prog_4_method_2_code
def yX2_isMissing : MethodName := ⟨RX2, "isMissing", "()Z"⟩
abbrev cX2_layOut : ByteArray := prog_4_method_3_code
def yX2_layOut : MethodName := ⟨RX2, "layOut", "(II)V"⟩
abbrev cX2_setNumber : ByteArray := prog_4_method_4_code
def yX2_setNumber : MethodName := ⟨RX2, "setNumber", "(II)V"⟩
abbrev cX2_hasRow : ByteArray := prog_4_method_5_code
def yX2_hasRow : MethodName := ⟨RX2, "hasRow", "(II)Z"⟩
def RX3 : String := "LeftGloves$Tape"
def TX3 : u_T := fun k => match k with
  | 0 => ("LeftGloves$Tape", "bytes", "[B", true)
  | _ => ("LeftGloves$Tape", "length", "I", false)
def tyX3 : Nat → FieldType := fun k => match k with
  | 0 => .array .byte
  | _ => .int
theorem nmX3 : ∀ a, a < 2 → ∀ b, b < 2 → a ≠ b → (TX3 a).2.1 ≠ (TX3 b).2.1 := by decide +kernel
theorem tyX3_ok : ∀ k, k < 2 → parseFieldDescriptor (TX3 k).2.2.1 = some (tyX3 k) := by decide +kernel
abbrev cX3_init : ByteArray := prog_5_method_1_code
def yX3_init : MethodName := ⟨RX3, "<init>", "()V"⟩
abbrev cX3_append : ByteArray := prog_5_method_2_code
def yX3_append : MethodName := ⟨RX3, "append", "(B)V"⟩
abbrev cX3_byteAt : ByteArray := prog_5_method_3_code
def yX3_byteAt : MethodName := ⟨RX3, "byteAt", "(I)I"⟩
abbrev cX3_spells : ByteArray := prog_5_method_4_code
def yX3_spells : MethodName := ⟨RX3, "spells", "(Ljava/lang/String;II)Z"⟩
def RX4 : String := "LeftGloves$TextReader"
def TX4 : u_T := fun k => match k with
  | 0 => ("LeftGloves$TextReader", "tokens", "LLeftGloves$Tokens;", true)
  | 1 => ("LeftGloves$TextReader", "at", "I", false)
  | _ => ("LeftGloves$TextReader", "faulty", "Z", false)
def tyX4 : Nat → FieldType := fun k => match k with
  | 0 => .object "LeftGloves$Tokens"
  | 1 => .int
  | _ => .boolean
theorem nmX4 : ∀ a, a < 3 → ∀ b, b < 3 → a ≠ b → (TX4 a).2.1 ≠ (TX4 b).2.1 := by decide +kernel
theorem tyX4_ok : ∀ k, k < 3 → parseFieldDescriptor (TX4 k).2.2.1 = some (tyX4 k) := by decide +kernel
abbrev cX4_init : ByteArray := prog_6_method_1_code
def yX4_init : MethodName := ⟨RX4, "<init>", "()V"⟩
abbrev cX4_read : ByteArray := prog_6_method_2_code
def yX4_read : MethodName := ⟨RX4, "read", "(LLeftGloves$Tape;LLeftGloves$Club;)I"⟩
abbrev cX4_takeItem : ByteArray := prog_6_method_3_code
def yX4_takeItem : MethodName := ⟨RX4, "takeItem", "(LLeftGloves$Club;)V"⟩
abbrev cX4_takeSaying : ByteArray := prog_6_method_4_code
def yX4_takeSaying : MethodName := ⟨RX4, "takeSaying", "(LLeftGloves$Club;)V"⟩
abbrev cX4_takeHand : ByteArray := prog_6_method_5_code
def yX4_takeHand : MethodName := ⟨RX4, "takeHand", "(LLeftGloves$Club;)V"⟩
abbrev cX4_takeGlove : ByteArray := prog_6_method_6_code
def yX4_takeGlove : MethodName := ⟨RX4, "takeGlove", "(LLeftGloves$Club;)V"⟩
abbrev cX4_takeTrait : ByteArray := prog_6_method_7_code
def yX4_takeTrait : MethodName := ⟨RX4, "takeTrait", "(ILLeftGloves$Glove;I)V"⟩
abbrev cX4_takeNumber : ByteArray := prog_6_method_8_code
def yX4_takeNumber : MethodName := ⟨RX4, "takeNumber", "(I)I"⟩
abbrev cX4_takes : ByteArray := prog_6_method_9_code
def yX4_takes : MethodName := ⟨RX4, "takes", "(I)Z"⟩
def RX5 : String := "LeftGloves$Tokens"
def TX5 : u_T := fun k => match k with
  | 0 => ("LeftGloves$Tokens", "sorts", "[I", true)
  | 1 => ("LeftGloves$Tokens", "starts", "[I", true)
  | 2 => ("LeftGloves$Tokens", "ends", "[I", true)
  | 3 => ("LeftGloves$Tokens", "numbers", "[I", true)
  | _ => ("LeftGloves$Tokens", "size", "I", false)
def tyX5 : Nat → FieldType := fun k => match k with
  | 0 => .array .int
  | 1 => .array .int
  | 2 => .array .int
  | 3 => .array .int
  | _ => .int
theorem nmX5 : ∀ a, a < 5 → ∀ b, b < 5 → a ≠ b → (TX5 a).2.1 ≠ (TX5 b).2.1 := by decide +kernel
theorem tyX5_ok : ∀ k, k < 5 → parseFieldDescriptor (TX5 k).2.2.1 = some (tyX5 k) := by decide +kernel
abbrev cX5_init : ByteArray := prog_7_method_1_code
def yX5_init : MethodName := ⟨RX5, "<init>", "()V"⟩
abbrev cX5_sortAt : ByteArray := prog_7_method_2_code
def yX5_sortAt : MethodName := ⟨RX5, "sortAt", "(I)I"⟩
abbrev cX5_startAt : ByteArray := prog_7_method_3_code
def yX5_startAt : MethodName := ⟨RX5, "startAt", "(I)I"⟩
abbrev cX5_numberAt : ByteArray := prog_7_method_4_code
def yX5_numberAt : MethodName := ⟨RX5, "numberAt", "(I)I"⟩
abbrev cX5_readFrom : ByteArray := prog_7_method_5_code
def yX5_readFrom : MethodName := ⟨RX5, "readFrom", "(LLeftGloves$Tape;)V"⟩
abbrev cX5_sortOf : ByteArray := prog_7_method_6_code
def yX5_sortOf : MethodName := ⟨RX5, "sortOf", "(I)I"⟩
abbrev cX5_begin : ByteArray := prog_7_method_7_code
def yX5_begin : MethodName := ⟨RX5, "begin", "(II)V"⟩
abbrev cX5_takeUp : ByteArray := prog_7_method_8_code
def yX5_takeUp : MethodName := ⟨RX5, "takeUp", "(II)V"⟩
abbrev cX5_nameWords : ByteArray := prog_7_method_9_code
def yX5_nameWords : MethodName := ⟨RX5, "nameWords", "(LLeftGloves$Tape;)V"⟩
abbrev cX5_spellingOf : ByteArray := prog_7_method_10_code
def yX5_spellingOf : MethodName := ⟨RX5, "spellingOf", "(I)Ljava/lang/String;"⟩
def RX6 : String := "LeftGloves"
def TX6 : u_T := fun k => match k with
  | 0 => ("LeftGloves", "club", "LLeftGloves$Club;", true)
  | 1 => ("LeftGloves", "kept", "LLeftGloves$Club;", true)
  | 2 => ("LeftGloves", "trial", "LLeftGloves$Club;", true)
  | 3 => ("LeftGloves", "keeping", "Z", false)
  | 4 => ("LeftGloves", "tape", "LLeftGloves$Tape;", true)
  | 5 => ("LeftGloves", "reader", "LLeftGloves$TextReader;", true)
  | 6 => ("LeftGloves", "sheets", "[LLeftGloves$Sheet;", true)
  | _ => ("LeftGloves", "findings", "[I", true)
def tyX6 : Nat → FieldType := fun k => match k with
  | 0 => .object "LeftGloves$Club"
  | 1 => .object "LeftGloves$Club"
  | 2 => .object "LeftGloves$Club"
  | 3 => .boolean
  | 4 => .object "LeftGloves$Tape"
  | 5 => .object "LeftGloves$TextReader"
  | 6 => .array (.object "LeftGloves$Sheet")
  | _ => .array .int
theorem nmX6 : ∀ a, a < 8 → ∀ b, b < 8 → a ≠ b → (TX6 a).2.1 ≠ (TX6 b).2.1 := by decide +kernel
theorem tyX6_ok : ∀ k, k < 8 → parseFieldDescriptor (TX6 k).2.2.1 = some (tyX6 k) := by decide +kernel
abbrev cX6_init : ByteArray := prog_1_method_1_code
def yX6_init : MethodName := ⟨RX6, "<init>", "()V"⟩
abbrev cX6_say : ByteArray := prog_1_method_2_code
def yX6_say : MethodName := ⟨RX6, "say", "(II)I"⟩
abbrev cX6_said : ByteArray := prog_1_method_3_code
def yX6_said : MethodName := ⟨RX6, "said", "(I)I"⟩
abbrev cX6_room : ByteArray := prog_1_method_4_code
def yX6_room : MethodName := ⟨RX6, "room", "(II)I"⟩
abbrev cX6_glove : ByteArray := prog_1_method_5_code
def yX6_glove : MethodName := ⟨RX6, "glove", "(II)I"⟩
abbrev cX6_of : ByteArray := prog_1_method_6_code
def yX6_of : MethodName := ⟨RX6, "of", "(II)I"⟩
abbrev cX6_change : ByteArray := prog_1_method_7_code
def yX6_change : MethodName := ⟨RX6, "change", "(III)I"⟩
abbrev cX6_draw : ByteArray := prog_1_method_8_code
def yX6_draw : MethodName := ⟨RX6, "draw", "(I)I"⟩
abbrev cX6_who : ByteArray := prog_1_method_9_code
def yX6_who : MethodName := ⟨RX6, "who", "(II)I"⟩
abbrev cX6_go : ByteArray := prog_1_method_10_code
def yX6_go : MethodName := ⟨RX6, "go", "(I)I"⟩
abbrev cX6_now : ByteArray := prog_1_method_11_code
def yX6_now : MethodName := ⟨RX6, "now", "(I)I"⟩
abbrev cX6_ahead : ByteArray := prog_1_method_12_code
def yX6_ahead : MethodName := ⟨RX6, "ahead", "(III)I"⟩
abbrev cX6_hears : ByteArray := prog_1_method_13_code
def yX6_hears : MethodName := ⟨RX6, "hears", "(II)I"⟩
abbrev cX6_wise : ByteArray := prog_1_method_14_code
def yX6_wise : MethodName := ⟨RX6, "wise", "(II)I"⟩
abbrev cX6_out : ByteArray := prog_1_method_15_code
def yX6_out : MethodName := ⟨RX6, "out", "(I)I"⟩
abbrev cX6_canBeAskedAhead : ByteArray := prog_1_method_16_code
def yX6_canBeAskedAhead : MethodName := ⟨RX6, "canBeAskedAhead", "(I)Z"⟩
abbrev cX6_daysUntil : ByteArray := prog_1_method_17_code
def yX6_daysUntil : MethodName := ⟨RX6, "daysUntil", "(III)I"⟩
abbrev cX6_isSoInTrial : ByteArray := prog_1_method_18_code
def yX6_isSoInTrial : MethodName := ⟨RX6, "isSoInTrial", "(III)Z"⟩
abbrev cX6_leave : ByteArray := prog_1_method_19_code
def yX6_leave : MethodName := ⟨RX6, "leave", "(II)I"⟩
abbrev cX6_openFor : ByteArray := prog_1_method_20_code
def yX6_openFor : MethodName := ⟨RX6, "openFor", "(III)I"⟩
abbrev cX6_kindFor : ByteArray := prog_1_method_21_code
def yX6_kindFor : MethodName := ⟨RX6, "kindFor", "(II)I"⟩
abbrev cX6_lower : ByteArray := prog_1_method_22_code
def yX6_lower : MethodName := ⟨RX6, "lower", "(I)I"⟩
abbrev cX6_cover : ByteArray := prog_1_method_23_code
def yX6_cover : MethodName := ⟨RX6, "cover", "(I)I"⟩
abbrev cX6_away : ByteArray := prog_1_method_24_code
def yX6_away : MethodName := ⟨RX6, "away", "(III)I"⟩
abbrev cX6_isFewer : ByteArray := prog_1_method_25_code
def yX6_isFewer : MethodName := ⟨RX6, "isFewer", "(II)Z"⟩
abbrev cX6_bestFor : ByteArray := prog_1_method_26_code
def yX6_bestFor : MethodName := ⟨RX6, "bestFor", "(IIII)I"⟩
abbrev cX6_tryOut : ByteArray := prog_1_method_27_code
def yX6_tryOut : MethodName := ⟨RX6, "tryOut", "(III)V"⟩
abbrev cX6_comesToKnowWithout : ByteArray := prog_1_method_28_code
def yX6_comesToKnowWithout : MethodName := ⟨RX6, "comesToKnowWithout", "(IIII)Z"⟩
abbrev cX6_fits : ByteArray := prog_1_method_29_code
def yX6_fits : MethodName := ⟨RX6, "fits", "(II)I"⟩
abbrev cX6_kinds : ByteArray := prog_1_method_30_code
def yX6_kinds : MethodName := ⟨RX6, "kinds", "(II)I"⟩
abbrev cX6_choicesAsTold : ByteArray := prog_1_method_31_code
def yX6_choicesAsTold : MethodName := ⟨RX6, "choicesAsTold", "(IIII)I"⟩
abbrev cX6_trialGoesAsTold : ByteArray := prog_1_method_32_code
def yX6_trialGoesAsTold : MethodName := ⟨RX6, "trialGoesAsTold", "(LLeftGloves$Sheet;I)Z"⟩
abbrev cX6_talk : ByteArray := prog_1_method_33_code
def yX6_talk : MethodName := ⟨RX6, "talk", "(I)I"⟩
abbrev cX6_odds : ByteArray := prog_1_method_34_code
def yX6_odds : MethodName := ⟨RX6, "odds", "(III)J"⟩
abbrev cX6_seed : ByteArray := prog_1_method_35_code
def yX6_seed : MethodName := ⟨RX6, "seed", "(I)I"⟩
abbrev cX6_power : ByteArray := prog_1_method_36_code
def yX6_power : MethodName := ⟨RX6, "power", "(II)J"⟩
abbrev cX6_feed : ByteArray := prog_1_method_37_code
def yX6_feed : MethodName := ⟨RX6, "feed", "(II)I"⟩
abbrev cX6_wipe : ByteArray := prog_1_method_38_code
def yX6_wipe : MethodName := ⟨RX6, "wipe", "()I"⟩
abbrev cX6_text : ByteArray := prog_1_method_39_code
def yX6_text : MethodName := ⟨RX6, "text", "()I"⟩
abbrev cX6_hold : ByteArray := prog_1_method_40_code
def yX6_hold : MethodName := ⟨RX6, "hold", "(II)I"⟩
abbrev cX6_as : ByteArray := prog_1_method_41_code
def yX6_as : MethodName := ⟨RX6, "as", "(II)I"⟩
abbrev cX6_sheet : ByteArray := prog_1_method_42_code
def yX6_sheet : MethodName := ⟨RX6, "sheet", "(III)I"⟩
abbrev cX6_write : ByteArray := prog_1_method_43_code
def yX6_write : MethodName := ⟨RX6, "write", "(III)I"⟩
abbrev cX6_copy : ByteArray := prog_1_method_44_code
def yX6_copy : MethodName := ⟨RX6, "copy", "(IIIII)I"⟩
abbrev cX6_load : ByteArray := prog_1_method_45_code
def yX6_load : MethodName := ⟨RX6, "load", "(I)I"⟩
abbrev cX6_judge : ByteArray := prog_1_method_46_code
def yX6_judge : MethodName := ⟨RX6, "judge", "(I)I"⟩
abbrev cX6_image : ByteArray := prog_1_method_47_code
def yX6_image : MethodName := ⟨RX6, "image", "()I"⟩
abbrev cX6_undo : ByteArray := prog_1_method_48_code
def yX6_undo : MethodName := ⟨RX6, "undo", "()I"⟩
abbrev cX6_tear : ByteArray := prog_1_method_49_code
def yX6_tear : MethodName := ⟨RX6, "tear", "()I"⟩
abbrev cX6_count : ByteArray := prog_1_method_50_code
def yX6_count : MethodName := ⟨RX6, "count", "(I)I"⟩
abbrev cX6_status : ByteArray := prog_1_method_51_code
def yX6_status : MethodName := ⟨RX6, "status", "(I)I"⟩
abbrev cX6_finding : ByteArray := prog_1_method_52_code
def yX6_finding : MethodName := ⟨RX6, "finding", "(I)I"⟩
abbrev cX6_lackOf : ByteArray := prog_1_method_53_code
def yX6_lackOf : MethodName := ⟨RX6, "lackOf", "(I)I"⟩
abbrev cX6_isSheet : ByteArray := prog_1_method_54_code
def yX6_isSheet : MethodName := ⟨RX6, "isSheet", "(I)Z"⟩
abbrev cX6_isWithin : ByteArray := prog_1_method_55_code
def yX6_isWithin : MethodName := ⟨RX6, "isWithin", "(II)Z"⟩
abbrev cX6_isIn : ByteArray := prog_1_method_56_code
def yX6_isIn : MethodName := ⟨RX6, "isIn", "(II)Z"⟩
abbrev cX6_isSaying : ByteArray := prog_1_method_57_code
def yX6_isSaying : MethodName := ⟨RX6, "isSaying", "(I)Z"⟩
abbrev cX6_roomOf : ByteArray := prog_1_method_58_code
def yX6_roomOf : MethodName := ⟨RX6, "roomOf", "(I)I"⟩
abbrev cX6_topicOf : ByteArray := prog_1_method_59_code
def yX6_topicOf : MethodName := ⟨RX6, "topicOf", "(I)I"⟩
abbrev cX6_loudOf : ByteArray := prog_1_method_60_code
def yX6_loudOf : MethodName := ⟨RX6, "loudOf", "(I)I"⟩
abbrev cX6_sayingOf : ByteArray := prog_1_method_61_code
def yX6_sayingOf : MethodName := ⟨RX6, "sayingOf", "(III)I"⟩
def RX7 : String := "LeftGlovesModel"
def TX7 : u_T := fun k => match k with
  | 0 => ("LeftGlovesModel", "d", "[I", true)
  | 1 => ("LeftGlovesModel", "e", "[I", true)
  | 2 => ("LeftGlovesModel", "aside", "[I", true)
  | 3 => ("LeftGlovesModel", "kept", "[I", true)
  | 4 => ("LeftGlovesModel", "isKept", "Z", false)
  | 5 => ("LeftGlovesModel", "found", "[I", true)
  | 6 => ("LeftGlovesModel", "tape", "[B", true)
  | 7 => ("LeftGlovesModel", "taped", "I", false)
  | 8 => ("LeftGlovesModel", "gone", "I", false)
  | 9 => ("LeftGlovesModel", "at", "I", false)
  | 10 => ("LeftGlovesModel", "sort", "I", false)
  | 11 => ("LeftGlovesModel", "from", "I", false)
  | 12 => ("LeftGlovesModel", "value", "J", false)
  | 13 => ("LeftGlovesModel", "fault", "I", false)
  | 14 => ("LeftGlovesModel", "bitsOf", "[I", true)
  | 15 => ("LeftGlovesModel", "sizeOf", "[I", true)
  | 16 => ("LeftGlovesModel", "number", "[I", true)
  | _ => ("LeftGlovesModel", "passing", "[I", true)
def tyX7 : Nat → FieldType := fun k => match k with
  | 0 => .array .int
  | 1 => .array .int
  | 2 => .array .int
  | 3 => .array .int
  | 4 => .boolean
  | 5 => .array .int
  | 6 => .array .byte
  | 7 => .int
  | 8 => .int
  | 9 => .int
  | 10 => .int
  | 11 => .int
  | 12 => .long
  | 13 => .int
  | 14 => .array .int
  | 15 => .array .int
  | 16 => .array .int
  | _ => .array .int
theorem nmX7 : ∀ a, a < 18 → ∀ b, b < 18 → a ≠ b → (TX7 a).2.1 ≠ (TX7 b).2.1 := by decide +kernel
theorem tyX7_ok : ∀ k, k < 18 → parseFieldDescriptor (TX7 k).2.2.1 = some (tyX7 k) := by decide +kernel
abbrev cX7_init : ByteArray := prog_9_method_1_code
def yX7_init : MethodName := ⟨RX7, "<init>", "()V"⟩
abbrev cX7_finds : ByteArray := prog_9_method_3_code
def yX7_finds : MethodName := ⟨RX7, "finds", "(I)I"⟩
abbrev cX7_in : ByteArray := prog_9_method_4_code
def yX7_in : MethodName := ⟨RX7, "in", "(JJJ)Z"⟩
abbrev cX7_held : ByteArray := prog_9_method_5_code
def yX7_held : MethodName := ⟨RX7, "held", "(III)I"⟩
abbrev cX7_copies : ByteArray := prog_9_method_6_code
def yX7_copies : MethodName := ⟨RX7, "copies", "([I[I)V"⟩
abbrev cX7_isGlove : ByteArray := prog_9_method_7_code
def yX7_isGlove : MethodName := ⟨RX7, "isGlove", "(I)Z"⟩
abbrev cX7_isTopic : ByteArray := prog_9_method_8_code
def yX7_isTopic : MethodName := ⟨RX7, "isTopic", "(I)Z"⟩
abbrev cX7_areTopics : ByteArray := prog_9_method_9_code
def yX7_areTopics : MethodName := ⟨RX7, "areTopics", "(I)Z"⟩
abbrev cX7_isPlace : ByteArray := prog_9_method_10_code
def yX7_isPlace : MethodName := ⟨RX7, "isPlace", "(I)Z"⟩
abbrev cX7_isSaying : ByteArray := prog_9_method_11_code
def yX7_isSaying : MethodName := ⟨RX7, "isSaying", "(I)Z"⟩
abbrev cX7_its : ByteArray := prog_9_method_12_code
def yX7_its : MethodName := ⟨RX7, "its", "(II)I"⟩
abbrev cX7_sets : ByteArray := prog_9_method_13_code
def yX7_sets : MethodName := ⟨RX7, "sets", "(III)V"⟩
abbrev cX7_becomes : ByteArray := prog_9_method_14_code
def yX7_becomes : MethodName := ⟨RX7, "becomes", "(II)I"⟩
abbrev cX7_ones : ByteArray := prog_9_method_15_code
def yX7_ones : MethodName := ⟨RX7, "ones", "(I)I"⟩
abbrev cX7_isIn : ByteArray := prog_9_method_16_code
def yX7_isIn : MethodName := ⟨RX7, "isIn", "(II)Z"⟩
abbrev cX7_hasOther : ByteArray := prog_9_method_17_code
def yX7_hasOther : MethodName := ⟨RX7, "hasOther", "(I)Z"⟩
abbrev cX7_needs : ByteArray := prog_9_method_18_code
def yX7_needs : MethodName := ⟨RX7, "needs", "(I)I"⟩
abbrev cX7_hushes : ByteArray := prog_9_method_19_code
def yX7_hushes : MethodName := ⟨RX7, "hushes", "(I)I"⟩
abbrev cX7_stays : ByteArray := prog_9_method_20_code
def yX7_stays : MethodName := ⟨RX7, "stays", "(I)I"⟩
abbrev cX7_keeps : ByteArray := prog_9_method_21_code
def yX7_keeps : MethodName := ⟨RX7, "keeps", "(I)I"⟩
abbrev cX7_hushIn : ByteArray := prog_9_method_22_code
def yX7_hushIn : MethodName := ⟨RX7, "hushIn", "(I)I"⟩
abbrev cX7_hearers : ByteArray := prog_9_method_23_code
def yX7_hearers : MethodName := ⟨RX7, "hearers", "(I)I"⟩
abbrev cX7_learns : ByteArray := prog_9_method_24_code
def yX7_learns : MethodName := ⟨RX7, "learns", "(II)V"⟩
abbrev cX7_drawnOn : ByteArray := prog_9_method_25_code
def yX7_drawnOn : MethodName := ⟨RX7, "drawnOn", "(I)V"⟩
abbrev cX7_todays : ByteArray := prog_9_method_26_code
def yX7_todays : MethodName := ⟨RX7, "todays", "()I"⟩
abbrev cX7_dayGoes : ByteArray := prog_9_method_27_code
def yX7_dayGoes : MethodName := ⟨RX7, "dayGoes", "()V"⟩
abbrev cX7_daysGo : ByteArray := prog_9_method_28_code
def yX7_daysGo : MethodName := ⟨RX7, "daysGo", "(I)V"⟩
abbrev cX7_known : ByteArray := prog_9_method_29_code
def yX7_known : MethodName := ⟨RX7, "known", "(II)I"⟩
abbrev cX7_allKnow : ByteArray := prog_9_method_30_code
def yX7_allKnow : MethodName := ⟨RX7, "allKnow", "()I"⟩
abbrev cX7_allHands : ByteArray := prog_9_method_31_code
def yX7_allHands : MethodName := ⟨RX7, "allHands", "()I"⟩
abbrev cX7_allDrawn : ByteArray := prog_9_method_32_code
def yX7_allDrawn : MethodName := ⟨RX7, "allDrawn", "()I"⟩
abbrev cX7_say : ByteArray := prog_9_method_33_code
def yX7_say : MethodName := ⟨RX7, "say", "(II)I"⟩
abbrev cX7_said : ByteArray := prog_9_method_34_code
def yX7_said : MethodName := ⟨RX7, "said", "(I)I"⟩
abbrev cX7_room : ByteArray := prog_9_method_35_code
def yX7_room : MethodName := ⟨RX7, "room", "(II)I"⟩
abbrev cX7_comes : ByteArray := prog_9_method_36_code
def yX7_comes : MethodName := ⟨RX7, "comes", "(II)I"⟩
abbrev cX7_glove : ByteArray := prog_9_method_37_code
def yX7_glove : MethodName := ⟨RX7, "glove", "(II)I"⟩
abbrev cX7_of : ByteArray := prog_9_method_38_code
def yX7_of : MethodName := ⟨RX7, "of", "(II)I"⟩
abbrev cX7_mostOf : ByteArray := prog_9_method_39_code
def yX7_mostOf : MethodName := ⟨RX7, "mostOf", "(I)I"⟩
abbrev cX7_change : ByteArray := prog_9_method_40_code
def yX7_change : MethodName := ⟨RX7, "change", "(III)I"⟩
abbrev cX7_draw : ByteArray := prog_9_method_41_code
def yX7_draw : MethodName := ⟨RX7, "draw", "(I)I"⟩
abbrev cX7_who : ByteArray := prog_9_method_42_code
def yX7_who : MethodName := ⟨RX7, "who", "(II)I"⟩
abbrev cX7_go : ByteArray := prog_9_method_43_code
def yX7_go : MethodName := ⟨RX7, "go", "(I)I"⟩
abbrev cX7_wisest : ByteArray := prog_9_method_44_code
def yX7_wisest : MethodName := ⟨RX7, "wisest", "()I"⟩
abbrev cX7_now : ByteArray := prog_9_method_45_code
def yX7_now : MethodName := ⟨RX7, "now", "(I)I"⟩
abbrev cX7_behind : ByteArray := prog_9_method_46_code
def yX7_behind : MethodName := ⟨RX7, "behind", "(II)I"⟩
abbrev cX7_ahead : ByteArray := prog_9_method_47_code
def yX7_ahead : MethodName := ⟨RX7, "ahead", "(III)I"⟩
abbrev cX7_hears : ByteArray := prog_9_method_48_code
def yX7_hears : MethodName := ⟨RX7, "hears", "(II)I"⟩
abbrev cX7_wise : ByteArray := prog_9_method_49_code
def yX7_wise : MethodName := ⟨RX7, "wise", "(II)I"⟩
abbrev cX7_areKnown : ByteArray := prog_9_method_50_code
def yX7_areKnown : MethodName := ⟨RX7, "areKnown", "(I)Z"⟩
abbrev cX7_out : ByteArray := prog_9_method_51_code
def yX7_out : MethodName := ⟨RX7, "out", "(I)I"⟩
abbrev cX7_bestOf : ByteArray := prog_9_method_52_code
def yX7_bestOf : MethodName := ⟨RX7, "bestOf", "(IIII)I"⟩
abbrev cX7_leave : ByteArray := prog_9_method_53_code
def yX7_leave : MethodName := ⟨RX7, "leave", "(II)I"⟩
abbrev cX7_openFor : ByteArray := prog_9_method_54_code
def yX7_openFor : MethodName := ⟨RX7, "openFor", "(III)I"⟩
abbrev cX7_kindFor : ByteArray := prog_9_method_55_code
def yX7_kindFor : MethodName := ⟨RX7, "kindFor", "(II)I"⟩
abbrev cX7_lower : ByteArray := prog_9_method_56_code
def yX7_lower : MethodName := ⟨RX7, "lower", "(I)I"⟩
abbrev cX7_cover : ByteArray := prog_9_method_57_code
def yX7_cover : MethodName := ⟨RX7, "cover", "(I)I"⟩
abbrev cX7_away : ByteArray := prog_9_method_58_code
def yX7_away : MethodName := ⟨RX7, "away", "(III)I"⟩
abbrev cX7_fitting : ByteArray := prog_9_method_59_code
def yX7_fitting : MethodName := ⟨RX7, "fitting", "(IIII)I"⟩
abbrev cX7_whyNot : ByteArray := prog_9_method_60_code
def yX7_whyNot : MethodName := ⟨RX7, "whyNot", "(II)I"⟩
abbrev cX7_fits : ByteArray := prog_9_method_61_code
def yX7_fits : MethodName := ⟨RX7, "fits", "(II)I"⟩
abbrev cX7_kinds : ByteArray := prog_9_method_62_code
def yX7_kinds : MethodName := ⟨RX7, "kinds", "(II)I"⟩
abbrev cX7_drawOne : ByteArray := prog_9_method_63_code
def yX7_drawOne : MethodName := ⟨RX7, "drawOne", "()I"⟩
abbrev cX7_talk : ByteArray := prog_9_method_64_code
def yX7_talk : MethodName := ⟨RX7, "talk", "(I)I"⟩
abbrev cX7_odds : ByteArray := prog_9_method_65_code
def yX7_odds : MethodName := ⟨RX7, "odds", "(III)J"⟩
abbrev cX7_seed : ByteArray := prog_9_method_66_code
def yX7_seed : MethodName := ⟨RX7, "seed", "(I)I"⟩
abbrev cX7_feed : ByteArray := prog_9_method_67_code
def yX7_feed : MethodName := ⟨RX7, "feed", "(II)I"⟩
abbrev cX7_wipe : ByteArray := prog_9_method_68_code
def yX7_wipe : MethodName := ⟨RX7, "wipe", "()I"⟩
abbrev cX7_letter : ByteArray := prog_9_method_69_code
def yX7_letter : MethodName := ⟨RX7, "letter", "(I)I"⟩
abbrev cX7_isDigit : ByteArray := prog_9_method_70_code
def yX7_isDigit : MethodName := ⟨RX7, "isDigit", "(I)Z"⟩
abbrev cX7_byteAt : ByteArray := prog_9_method_71_code
def yX7_byteAt : MethodName := ⟨RX7, "byteAt", "(I)I"⟩
abbrev cX7_next : ByteArray := prog_9_method_72_code
def yX7_next : MethodName := ⟨RX7, "next", "()V"⟩
abbrev cX7_wrongHere : ByteArray := prog_9_method_73_code
def yX7_wrongHere : MethodName := ⟨RX7, "wrongHere", "()V"⟩
abbrev cX7_isWord : ByteArray := prog_9_method_74_code
def yX7_isWord : MethodName := ⟨RX7, "isWord", "(J)Z"⟩
abbrev cX7_kindHere : ByteArray := prog_9_method_75_code
def yX7_kindHere : MethodName := ⟨RX7, "kindHere", "()I"⟩
abbrev cX7_numberHere : ByteArray := prog_9_method_76_code
def yX7_numberHere : MethodName := ⟨RX7, "numberHere", "(I)I"⟩
abbrev cX7_perhaps : ByteArray := prog_9_method_77_code
def yX7_perhaps : MethodName := ⟨RX7, "perhaps", "(JII)V"⟩
abbrev cX7_gloveHere : ByteArray := prog_9_method_78_code
def yX7_gloveHere : MethodName := ⟨RX7, "gloveHere", "(I)V"⟩
abbrev cX7_saidHere : ByteArray := prog_9_method_79_code
def yX7_saidHere : MethodName := ⟨RX7, "saidHere", "()V"⟩
abbrev cX7_handHere : ByteArray := prog_9_method_80_code
def yX7_handHere : MethodName := ⟨RX7, "handHere", "()V"⟩
abbrev cX7_item : ByteArray := prog_9_method_81_code
def yX7_item : MethodName := ⟨RX7, "item", "()V"⟩
abbrev cX7_items : ByteArray := prog_9_method_82_code
def yX7_items : MethodName := ⟨RX7, "items", "()I"⟩
abbrev cX7_text : ByteArray := prog_9_method_83_code
def yX7_text : MethodName := ⟨RX7, "text", "()I"⟩
abbrev cX7_hold : ByteArray := prog_9_method_84_code
def yX7_hold : MethodName := ⟨RX7, "hold", "(II)I"⟩
abbrev cX7_above : ByteArray := prog_9_method_85_code
def yX7_above : MethodName := ⟨RX7, "above", "(I)I"⟩
abbrev cX7_as : ByteArray := prog_9_method_86_code
def yX7_as : MethodName := ⟨RX7, "as", "(II)I"⟩
abbrev cX7_isSheet : ByteArray := prog_9_method_87_code
def yX7_isSheet : MethodName := ⟨RX7, "isSheet", "(I)Z"⟩
abbrev cX7_sheet : ByteArray := prog_9_method_88_code
def yX7_sheet : MethodName := ⟨RX7, "sheet", "(III)I"⟩
abbrev cX7_whyNone : ByteArray := prog_9_method_89_code
def yX7_whyNone : MethodName := ⟨RX7, "whyNone", "(I)I"⟩
abbrev cX7_write : ByteArray := prog_9_method_90_code
def yX7_write : MethodName := ⟨RX7, "write", "(III)I"⟩
abbrev cX7_copy : ByteArray := prog_9_method_91_code
def yX7_copy : MethodName := ⟨RX7, "copy", "(IIIII)I"⟩
abbrev cX7_load : ByteArray := prog_9_method_92_code
def yX7_load : MethodName := ⟨RX7, "load", "(I)I"⟩
abbrev cX7_judge : ByteArray := prog_9_method_93_code
def yX7_judge : MethodName := ⟨RX7, "judge", "(I)I"⟩
abbrev cX7_image : ByteArray := prog_9_method_94_code
def yX7_image : MethodName := ⟨RX7, "image", "()I"⟩
abbrev cX7_undo : ByteArray := prog_9_method_95_code
def yX7_undo : MethodName := ⟨RX7, "undo", "()I"⟩
abbrev cX7_tear : ByteArray := prog_9_method_96_code
def yX7_tear : MethodName := ⟨RX7, "tear", "()I"⟩
abbrev cX7_holding : ByteArray := prog_9_method_97_code
def yX7_holding : MethodName := ⟨RX7, "holding", "()I"⟩
abbrev cX7_count : ByteArray := prog_9_method_98_code
def yX7_count : MethodName := ⟨RX7, "count", "(I)I"⟩
abbrev cX7_status : ByteArray := prog_9_method_99_code
def yX7_status : MethodName := ⟨RX7, "status", "(I)I"⟩
def RJ6 : String := "java/lang/Integer"
def TJ6 : u_T := fun k => match k with
  | _ => ("", "", "", false)
def tyJ6 : Nat → FieldType := fun k => match k with
  | _ => .int
theorem nmJ6 : ∀ a, a < 0 → ∀ b, b < 0 → a ≠ b → (TJ6 a).2.1 ≠ (TJ6 b).2.1 := by decide +kernel
theorem tyJ6_ok : ∀ k, k < 0 → parseFieldDescriptor (TJ6 k).2.2.1 = some (tyJ6 k) := by decide +kernel
abbrev cJ6_bitCount_0f7a4 : ByteArray := prog_10_method_49_code
def yJ6_bitCount_0f7a4 : MethodName := ⟨RJ6, "bitCount", "(I)I"⟩
def RJ9 : String := "java/lang/Math"
def TJ9 : u_T := fun k => match k with
  | _ => ("", "", "", false)
def tyJ9 : Nat → FieldType := fun k => match k with
  | _ => .int
theorem nmJ9 : ∀ a, a < 0 → ∀ b, b < 0 → a ≠ b → (TJ9 a).2.1 ≠ (TJ9 b).2.1 := by decide +kernel
theorem tyJ9_ok : ∀ k, k < 0 → parseFieldDescriptor (TJ9 k).2.2.1 = some (tyJ9 k) := by decide +kernel
abbrev cJ9_floorMod_7cf53 : ByteArray := prog_11_method_50_code
def yJ9_floorMod_7cf53 : MethodName := ⟨RJ9, "floorMod", "(II)I"⟩
abbrev cJ9_max_7cf53 : ByteArray := prog_11_method_65_code
def yJ9_max_7cf53 : MethodName := ⟨RJ9, "max", "(II)I"⟩
abbrev cJ9_min_7cf53 : ByteArray := prog_11_method_69_code
def yJ9_min_7cf53 : MethodName := ⟨RJ9, "min", "(II)I"⟩
def RJ0 : String := "java/lang/String"
def TJ0 : u_T := fun k => match k with
  | _ => ("", "", "", false)
def tyJ0 : Nat → FieldType := fun k => match k with
  | _ => .int
theorem nmJ0 : ∀ a, a < 0 → ∀ b, b < 0 → a ≠ b → (TJ0 a).2.1 ≠ (TJ0 b).2.1 := by decide +kernel
theorem tyJ0_ok : ∀ k, k < 0 → parseFieldDescriptor (TJ0 k).2.2.1 = some (tyJ0 k) := by decide +kernel
abbrev cJ0_length_8abf5 : ByteArray := prog_12_method_54_code
def yJ0_length_8abf5 : MethodName := ⟨RJ0, "length", "()I"⟩
abbrev cJ0_charAt_5068e : ByteArray := prog_12_method_56_code
def yJ0_charAt_5068e : MethodName := ⟨RJ0, "charAt", "(I)C"⟩
abbrev cJ0_coder_7d493 : ByteArray := prog_12_method_152_code
def yJ0_coder_7d493 : MethodName := ⟨RJ0, "coder", "()B"⟩
abbrev cJ0_isLatin1_aae02 : ByteArray := prog_12_method_154_code
def yJ0_isLatin1_aae02 : MethodName := ⟨RJ0, "isLatin1", "()Z"⟩
abbrev cJ0_checkIndex_df160 : ByteArray := prog_12_method_155_code
def yJ0_checkIndex_df160 : MethodName := ⟨RJ0, "checkIndex", "(II)V"⟩
def RJ1 : String := "java/lang/StringLatin1"
def TJ1 : u_T := fun k => match k with
  | _ => ("", "", "", false)
def tyJ1 : Nat → FieldType := fun k => match k with
  | _ => .int
theorem nmJ1 : ∀ a, a < 0 → ∀ b, b < 0 → a ≠ b → (TJ1 a).2.1 ≠ (TJ1 b).2.1 := by decide +kernel
theorem tyJ1_ok : ∀ k, k < 0 → parseFieldDescriptor (TJ1 k).2.2.1 = some (tyJ1 k) := by decide +kernel
abbrev cJ1_charAt_3b067 : ByteArray := prog_13_method_2_code
def yJ1_charAt_3b067 : MethodName := ⟨RJ1, "charAt", "([BI)C"⟩
def RJ2 : String := "java/lang/StringUTF16"
def TJ2 : u_T := fun k => match k with
  | _ => ("", "", "", false)
def tyJ2 : Nat → FieldType := fun k => match k with
  | _ => .int
theorem nmJ2 : ∀ a, a < 0 → ∀ b, b < 0 → a ≠ b → (TJ2 a).2.1 ≠ (TJ2 b).2.1 := by decide +kernel
theorem tyJ2_ok : ∀ k, k < 0 → parseFieldDescriptor (TJ2 k).2.2.1 = some (tyJ2 k) := by decide +kernel
abbrev cJ2_getChar_3b067 : ByteArray := prog_14_method_5_code
def yJ2_getChar_3b067 : MethodName := ⟨RJ2, "getChar", "([BI)C"⟩
abbrev cJ2_length_9d52b : ByteArray := prog_14_method_6_code
def yJ2_length_9d52b : MethodName := ⟨RJ2, "length", "([B)I"⟩
abbrev cJ2_charAt_3b067 : ByteArray := prog_14_method_83_code
def yJ2_charAt_3b067 : MethodName := ⟨RJ2, "charAt", "([BI)C"⟩
abbrev cJ2_checkIndex_2214a : ByteArray := prog_14_method_91_code
def yJ2_checkIndex_2214a : MethodName := ⟨RJ2, "checkIndex", "(I[B)V"⟩
def RJ10 : String := "java/lang/System"
def TJ10 : u_T := fun k => match k with
  | _ => ("", "", "", false)
def tyJ10 : Nat → FieldType := fun k => match k with
  | _ => .int
theorem nmJ10 : ∀ a, a < 0 → ∀ b, b < 0 → a ≠ b → (TJ10 a).2.1 ≠ (TJ10 b).2.1 := by decide +kernel
theorem tyJ10_ok : ∀ k, k < 0 → parseFieldDescriptor (TJ10 k).2.2.1 = some (tyJ10 k) := by decide +kernel
def RJ3 : String := "jdk/internal/util/Preconditions"
def TJ3 : u_T := fun k => match k with
  | _ => ("", "", "", false)
def tyJ3 : Nat → FieldType := fun k => match k with
  | _ => .int
theorem nmJ3 : ∀ a, a < 0 → ∀ b, b < 0 → a ≠ b → (TJ3 a).2.1 ≠ (TJ3 b).2.1 := by decide +kernel
theorem tyJ3_ok : ∀ k, k < 0 → parseFieldDescriptor (TJ3 k).2.2.1 = some (tyJ3 k) := by decide +kernel
abbrev cJ3_checkIndex_8e157 : ByteArray := prog_16_method_11_code
def yJ3_checkIndex_8e157 : MethodName := ⟨RJ3, "checkIndex", "(IILjava/util/function/BiFunction;)I"⟩
def RL : String := "LeftGlovesLaw"
abbrev cL_law : ByteArray := code
def yL_law : MethodName := ⟨RL, "law", "([I)Z"⟩
abbrev vwCl : List vw_C := [(RX0, TX0, 6), (RX1, TX1, 7), (RX2, TX2, 3), (RX3, TX3, 2), (RX4, TX4, 3), (RX5, TX5, 5), (RX6, TX6, 8), (RX7, TX7, 18)]
end
section
theorem dX0_init_0 : decode cX0_init 0 = .ok (.aload_n 0, 1) := by decide +kernel
theorem dX0_init_1 : decode cX0_init 1 = .ok (.invokespecial 3, 3) := by decide +kernel
theorem dX0_init_4 : decode cX0_init 4 = .ok (.aload_n 0, 1) := by decide +kernel
theorem dX0_init_5 : decode cX0_init 5 = .ok (.bipush 8, 2) := by decide +kernel
theorem dX0_init_7 : decode cX0_init 7 = .ok (.anewarray 9, 3) := by decide +kernel
theorem dX0_init_10 : decode cX0_init 10 = .ok (.putfield 11, 3) := by decide +kernel
theorem dX0_init_13 : decode cX0_init 13 = .ok (.iconst 0, 1) := by decide +kernel
theorem dX0_init_14 : decode cX0_init 14 = .ok (.istore_n 1, 1) := by decide +kernel
theorem dX0_init_15 : decode cX0_init 15 = .ok (.iload_n 1, 1) := by decide +kernel
theorem dX0_init_16 : decode cX0_init 16 = .ok (.bipush 8, 2) := by decide +kernel
theorem dX0_init_18 : decode cX0_init 18 = .ok (.if_icmp .ge 22, 3) := by decide +kernel
theorem dX0_init_21 : decode cX0_init 21 = .ok (.aload_n 0, 1) := by decide +kernel
theorem dX0_init_22 : decode cX0_init 22 = .ok (.getfield 11, 3) := by decide +kernel
theorem dX0_init_25 : decode cX0_init 25 = .ok (.iload_n 1, 1) := by decide +kernel
theorem dX0_init_26 : decode cX0_init 26 = .ok (.new 9, 3) := by decide +kernel
theorem dX0_init_29 : decode cX0_init 29 = .ok (.dup, 1) := by decide +kernel
theorem dX0_init_30 : decode cX0_init 30 = .ok (.invokespecial 17, 3) := by decide +kernel
theorem dX0_init_33 : decode cX0_init 33 = .ok (.aastore, 1) := by decide +kernel
theorem dX0_init_34 : decode cX0_init 34 = .ok (.iinc 1 1, 3) := by decide +kernel
theorem dX0_init_37 : decode cX0_init 37 = .ok (.goto (-22), 3) := by decide +kernel
theorem dX0_init_40 : decode cX0_init 40 = .ok (.aload_n 0, 1) := by decide +kernel
theorem dX0_init_41 : decode cX0_init 41 = .ok (.bipush 6, 2) := by decide +kernel
theorem dX0_init_43 : decode cX0_init 43 = .ok (.newarray .int, 2) := by decide +kernel
theorem dX0_init_45 : decode cX0_init 45 = .ok (.putfield 18, 3) := by decide +kernel
theorem dX0_init_48 : decode cX0_init 48 = .ok (.iconst 0, 1) := by decide +kernel
theorem dX0_init_49 : decode cX0_init 49 = .ok (.istore_n 1, 1) := by decide +kernel
theorem dX0_init_50 : decode cX0_init 50 = .ok (.iload_n 1, 1) := by decide +kernel
theorem dX0_init_51 : decode cX0_init 51 = .ok (.bipush 6, 2) := by decide +kernel
theorem dX0_init_53 : decode cX0_init 53 = .ok (.if_icmp .ge 21, 3) := by decide +kernel
theorem dX0_init_56 : decode cX0_init 56 = .ok (.aload_n 0, 1) := by decide +kernel
theorem dX0_init_57 : decode cX0_init 57 = .ok (.getfield 18, 3) := by decide +kernel
theorem dX0_init_60 : decode cX0_init 60 = .ok (.iload_n 1, 1) := by decide +kernel
theorem dX0_init_61 : decode cX0_init 61 = .ok (.iload_n 1, 1) := by decide +kernel
theorem dX0_init_62 : decode cX0_init 62 = .ok (.iload_n 1, 1) := by decide +kernel
theorem dX0_init_63 : decode cX0_init 63 = .ok (.iconst 5, 1) := by decide +kernel
theorem dX0_init_64 : decode cX0_init 64 = .ok (.invokestatic 22, 3) := by decide +kernel
theorem dX0_init_67 : decode cX0_init 67 = .ok (.iastore, 1) := by decide +kernel
theorem dX0_init_68 : decode cX0_init 68 = .ok (.iinc 1 1, 3) := by decide +kernel
theorem dX0_init_71 : decode cX0_init 71 = .ok (.goto (-21), 3) := by decide +kernel
theorem dX0_init_74 : decode cX0_init 74 = .ok (.aload_n 0, 1) := by decide +kernel
theorem dX0_init_75 : decode cX0_init 75 = .ok (.bipush 10, 2) := by decide +kernel
theorem dX0_init_77 : decode cX0_init 77 = .ok (.newarray .int, 2) := by decide +kernel
theorem dX0_init_79 : decode cX0_init 79 = .ok (.putfield 26, 3) := by decide +kernel
theorem dX0_init_82 : decode cX0_init 82 = .ok (.iconst 0, 1) := by decide +kernel
theorem dX0_init_83 : decode cX0_init 83 = .ok (.istore_n 1, 1) := by decide +kernel
theorem dX0_init_84 : decode cX0_init 84 = .ok (.iload_n 1, 1) := by decide +kernel
theorem dX0_init_85 : decode cX0_init 85 = .ok (.bipush 10, 2) := by decide +kernel
theorem dX0_init_87 : decode cX0_init 87 = .ok (.if_icmp .ge 16, 3) := by decide +kernel
theorem dX0_init_90 : decode cX0_init 90 = .ok (.aload_n 0, 1) := by decide +kernel
theorem dX0_init_91 : decode cX0_init 91 = .ok (.getfield 26, 3) := by decide +kernel
theorem dX0_init_94 : decode cX0_init 94 = .ok (.iload_n 1, 1) := by decide +kernel
theorem dX0_init_95 : decode cX0_init 95 = .ok (.iconst (-1), 1) := by decide +kernel
theorem dX0_init_96 : decode cX0_init 96 = .ok (.iastore, 1) := by decide +kernel
theorem dX0_init_97 : decode cX0_init 97 = .ok (.iinc 1 1, 3) := by decide +kernel
theorem dX0_init_100 : decode cX0_init 100 = .ok (.goto (-16), 3) := by decide +kernel
theorem dX0_init_103 : decode cX0_init 103 = .ok (.aload_n 0, 1) := by decide +kernel
theorem dX0_init_104 : decode cX0_init 104 = .ok (.iconst 0, 1) := by decide +kernel
theorem dX0_init_105 : decode cX0_init 105 = .ok (.putfield 29, 3) := by decide +kernel
theorem dX0_init_108 : decode cX0_init 108 = .ok (.aload_n 0, 1) := by decide +kernel
theorem dX0_init_109 : decode cX0_init 109 = .ok (.iconst 0, 1) := by decide +kernel
theorem dX0_init_110 : decode cX0_init 110 = .ok (.putfield 33, 3) := by decide +kernel
theorem dX0_init_113 : decode cX0_init 113 = .ok (.aload_n 0, 1) := by decide +kernel
theorem dX0_init_114 : decode cX0_init 114 = .ok (.iconst 1, 1) := by decide +kernel
theorem dX0_init_115 : decode cX0_init 115 = .ok (.putfield 36, 3) := by decide +kernel
theorem dX0_init_118 : decode cX0_init 118 = .ok (.return_, 1) := by decide +kernel
theorem dX0_become_0 : decode cX0_become 0 = .ok (.iconst 0, 1) := by decide +kernel
theorem dX0_become_1 : decode cX0_become 1 = .ok (.istore_n 2, 1) := by decide +kernel
theorem dX0_become_2 : decode cX0_become 2 = .ok (.iload_n 2, 1) := by decide +kernel
theorem dX0_become_3 : decode cX0_become 3 = .ok (.aload_n 1, 1) := by decide +kernel
theorem dX0_become_4 : decode cX0_become 4 = .ok (.getfield 29, 3) := by decide +kernel
theorem dX0_become_7 : decode cX0_become 7 = .ok (.if_icmp .ge 24, 3) := by decide +kernel
theorem dX0_become_10 : decode cX0_become 10 = .ok (.aload_n 0, 1) := by decide +kernel
theorem dX0_become_11 : decode cX0_become 11 = .ok (.getfield 11, 3) := by decide +kernel
theorem dX0_become_14 : decode cX0_become 14 = .ok (.iload_n 2, 1) := by decide +kernel
theorem dX0_become_15 : decode cX0_become 15 = .ok (.aaload, 1) := by decide +kernel
theorem dX0_become_16 : decode cX0_become 16 = .ok (.aload_n 1, 1) := by decide +kernel
theorem dX0_become_17 : decode cX0_become 17 = .ok (.getfield 11, 3) := by decide +kernel
theorem dX0_become_20 : decode cX0_become 20 = .ok (.iload_n 2, 1) := by decide +kernel
theorem dX0_become_21 : decode cX0_become 21 = .ok (.aaload, 1) := by decide +kernel
theorem dX0_become_22 : decode cX0_become 22 = .ok (.invokevirtual 39, 3) := by decide +kernel
theorem dX0_become_25 : decode cX0_become 25 = .ok (.iinc 2 1, 3) := by decide +kernel
theorem dX0_become_28 : decode cX0_become 28 = .ok (.goto (-26), 3) := by decide +kernel
theorem dX0_become_31 : decode cX0_become 31 = .ok (.aload_n 1, 1) := by decide +kernel
theorem dX0_become_32 : decode cX0_become 32 = .ok (.getfield 18, 3) := by decide +kernel
theorem dX0_become_35 : decode cX0_become 35 = .ok (.iconst 0, 1) := by decide +kernel
theorem dX0_become_36 : decode cX0_become 36 = .ok (.aload_n 0, 1) := by decide +kernel
theorem dX0_become_37 : decode cX0_become 37 = .ok (.getfield 18, 3) := by decide +kernel
theorem dX0_become_40 : decode cX0_become 40 = .ok (.iconst 0, 1) := by decide +kernel
theorem dX0_become_41 : decode cX0_become 41 = .ok (.bipush 6, 2) := by decide +kernel
theorem dX0_become_43 : decode cX0_become 43 = .ok (.invokestatic 43, 3) := by decide +kernel
theorem dX0_become_46 : decode cX0_become 46 = .ok (.aload_n 1, 1) := by decide +kernel
theorem dX0_become_47 : decode cX0_become 47 = .ok (.getfield 26, 3) := by decide +kernel
theorem dX0_become_50 : decode cX0_become 50 = .ok (.iconst 0, 1) := by decide +kernel
theorem dX0_become_51 : decode cX0_become 51 = .ok (.aload_n 0, 1) := by decide +kernel
theorem dX0_become_52 : decode cX0_become 52 = .ok (.getfield 26, 3) := by decide +kernel
theorem dX0_become_55 : decode cX0_become 55 = .ok (.iconst 0, 1) := by decide +kernel
theorem dX0_become_56 : decode cX0_become 56 = .ok (.bipush 10, 2) := by decide +kernel
theorem dX0_become_58 : decode cX0_become 58 = .ok (.invokestatic 43, 3) := by decide +kernel
theorem dX0_become_61 : decode cX0_become 61 = .ok (.aload_n 0, 1) := by decide +kernel
theorem dX0_become_62 : decode cX0_become 62 = .ok (.aload_n 1, 1) := by decide +kernel
theorem dX0_become_63 : decode cX0_become 63 = .ok (.getfield 29, 3) := by decide +kernel
theorem dX0_become_66 : decode cX0_become 66 = .ok (.putfield 29, 3) := by decide +kernel
theorem dX0_become_69 : decode cX0_become 69 = .ok (.aload_n 0, 1) := by decide +kernel
theorem dX0_become_70 : decode cX0_become 70 = .ok (.aload_n 1, 1) := by decide +kernel
theorem dX0_become_71 : decode cX0_become 71 = .ok (.getfield 33, 3) := by decide +kernel
theorem dX0_become_74 : decode cX0_become 74 = .ok (.putfield 33, 3) := by decide +kernel
theorem dX0_become_77 : decode cX0_become 77 = .ok (.aload_n 0, 1) := by decide +kernel
theorem dX0_become_78 : decode cX0_become 78 = .ok (.aload_n 1, 1) := by decide +kernel
theorem dX0_become_79 : decode cX0_become 79 = .ok (.getfield 36, 3) := by decide +kernel
theorem dX0_become_82 : decode cX0_become 82 = .ok (.putfield 36, 3) := by decide +kernel
theorem dX0_become_85 : decode cX0_become 85 = .ok (.return_, 1) := by decide +kernel
theorem dX0_has_0 : decode cX0_has 0 = .ok (.iload_n 1, 1) := by decide +kernel
theorem dX0_has_1 : decode cX0_has 1 = .ok (.aload_n 0, 1) := by decide +kernel
theorem dX0_has_2 : decode cX0_has 2 = .ok (.getfield 29, 3) := by decide +kernel
theorem dX0_has_5 : decode cX0_has 5 = .ok (.iconst 1, 1) := by decide +kernel
theorem dX0_has_6 : decode cX0_has 6 = .ok (.isub, 1) := by decide +kernel
theorem dX0_has_7 : decode cX0_has 7 = .ok (.invokestatic 49, 3) := by decide +kernel
theorem dX0_has_10 : decode cX0_has 10 = .ok (.ireturn, 1) := by decide +kernel
theorem dX0_putDown_0 : decode cX0_putDown 0 = .ok (.aload_n 0, 1) := by decide +kernel
theorem dX0_putDown_1 : decode cX0_putDown 1 = .ok (.getfield 29, 3) := by decide +kernel
theorem dX0_putDown_4 : decode cX0_putDown 4 = .ok (.bipush 8, 2) := by decide +kernel
theorem dX0_putDown_6 : decode cX0_putDown 6 = .ok (.if_icmp .lt 5, 3) := by decide +kernel
theorem dX0_putDown_9 : decode cX0_putDown 9 = .ok (.iconst (-1), 1) := by decide +kernel
theorem dX0_putDown_10 : decode cX0_putDown 10 = .ok (.ireturn, 1) := by decide +kernel
theorem dX0_putDown_11 : decode cX0_putDown 11 = .ok (.aload_n 0, 1) := by decide +kernel
theorem dX0_putDown_12 : decode cX0_putDown 12 = .ok (.getfield 11, 3) := by decide +kernel
theorem dX0_putDown_15 : decode cX0_putDown 15 = .ok (.aload_n 0, 1) := by decide +kernel
theorem dX0_putDown_16 : decode cX0_putDown 16 = .ok (.getfield 29, 3) := by decide +kernel
theorem dX0_putDown_19 : decode cX0_putDown 19 = .ok (.aaload, 1) := by decide +kernel
theorem dX0_putDown_20 : decode cX0_putDown 20 = .ok (.iload_n 1, 1) := by decide +kernel
theorem dX0_putDown_21 : decode cX0_putDown 21 = .ok (.iload_n 2, 1) := by decide +kernel
theorem dX0_putDown_22 : decode cX0_putDown 22 = .ok (.invokevirtual 53, 3) := by decide +kernel
theorem dX0_putDown_25 : decode cX0_putDown 25 = .ok (.aload_n 0, 1) := by decide +kernel
theorem dX0_putDown_26 : decode cX0_putDown 26 = .ok (.dup, 1) := by decide +kernel
theorem dX0_putDown_27 : decode cX0_putDown 27 = .ok (.getfield 29, 3) := by decide +kernel
theorem dX0_putDown_30 : decode cX0_putDown 30 = .ok (.iconst 1, 1) := by decide +kernel
theorem dX0_putDown_31 : decode cX0_putDown 31 = .ok (.iadd, 1) := by decide +kernel
theorem dX0_putDown_32 : decode cX0_putDown 32 = .ok (.putfield 29, 3) := by decide +kernel
theorem dX0_putDown_35 : decode cX0_putDown 35 = .ok (.aload_n 0, 1) := by decide +kernel
theorem dX0_putDown_36 : decode cX0_putDown 36 = .ok (.getfield 29, 3) := by decide +kernel
theorem dX0_putDown_39 : decode cX0_putDown 39 = .ok (.iconst 1, 1) := by decide +kernel
theorem dX0_putDown_40 : decode cX0_putDown 40 = .ok (.isub, 1) := by decide +kernel
theorem dX0_putDown_41 : decode cX0_putDown 41 = .ok (.ireturn, 1) := by decide +kernel
theorem dX0_lyingIn_0 : decode cX0_lyingIn 0 = .ok (.iconst 0, 1) := by decide +kernel
theorem dX0_lyingIn_1 : decode cX0_lyingIn 1 = .ok (.istore_n 3, 1) := by decide +kernel
theorem dX0_lyingIn_2 : decode cX0_lyingIn 2 = .ok (.iconst 0, 1) := by decide +kernel
theorem dX0_lyingIn_3 : decode cX0_lyingIn 3 = .ok (.istore 4, 2) := by decide +kernel
theorem dX0_lyingIn_5 : decode cX0_lyingIn 5 = .ok (.iload 4, 2) := by decide +kernel
theorem dX0_lyingIn_7 : decode cX0_lyingIn 7 = .ok (.aload_n 0, 1) := by decide +kernel
theorem dX0_lyingIn_8 : decode cX0_lyingIn 8 = .ok (.getfield 29, 3) := by decide +kernel
theorem dX0_lyingIn_11 : decode cX0_lyingIn 11 = .ok (.if_icmp .ge 30, 3) := by decide +kernel
theorem dX0_lyingIn_14 : decode cX0_lyingIn 14 = .ok (.aload_n 0, 1) := by decide +kernel
theorem dX0_lyingIn_15 : decode cX0_lyingIn 15 = .ok (.getfield 11, 3) := by decide +kernel
theorem dX0_lyingIn_18 : decode cX0_lyingIn 18 = .ok (.iload 4, 2) := by decide +kernel
theorem dX0_lyingIn_20 : decode cX0_lyingIn 20 = .ok (.aaload, 1) := by decide +kernel
theorem dX0_lyingIn_21 : decode cX0_lyingIn 21 = .ok (.getfield 57, 3) := by decide +kernel
theorem dX0_lyingIn_24 : decode cX0_lyingIn 24 = .ok (.iload_n 1, 1) := by decide +kernel
theorem dX0_lyingIn_25 : decode cX0_lyingIn 25 = .ok (.if_icmp .ne 10, 3) := by decide +kernel
theorem dX0_lyingIn_28 : decode cX0_lyingIn 28 = .ok (.iload_n 3, 1) := by decide +kernel
theorem dX0_lyingIn_29 : decode cX0_lyingIn 29 = .ok (.iconst 1, 1) := by decide +kernel
theorem dX0_lyingIn_30 : decode cX0_lyingIn 30 = .ok (.iload 4, 2) := by decide +kernel
theorem dX0_lyingIn_32 : decode cX0_lyingIn 32 = .ok (.ishl, 1) := by decide +kernel
theorem dX0_lyingIn_33 : decode cX0_lyingIn 33 = .ok (.ior, 1) := by decide +kernel
theorem dX0_lyingIn_34 : decode cX0_lyingIn 34 = .ok (.istore_n 3, 1) := by decide +kernel
theorem dX0_lyingIn_35 : decode cX0_lyingIn 35 = .ok (.iinc 4 1, 3) := by decide +kernel
theorem dX0_lyingIn_38 : decode cX0_lyingIn 38 = .ok (.goto (-33), 3) := by decide +kernel
theorem dX0_lyingIn_41 : decode cX0_lyingIn 41 = .ok (.iload_n 3, 1) := by decide +kernel
theorem dX0_lyingIn_42 : decode cX0_lyingIn 42 = .ok (.iload_n 2, 1) := by decide +kernel
theorem dX0_lyingIn_43 : decode cX0_lyingIn 43 = .ok (.iconst (-1), 1) := by decide +kernel
theorem dX0_lyingIn_44 : decode cX0_lyingIn 44 = .ok (.ixor, 1) := by decide +kernel
theorem dX0_lyingIn_45 : decode cX0_lyingIn 45 = .ok (.iand, 1) := by decide +kernel
theorem dX0_lyingIn_46 : decode cX0_lyingIn 46 = .ok (.ireturn, 1) := by decide +kernel
theorem dX0_hushOf_0 : decode cX0_hushOf 0 = .ok (.iconst 0, 1) := by decide +kernel
theorem dX0_hushOf_1 : decode cX0_hushOf 1 = .ok (.istore_n 2, 1) := by decide +kernel
theorem dX0_hushOf_2 : decode cX0_hushOf 2 = .ok (.iconst 0, 1) := by decide +kernel
theorem dX0_hushOf_3 : decode cX0_hushOf 3 = .ok (.istore_n 3, 1) := by decide +kernel
theorem dX0_hushOf_4 : decode cX0_hushOf 4 = .ok (.iload_n 3, 1) := by decide +kernel
theorem dX0_hushOf_5 : decode cX0_hushOf 5 = .ok (.aload_n 0, 1) := by decide +kernel
theorem dX0_hushOf_6 : decode cX0_hushOf 6 = .ok (.getfield 29, 3) := by decide +kernel
theorem dX0_hushOf_9 : decode cX0_hushOf 9 = .ok (.if_icmp .ge 29, 3) := by decide +kernel
theorem dX0_hushOf_12 : decode cX0_hushOf 12 = .ok (.iload_n 3, 1) := by decide +kernel
theorem dX0_hushOf_13 : decode cX0_hushOf 13 = .ok (.iload_n 1, 1) := by decide +kernel
theorem dX0_hushOf_14 : decode cX0_hushOf 14 = .ok (.invokestatic 60, 3) := by decide +kernel
theorem dX0_hushOf_17 : decode cX0_hushOf 17 = .ok (.ifCond .eq 15, 3) := by decide +kernel
theorem dX0_hushOf_20 : decode cX0_hushOf 20 = .ok (.iload_n 2, 1) := by decide +kernel
theorem dX0_hushOf_21 : decode cX0_hushOf 21 = .ok (.aload_n 0, 1) := by decide +kernel
theorem dX0_hushOf_22 : decode cX0_hushOf 22 = .ok (.getfield 11, 3) := by decide +kernel
theorem dX0_hushOf_25 : decode cX0_hushOf 25 = .ok (.iload_n 3, 1) := by decide +kernel
theorem dX0_hushOf_26 : decode cX0_hushOf 26 = .ok (.aaload, 1) := by decide +kernel
theorem dX0_hushOf_27 : decode cX0_hushOf 27 = .ok (.invokevirtual 63, 3) := by decide +kernel
theorem dX0_hushOf_30 : decode cX0_hushOf 30 = .ok (.iadd, 1) := by decide +kernel
theorem dX0_hushOf_31 : decode cX0_hushOf 31 = .ok (.istore_n 2, 1) := by decide +kernel
theorem dX0_hushOf_32 : decode cX0_hushOf 32 = .ok (.iinc 3 1, 3) := by decide +kernel
theorem dX0_hushOf_35 : decode cX0_hushOf 35 = .ok (.goto (-31), 3) := by decide +kernel
theorem dX0_hushOf_38 : decode cX0_hushOf 38 = .ok (.iload_n 2, 1) := by decide +kernel
theorem dX0_hushOf_39 : decode cX0_hushOf 39 = .ok (.ireturn, 1) := by decide +kernel
theorem dX0_knownBy_0 : decode cX0_knownBy 0 = .ok (.iconst 0, 1) := by decide +kernel
theorem dX0_knownBy_1 : decode cX0_knownBy 1 = .ok (.istore_n 2, 1) := by decide +kernel
theorem dX0_knownBy_2 : decode cX0_knownBy 2 = .ok (.iconst 0, 1) := by decide +kernel
theorem dX0_knownBy_3 : decode cX0_knownBy 3 = .ok (.istore_n 3, 1) := by decide +kernel
theorem dX0_knownBy_4 : decode cX0_knownBy 4 = .ok (.iload_n 3, 1) := by decide +kernel
theorem dX0_knownBy_5 : decode cX0_knownBy 5 = .ok (.aload_n 0, 1) := by decide +kernel
theorem dX0_knownBy_6 : decode cX0_knownBy 6 = .ok (.getfield 29, 3) := by decide +kernel
theorem dX0_knownBy_9 : decode cX0_knownBy 9 = .ok (.if_icmp .ge 29, 3) := by decide +kernel
theorem dX0_knownBy_12 : decode cX0_knownBy 12 = .ok (.iload_n 3, 1) := by decide +kernel
theorem dX0_knownBy_13 : decode cX0_knownBy 13 = .ok (.iload_n 1, 1) := by decide +kernel
theorem dX0_knownBy_14 : decode cX0_knownBy 14 = .ok (.invokestatic 60, 3) := by decide +kernel
theorem dX0_knownBy_17 : decode cX0_knownBy 17 = .ok (.ifCond .eq 15, 3) := by decide +kernel
theorem dX0_knownBy_20 : decode cX0_knownBy 20 = .ok (.iload_n 2, 1) := by decide +kernel
theorem dX0_knownBy_21 : decode cX0_knownBy 21 = .ok (.aload_n 0, 1) := by decide +kernel
theorem dX0_knownBy_22 : decode cX0_knownBy 22 = .ok (.getfield 11, 3) := by decide +kernel
theorem dX0_knownBy_25 : decode cX0_knownBy 25 = .ok (.iload_n 3, 1) := by decide +kernel
theorem dX0_knownBy_26 : decode cX0_knownBy 26 = .ok (.aaload, 1) := by decide +kernel
theorem dX0_knownBy_27 : decode cX0_knownBy 27 = .ok (.getfield 67, 3) := by decide +kernel
theorem dX0_knownBy_30 : decode cX0_knownBy 30 = .ok (.ior, 1) := by decide +kernel
theorem dX0_knownBy_31 : decode cX0_knownBy 31 = .ok (.istore_n 2, 1) := by decide +kernel
theorem dX0_knownBy_32 : decode cX0_knownBy 32 = .ok (.iinc 3 1, 3) := by decide +kernel
theorem dX0_knownBy_35 : decode cX0_knownBy 35 = .ok (.goto (-31), 3) := by decide +kernel
theorem dX0_knownBy_38 : decode cX0_knownBy 38 = .ok (.iload_n 2, 1) := by decide +kernel
theorem dX0_knownBy_39 : decode cX0_knownBy 39 = .ok (.ireturn, 1) := by decide +kernel
theorem dX0_knownByHandsOf_0 : decode cX0_knownByHandsOf 0 = .ok (.iconst 0, 1) := by decide +kernel
theorem dX0_knownByHandsOf_1 : decode cX0_knownByHandsOf 1 = .ok (.istore_n 2, 1) := by decide +kernel
theorem dX0_knownByHandsOf_2 : decode cX0_knownByHandsOf 2 = .ok (.iconst 0, 1) := by decide +kernel
theorem dX0_knownByHandsOf_3 : decode cX0_knownByHandsOf 3 = .ok (.istore_n 3, 1) := by decide +kernel
theorem dX0_knownByHandsOf_4 : decode cX0_knownByHandsOf 4 = .ok (.iload_n 3, 1) := by decide +kernel
theorem dX0_knownByHandsOf_5 : decode cX0_knownByHandsOf 5 = .ok (.aload_n 0, 1) := by decide +kernel
theorem dX0_knownByHandsOf_6 : decode cX0_knownByHandsOf 6 = .ok (.getfield 29, 3) := by decide +kernel
theorem dX0_knownByHandsOf_9 : decode cX0_knownByHandsOf 9 = .ok (.if_icmp .ge 29, 3) := by decide +kernel
theorem dX0_knownByHandsOf_12 : decode cX0_knownByHandsOf 12 = .ok (.iload_n 3, 1) := by decide +kernel
theorem dX0_knownByHandsOf_13 : decode cX0_knownByHandsOf 13 = .ok (.iload_n 1, 1) := by decide +kernel
theorem dX0_knownByHandsOf_14 : decode cX0_knownByHandsOf 14 = .ok (.invokestatic 60, 3) := by decide +kernel
theorem dX0_knownByHandsOf_17 : decode cX0_knownByHandsOf 17 = .ok (.ifCond .eq 15, 3) := by decide +kernel
theorem dX0_knownByHandsOf_20 : decode cX0_knownByHandsOf 20 = .ok (.iload_n 2, 1) := by decide +kernel
theorem dX0_knownByHandsOf_21 : decode cX0_knownByHandsOf 21 = .ok (.aload_n 0, 1) := by decide +kernel
theorem dX0_knownByHandsOf_22 : decode cX0_knownByHandsOf 22 = .ok (.getfield 11, 3) := by decide +kernel
theorem dX0_knownByHandsOf_25 : decode cX0_knownByHandsOf 25 = .ok (.iload_n 3, 1) := by decide +kernel
theorem dX0_knownByHandsOf_26 : decode cX0_knownByHandsOf 26 = .ok (.aaload, 1) := by decide +kernel
theorem dX0_knownByHandsOf_27 : decode cX0_knownByHandsOf 27 = .ok (.getfield 70, 3) := by decide +kernel
theorem dX0_knownByHandsOf_30 : decode cX0_knownByHandsOf 30 = .ok (.ior, 1) := by decide +kernel
theorem dX0_knownByHandsOf_31 : decode cX0_knownByHandsOf 31 = .ok (.istore_n 2, 1) := by decide +kernel
theorem dX0_knownByHandsOf_32 : decode cX0_knownByHandsOf 32 = .ok (.iinc 3 1, 3) := by decide +kernel
theorem dX0_knownByHandsOf_35 : decode cX0_knownByHandsOf 35 = .ok (.goto (-31), 3) := by decide +kernel
theorem dX0_knownByHandsOf_38 : decode cX0_knownByHandsOf 38 = .ok (.iload_n 2, 1) := by decide +kernel
theorem dX0_knownByHandsOf_39 : decode cX0_knownByHandsOf 39 = .ok (.ireturn, 1) := by decide +kernel
theorem dX0_knownByGloves_0 : decode cX0_knownByGloves 0 = .ok (.aload_n 0, 1) := by decide +kernel
theorem dX0_knownByGloves_1 : decode cX0_knownByGloves 1 = .ok (.aload_n 0, 1) := by decide +kernel
theorem dX0_knownByGloves_2 : decode cX0_knownByGloves 2 = .ok (.invokevirtual 73, 3) := by decide +kernel
theorem dX0_knownByGloves_5 : decode cX0_knownByGloves 5 = .ok (.invokevirtual 76, 3) := by decide +kernel
theorem dX0_knownByGloves_8 : decode cX0_knownByGloves 8 = .ok (.ireturn, 1) := by decide +kernel
theorem dX0_knownByHands_0 : decode cX0_knownByHands 0 = .ok (.aload_n 0, 1) := by decide +kernel
theorem dX0_knownByHands_1 : decode cX0_knownByHands 1 = .ok (.aload_n 0, 1) := by decide +kernel
theorem dX0_knownByHands_2 : decode cX0_knownByHands 2 = .ok (.invokevirtual 73, 3) := by decide +kernel
theorem dX0_knownByHands_5 : decode cX0_knownByHands 5 = .ok (.invokevirtual 80, 3) := by decide +kernel
theorem dX0_knownByHands_8 : decode cX0_knownByHands 8 = .ok (.ireturn, 1) := by decide +kernel
theorem dX0_knownToAnyone_0 : decode cX0_knownToAnyone 0 = .ok (.aload_n 0, 1) := by decide +kernel
theorem dX0_knownToAnyone_1 : decode cX0_knownToAnyone 1 = .ok (.invokevirtual 83, 3) := by decide +kernel
theorem dX0_knownToAnyone_4 : decode cX0_knownToAnyone 4 = .ok (.aload_n 0, 1) := by decide +kernel
theorem dX0_knownToAnyone_5 : decode cX0_knownToAnyone 5 = .ok (.invokevirtual 86, 3) := by decide +kernel
theorem dX0_knownToAnyone_8 : decode cX0_knownToAnyone 8 = .ok (.ior, 1) := by decide +kernel
theorem dX0_knownToAnyone_9 : decode cX0_knownToAnyone 9 = .ok (.ireturn, 1) := by decide +kernel
theorem dX0_everyone_0 : decode cX0_everyone 0 = .ok (.iconst 1, 1) := by decide +kernel
theorem dX0_everyone_1 : decode cX0_everyone 1 = .ok (.aload_n 0, 1) := by decide +kernel
theorem dX0_everyone_2 : decode cX0_everyone 2 = .ok (.getfield 29, 3) := by decide +kernel
theorem dX0_everyone_5 : decode cX0_everyone 5 = .ok (.ishl, 1) := by decide +kernel
theorem dX0_everyone_6 : decode cX0_everyone 6 = .ok (.iconst 1, 1) := by decide +kernel
theorem dX0_everyone_7 : decode cX0_everyone 7 = .ok (.isub, 1) := by decide +kernel
theorem dX0_everyone_8 : decode cX0_everyone 8 = .ok (.ireturn, 1) := by decide +kernel
theorem dX0_whoKnows_0 : decode cX0_whoKnows 0 = .ok (.iconst 0, 1) := by decide +kernel
theorem dX0_whoKnows_1 : decode cX0_whoKnows 1 = .ok (.istore_n 3, 1) := by decide +kernel
theorem dX0_whoKnows_2 : decode cX0_whoKnows 2 = .ok (.iconst 0, 1) := by decide +kernel
theorem dX0_whoKnows_3 : decode cX0_whoKnows 3 = .ok (.istore 4, 2) := by decide +kernel
theorem dX0_whoKnows_5 : decode cX0_whoKnows 5 = .ok (.iload 4, 2) := by decide +kernel
theorem dX0_whoKnows_7 : decode cX0_whoKnows 7 = .ok (.aload_n 0, 1) := by decide +kernel
theorem dX0_whoKnows_8 : decode cX0_whoKnows 8 = .ok (.getfield 29, 3) := by decide +kernel
theorem dX0_whoKnows_11 : decode cX0_whoKnows 11 = .ok (.if_icmp .ge 50, 3) := by decide +kernel
theorem dX0_whoKnows_14 : decode cX0_whoKnows 14 = .ok (.iload_n 1, 1) := by decide +kernel
theorem dX0_whoKnows_15 : decode cX0_whoKnows 15 = .ok (.iload_n 2, 1) := by decide +kernel
theorem dX0_whoKnows_16 : decode cX0_whoKnows 16 = .ok (.ifCond .eq 16, 3) := by decide +kernel
theorem dX0_whoKnows_19 : decode cX0_whoKnows 19 = .ok (.aload_n 0, 1) := by decide +kernel
theorem dX0_whoKnows_20 : decode cX0_whoKnows 20 = .ok (.getfield 11, 3) := by decide +kernel
theorem dX0_whoKnows_23 : decode cX0_whoKnows 23 = .ok (.iload 4, 2) := by decide +kernel
theorem dX0_whoKnows_25 : decode cX0_whoKnows 25 = .ok (.aaload, 1) := by decide +kernel
theorem dX0_whoKnows_26 : decode cX0_whoKnows 26 = .ok (.getfield 70, 3) := by decide +kernel
theorem dX0_whoKnows_29 : decode cX0_whoKnows 29 = .ok (.goto 13, 3) := by decide +kernel
theorem dX0_whoKnows_32 : decode cX0_whoKnows 32 = .ok (.aload_n 0, 1) := by decide +kernel
theorem dX0_whoKnows_33 : decode cX0_whoKnows 33 = .ok (.getfield 11, 3) := by decide +kernel
theorem dX0_whoKnows_36 : decode cX0_whoKnows 36 = .ok (.iload 4, 2) := by decide +kernel
theorem dX0_whoKnows_38 : decode cX0_whoKnows 38 = .ok (.aaload, 1) := by decide +kernel
theorem dX0_whoKnows_39 : decode cX0_whoKnows 39 = .ok (.getfield 67, 3) := by decide +kernel
theorem dX0_whoKnows_42 : decode cX0_whoKnows 42 = .ok (.invokestatic 60, 3) := by decide +kernel
theorem dX0_whoKnows_45 : decode cX0_whoKnows 45 = .ok (.ifCond .eq 10, 3) := by decide +kernel
theorem dX0_whoKnows_48 : decode cX0_whoKnows 48 = .ok (.iload_n 3, 1) := by decide +kernel
theorem dX0_whoKnows_49 : decode cX0_whoKnows 49 = .ok (.iconst 1, 1) := by decide +kernel
theorem dX0_whoKnows_50 : decode cX0_whoKnows 50 = .ok (.iload 4, 2) := by decide +kernel
theorem dX0_whoKnows_52 : decode cX0_whoKnows 52 = .ok (.ishl, 1) := by decide +kernel
theorem dX0_whoKnows_53 : decode cX0_whoKnows 53 = .ok (.ior, 1) := by decide +kernel
theorem dX0_whoKnows_54 : decode cX0_whoKnows 54 = .ok (.istore_n 3, 1) := by decide +kernel
theorem dX0_whoKnows_55 : decode cX0_whoKnows 55 = .ok (.iinc 4 1, 3) := by decide +kernel
theorem dX0_whoKnows_58 : decode cX0_whoKnows 58 = .ok (.goto (-53), 3) := by decide +kernel
theorem dX0_whoKnows_61 : decode cX0_whoKnows 61 = .ok (.iload_n 3, 1) := by decide +kernel
theorem dX0_whoKnows_62 : decode cX0_whoKnows 62 = .ok (.ireturn, 1) := by decide +kernel
theorem dX0_saidIn_0 : decode cX0_saidIn 0 = .ok (.iconst 0, 1) := by decide +kernel
theorem dX0_saidIn_1 : decode cX0_saidIn 1 = .ok (.istore_n 2, 1) := by decide +kernel
theorem dX0_saidIn_2 : decode cX0_saidIn 2 = .ok (.iconst 0, 1) := by decide +kernel
theorem dX0_saidIn_3 : decode cX0_saidIn 3 = .ok (.istore_n 3, 1) := by decide +kernel
theorem dX0_saidIn_4 : decode cX0_saidIn 4 = .ok (.iload_n 3, 1) := by decide +kernel
theorem dX0_saidIn_5 : decode cX0_saidIn 5 = .ok (.bipush 6, 2) := by decide +kernel
theorem dX0_saidIn_7 : decode cX0_saidIn 7 = .ok (.if_icmp .ge 36, 3) := by decide +kernel
theorem dX0_saidIn_10 : decode cX0_saidIn 10 = .ok (.aload_n 0, 1) := by decide +kernel
theorem dX0_saidIn_11 : decode cX0_saidIn 11 = .ok (.getfield 18, 3) := by decide +kernel
theorem dX0_saidIn_14 : decode cX0_saidIn 14 = .ok (.iload_n 3, 1) := by decide +kernel
theorem dX0_saidIn_15 : decode cX0_saidIn 15 = .ok (.iaload, 1) := by decide +kernel
theorem dX0_saidIn_16 : decode cX0_saidIn 16 = .ok (.invokestatic 89, 3) := by decide +kernel
theorem dX0_saidIn_19 : decode cX0_saidIn 19 = .ok (.iload_n 1, 1) := by decide +kernel
theorem dX0_saidIn_20 : decode cX0_saidIn 20 = .ok (.if_icmp .ne 17, 3) := by decide +kernel
theorem dX0_saidIn_23 : decode cX0_saidIn 23 = .ok (.iload_n 2, 1) := by decide +kernel
theorem dX0_saidIn_24 : decode cX0_saidIn 24 = .ok (.iconst 1, 1) := by decide +kernel
theorem dX0_saidIn_25 : decode cX0_saidIn 25 = .ok (.aload_n 0, 1) := by decide +kernel
theorem dX0_saidIn_26 : decode cX0_saidIn 26 = .ok (.getfield 18, 3) := by decide +kernel
theorem dX0_saidIn_29 : decode cX0_saidIn 29 = .ok (.iload_n 3, 1) := by decide +kernel
theorem dX0_saidIn_30 : decode cX0_saidIn 30 = .ok (.iaload, 1) := by decide +kernel
theorem dX0_saidIn_31 : decode cX0_saidIn 31 = .ok (.invokestatic 92, 3) := by decide +kernel
theorem dX0_saidIn_34 : decode cX0_saidIn 34 = .ok (.ishl, 1) := by decide +kernel
theorem dX0_saidIn_35 : decode cX0_saidIn 35 = .ok (.ior, 1) := by decide +kernel
theorem dX0_saidIn_36 : decode cX0_saidIn 36 = .ok (.istore_n 2, 1) := by decide +kernel
theorem dX0_saidIn_37 : decode cX0_saidIn 37 = .ok (.iinc 3 1, 3) := by decide +kernel
theorem dX0_saidIn_40 : decode cX0_saidIn 40 = .ok (.goto (-36), 3) := by decide +kernel
theorem dX0_saidIn_43 : decode cX0_saidIn 43 = .ok (.iload_n 2, 1) := by decide +kernel
theorem dX0_saidIn_44 : decode cX0_saidIn 44 = .ok (.ireturn, 1) := by decide +kernel
theorem dX0_drawnInAll_0 : decode cX0_drawnInAll 0 = .ok (.iconst 0, 1) := by decide +kernel
theorem dX0_drawnInAll_1 : decode cX0_drawnInAll 1 = .ok (.istore_n 1, 1) := by decide +kernel
theorem dX0_drawnInAll_2 : decode cX0_drawnInAll 2 = .ok (.iconst 0, 1) := by decide +kernel
theorem dX0_drawnInAll_3 : decode cX0_drawnInAll 3 = .ok (.istore_n 2, 1) := by decide +kernel
theorem dX0_drawnInAll_4 : decode cX0_drawnInAll 4 = .ok (.iload_n 2, 1) := by decide +kernel
theorem dX0_drawnInAll_5 : decode cX0_drawnInAll 5 = .ok (.aload_n 0, 1) := by decide +kernel
theorem dX0_drawnInAll_6 : decode cX0_drawnInAll 6 = .ok (.getfield 29, 3) := by decide +kernel
theorem dX0_drawnInAll_9 : decode cX0_drawnInAll 9 = .ok (.if_icmp .ge 21, 3) := by decide +kernel
theorem dX0_drawnInAll_12 : decode cX0_drawnInAll 12 = .ok (.iload_n 1, 1) := by decide +kernel
theorem dX0_drawnInAll_13 : decode cX0_drawnInAll 13 = .ok (.aload_n 0, 1) := by decide +kernel
theorem dX0_drawnInAll_14 : decode cX0_drawnInAll 14 = .ok (.getfield 11, 3) := by decide +kernel
theorem dX0_drawnInAll_17 : decode cX0_drawnInAll 17 = .ok (.iload_n 2, 1) := by decide +kernel
theorem dX0_drawnInAll_18 : decode cX0_drawnInAll 18 = .ok (.aaload, 1) := by decide +kernel
theorem dX0_drawnInAll_19 : decode cX0_drawnInAll 19 = .ok (.getfield 95, 3) := by decide +kernel
theorem dX0_drawnInAll_22 : decode cX0_drawnInAll 22 = .ok (.iadd, 1) := by decide +kernel
theorem dX0_drawnInAll_23 : decode cX0_drawnInAll 23 = .ok (.istore_n 1, 1) := by decide +kernel
theorem dX0_drawnInAll_24 : decode cX0_drawnInAll 24 = .ok (.iinc 2 1, 3) := by decide +kernel
theorem dX0_drawnInAll_27 : decode cX0_drawnInAll 27 = .ok (.goto (-23), 3) := by decide +kernel
theorem dX0_drawnInAll_30 : decode cX0_drawnInAll 30 = .ok (.iload_n 1, 1) := by decide +kernel
theorem dX0_drawnInAll_31 : decode cX0_drawnInAll 31 = .ok (.ireturn, 1) := by decide +kernel
theorem dX0_topicsInHand_0 : decode cX0_topicsInHand 0 = .ok (.aload_n 0, 1) := by decide +kernel
theorem dX0_topicsInHand_1 : decode cX0_topicsInHand 1 = .ok (.getfield 11, 3) := by decide +kernel
theorem dX0_topicsInHand_4 : decode cX0_topicsInHand 4 = .ok (.iload_n 1, 1) := by decide +kernel
theorem dX0_topicsInHand_5 : decode cX0_topicsInHand 5 = .ok (.aaload, 1) := by decide +kernel
theorem dX0_topicsInHand_6 : decode cX0_topicsInHand 6 = .ok (.getfield 70, 3) := by decide +kernel
theorem dX0_topicsInHand_9 : decode cX0_topicsInHand 9 = .ok (.invokestatic 98, 3) := by decide +kernel
theorem dX0_topicsInHand_12 : decode cX0_topicsInHand 12 = .ok (.ireturn, 1) := by decide +kernel
theorem dX0_wisest_0 : decode cX0_wisest 0 = .ok (.iconst (-1), 1) := by decide +kernel
theorem dX0_wisest_1 : decode cX0_wisest 1 = .ok (.istore_n 1, 1) := by decide +kernel
theorem dX0_wisest_2 : decode cX0_wisest 2 = .ok (.iconst (-1), 1) := by decide +kernel
theorem dX0_wisest_3 : decode cX0_wisest 3 = .ok (.istore_n 2, 1) := by decide +kernel
theorem dX0_wisest_4 : decode cX0_wisest 4 = .ok (.iconst 0, 1) := by decide +kernel
theorem dX0_wisest_5 : decode cX0_wisest 5 = .ok (.istore_n 3, 1) := by decide +kernel
theorem dX0_wisest_6 : decode cX0_wisest 6 = .ok (.iload_n 3, 1) := by decide +kernel
theorem dX0_wisest_7 : decode cX0_wisest 7 = .ok (.aload_n 0, 1) := by decide +kernel
theorem dX0_wisest_8 : decode cX0_wisest 8 = .ok (.getfield 29, 3) := by decide +kernel
theorem dX0_wisest_11 : decode cX0_wisest 11 = .ok (.if_icmp .ge 27, 3) := by decide +kernel
theorem dX0_wisest_14 : decode cX0_wisest 14 = .ok (.aload_n 0, 1) := by decide +kernel
theorem dX0_wisest_15 : decode cX0_wisest 15 = .ok (.iload_n 3, 1) := by decide +kernel
theorem dX0_wisest_16 : decode cX0_wisest 16 = .ok (.invokevirtual 103, 3) := by decide +kernel
theorem dX0_wisest_19 : decode cX0_wisest 19 = .ok (.istore 4, 2) := by decide +kernel
theorem dX0_wisest_21 : decode cX0_wisest 21 = .ok (.iload 4, 2) := by decide +kernel
theorem dX0_wisest_23 : decode cX0_wisest 23 = .ok (.iload_n 2, 1) := by decide +kernel
theorem dX0_wisest_24 : decode cX0_wisest 24 = .ok (.if_icmp .le 8, 3) := by decide +kernel
theorem dX0_wisest_27 : decode cX0_wisest 27 = .ok (.iload_n 3, 1) := by decide +kernel
theorem dX0_wisest_28 : decode cX0_wisest 28 = .ok (.istore_n 1, 1) := by decide +kernel
theorem dX0_wisest_29 : decode cX0_wisest 29 = .ok (.iload 4, 2) := by decide +kernel
theorem dX0_wisest_31 : decode cX0_wisest 31 = .ok (.istore_n 2, 1) := by decide +kernel
theorem dX0_wisest_32 : decode cX0_wisest 32 = .ok (.iinc 3 1, 3) := by decide +kernel
theorem dX0_wisest_35 : decode cX0_wisest 35 = .ok (.goto (-29), 3) := by decide +kernel
theorem dX0_wisest_38 : decode cX0_wisest 38 = .ok (.iload_n 1, 1) := by decide +kernel
theorem dX0_wisest_39 : decode cX0_wisest 39 = .ok (.ireturn, 1) := by decide +kernel
theorem dX0_spotsThatHold_0 : decode cX0_spotsThatHold 0 = .ok (.iconst 0, 1) := by decide +kernel
theorem dX0_spotsThatHold_1 : decode cX0_spotsThatHold 1 = .ok (.istore_n 1, 1) := by decide +kernel
theorem dX0_spotsThatHold_2 : decode cX0_spotsThatHold 2 = .ok (.iconst 0, 1) := by decide +kernel
theorem dX0_spotsThatHold_3 : decode cX0_spotsThatHold 3 = .ok (.istore_n 2, 1) := by decide +kernel
theorem dX0_spotsThatHold_4 : decode cX0_spotsThatHold 4 = .ok (.iload_n 2, 1) := by decide +kernel
theorem dX0_spotsThatHold_5 : decode cX0_spotsThatHold 5 = .ok (.bipush 10, 2) := by decide +kernel
theorem dX0_spotsThatHold_7 : decode cX0_spotsThatHold 7 = .ok (.if_icmp .ge 22, 3) := by decide +kernel
theorem dX0_spotsThatHold_10 : decode cX0_spotsThatHold 10 = .ok (.aload_n 0, 1) := by decide +kernel
theorem dX0_spotsThatHold_11 : decode cX0_spotsThatHold 11 = .ok (.getfield 26, 3) := by decide +kernel
theorem dX0_spotsThatHold_14 : decode cX0_spotsThatHold 14 = .ok (.iload_n 2, 1) := by decide +kernel
theorem dX0_spotsThatHold_15 : decode cX0_spotsThatHold 15 = .ok (.iaload, 1) := by decide +kernel
theorem dX0_spotsThatHold_16 : decode cX0_spotsThatHold 16 = .ok (.iconst (-1), 1) := by decide +kernel
theorem dX0_spotsThatHold_17 : decode cX0_spotsThatHold 17 = .ok (.if_icmp .eq 6, 3) := by decide +kernel
theorem dX0_spotsThatHold_20 : decode cX0_spotsThatHold 20 = .ok (.iinc 1 1, 3) := by decide +kernel
theorem dX0_spotsThatHold_23 : decode cX0_spotsThatHold 23 = .ok (.iinc 2 1, 3) := by decide +kernel
theorem dX0_spotsThatHold_26 : decode cX0_spotsThatHold 26 = .ok (.goto (-22), 3) := by decide +kernel
theorem dX0_spotsThatHold_29 : decode cX0_spotsThatHold 29 = .ok (.iload_n 1, 1) := by decide +kernel
theorem dX0_spotsThatHold_30 : decode cX0_spotsThatHold 30 = .ok (.ireturn, 1) := by decide +kernel
theorem dX0_needOf_0 : decode cX0_needOf 0 = .ok (.aload_n 0, 1) := by decide +kernel
theorem dX0_needOf_1 : decode cX0_needOf 1 = .ok (.aload_n 0, 1) := by decide +kernel
theorem dX0_needOf_2 : decode cX0_needOf 2 = .ok (.getfield 11, 3) := by decide +kernel
theorem dX0_needOf_5 : decode cX0_needOf 5 = .ok (.iload_n 1, 1) := by decide +kernel
theorem dX0_needOf_6 : decode cX0_needOf 6 = .ok (.aaload, 1) := by decide +kernel
theorem dX0_needOf_7 : decode cX0_needOf 7 = .ok (.getfield 57, 3) := by decide +kernel
theorem dX0_needOf_10 : decode cX0_needOf 10 = .ok (.iconst 0, 1) := by decide +kernel
theorem dX0_needOf_11 : decode cX0_needOf 11 = .ok (.invokevirtual 106, 3) := by decide +kernel
theorem dX0_needOf_14 : decode cX0_needOf 14 = .ok (.iconst 1, 1) := by decide +kernel
theorem dX0_needOf_15 : decode cX0_needOf 15 = .ok (.iload_n 1, 1) := by decide +kernel
theorem dX0_needOf_16 : decode cX0_needOf 16 = .ok (.ishl, 1) := by decide +kernel
theorem dX0_needOf_17 : decode cX0_needOf 17 = .ok (.iconst (-1), 1) := by decide +kernel
theorem dX0_needOf_18 : decode cX0_needOf 18 = .ok (.ixor, 1) := by decide +kernel
theorem dX0_needOf_19 : decode cX0_needOf 19 = .ok (.iand, 1) := by decide +kernel
theorem dX0_needOf_20 : decode cX0_needOf 20 = .ok (.istore_n 2, 1) := by decide +kernel
theorem dX0_needOf_21 : decode cX0_needOf 21 = .ok (.aload_n 0, 1) := by decide +kernel
theorem dX0_needOf_22 : decode cX0_needOf 22 = .ok (.getfield 11, 3) := by decide +kernel
theorem dX0_needOf_25 : decode cX0_needOf 25 = .ok (.iload_n 1, 1) := by decide +kernel
theorem dX0_needOf_26 : decode cX0_needOf 26 = .ok (.aaload, 1) := by decide +kernel
theorem dX0_needOf_27 : decode cX0_needOf 27 = .ok (.iload_n 2, 1) := by decide +kernel
theorem dX0_needOf_28 : decode cX0_needOf 28 = .ok (.ifCond .eq 7, 3) := by decide +kernel
theorem dX0_needOf_31 : decode cX0_needOf 31 = .ok (.iconst 1, 1) := by decide +kernel
theorem dX0_needOf_32 : decode cX0_needOf 32 = .ok (.goto 4, 3) := by decide +kernel
theorem dX0_needOf_35 : decode cX0_needOf 35 = .ok (.iconst 0, 1) := by decide +kernel
theorem dX0_needOf_36 : decode cX0_needOf 36 = .ok (.invokevirtual 110, 3) := by decide +kernel
theorem dX0_needOf_39 : decode cX0_needOf 39 = .ok (.ireturn, 1) := by decide +kernel
theorem dX0_hearersOf_0 : decode cX0_hearersOf 0 = .ok (.aload_n 0, 1) := by decide +kernel
theorem dX0_hearersOf_1 : decode cX0_hearersOf 1 = .ok (.iload_n 1, 1) := by decide +kernel
theorem dX0_hearersOf_2 : decode cX0_hearersOf 2 = .ok (.invokestatic 89, 3) := by decide +kernel
theorem dX0_hearersOf_5 : decode cX0_hearersOf 5 = .ok (.iload_n 2, 1) := by decide +kernel
theorem dX0_hearersOf_6 : decode cX0_hearersOf 6 = .ok (.invokevirtual 106, 3) := by decide +kernel
theorem dX0_hearersOf_9 : decode cX0_hearersOf 9 = .ok (.istore_n 3, 1) := by decide +kernel
theorem dX0_hearersOf_10 : decode cX0_hearersOf 10 = .ok (.iconst 0, 1) := by decide +kernel
theorem dX0_hearersOf_11 : decode cX0_hearersOf 11 = .ok (.iload_n 1, 1) := by decide +kernel
theorem dX0_hearersOf_12 : decode cX0_hearersOf 12 = .ok (.invokestatic 114, 3) := by decide +kernel
theorem dX0_hearersOf_15 : decode cX0_hearersOf 15 = .ok (.aload_n 0, 1) := by decide +kernel
theorem dX0_hearersOf_16 : decode cX0_hearersOf 16 = .ok (.iload_n 3, 1) := by decide +kernel
theorem dX0_hearersOf_17 : decode cX0_hearersOf 17 = .ok (.invokevirtual 117, 3) := by decide +kernel
theorem dX0_hearersOf_20 : decode cX0_hearersOf 20 = .ok (.isub, 1) := by decide +kernel
theorem dX0_hearersOf_21 : decode cX0_hearersOf 21 = .ok (.invokestatic 120, 3) := by decide +kernel
theorem dX0_hearersOf_24 : decode cX0_hearersOf 24 = .ok (.istore 4, 2) := by decide +kernel
theorem dX0_hearersOf_26 : decode cX0_hearersOf 26 = .ok (.iconst 0, 1) := by decide +kernel
theorem dX0_hearersOf_27 : decode cX0_hearersOf 27 = .ok (.istore 5, 2) := by decide +kernel
theorem dX0_hearersOf_29 : decode cX0_hearersOf 29 = .ok (.iconst 0, 1) := by decide +kernel
theorem dX0_hearersOf_30 : decode cX0_hearersOf 30 = .ok (.istore 6, 2) := by decide +kernel
theorem dX0_hearersOf_32 : decode cX0_hearersOf 32 = .ok (.iload 6, 2) := by decide +kernel
theorem dX0_hearersOf_34 : decode cX0_hearersOf 34 = .ok (.aload_n 0, 1) := by decide +kernel
theorem dX0_hearersOf_35 : decode cX0_hearersOf 35 = .ok (.getfield 29, 3) := by decide +kernel
theorem dX0_hearersOf_38 : decode cX0_hearersOf 38 = .ok (.if_icmp .ge 60, 3) := by decide +kernel
theorem dX0_hearersOf_41 : decode cX0_hearersOf 41 = .ok (.iconst 1, 1) := by decide +kernel
theorem dX0_hearersOf_42 : decode cX0_hearersOf 42 = .ok (.iload 6, 2) := by decide +kernel
theorem dX0_hearersOf_44 : decode cX0_hearersOf 44 = .ok (.ishl, 1) := by decide +kernel
theorem dX0_hearersOf_45 : decode cX0_hearersOf 45 = .ok (.istore 7, 2) := by decide +kernel
theorem dX0_hearersOf_47 : decode cX0_hearersOf 47 = .ok (.iload 6, 2) := by decide +kernel
theorem dX0_hearersOf_49 : decode cX0_hearersOf 49 = .ok (.iload_n 3, 1) := by decide +kernel
theorem dX0_hearersOf_50 : decode cX0_hearersOf 50 = .ok (.invokestatic 60, 3) := by decide +kernel
theorem dX0_hearersOf_53 : decode cX0_hearersOf 53 = .ok (.ifCond .eq 39, 3) := by decide +kernel
theorem dX0_hearersOf_56 : decode cX0_hearersOf 56 = .ok (.aload_n 0, 1) := by decide +kernel
theorem dX0_hearersOf_57 : decode cX0_hearersOf 57 = .ok (.getfield 11, 3) := by decide +kernel
theorem dX0_hearersOf_60 : decode cX0_hearersOf 60 = .ok (.iload 6, 2) := by decide +kernel
theorem dX0_hearersOf_62 : decode cX0_hearersOf 62 = .ok (.aaload, 1) := by decide +kernel
theorem dX0_hearersOf_63 : decode cX0_hearersOf 63 = .ok (.iload_n 3, 1) := by decide +kernel
theorem dX0_hearersOf_64 : decode cX0_hearersOf 64 = .ok (.iload 7, 2) := by decide +kernel
theorem dX0_hearersOf_66 : decode cX0_hearersOf 66 = .ok (.iconst (-1), 1) := by decide +kernel
theorem dX0_hearersOf_67 : decode cX0_hearersOf 67 = .ok (.ixor, 1) := by decide +kernel
theorem dX0_hearersOf_68 : decode cX0_hearersOf 68 = .ok (.iand, 1) := by decide +kernel
theorem dX0_hearersOf_69 : decode cX0_hearersOf 69 = .ok (.ifCond .eq 7, 3) := by decide +kernel
theorem dX0_hearersOf_72 : decode cX0_hearersOf 72 = .ok (.iconst 1, 1) := by decide +kernel
theorem dX0_hearersOf_73 : decode cX0_hearersOf 73 = .ok (.goto 4, 3) := by decide +kernel
theorem dX0_hearersOf_76 : decode cX0_hearersOf 76 = .ok (.iconst 0, 1) := by decide +kernel
theorem dX0_hearersOf_77 : decode cX0_hearersOf 77 = .ok (.invokevirtual 110, 3) := by decide +kernel
theorem dX0_hearersOf_80 : decode cX0_hearersOf 80 = .ok (.iload 4, 2) := by decide +kernel
theorem dX0_hearersOf_82 : decode cX0_hearersOf 82 = .ok (.if_icmp .gt 10, 3) := by decide +kernel
theorem dX0_hearersOf_85 : decode cX0_hearersOf 85 = .ok (.iload 5, 2) := by decide +kernel
theorem dX0_hearersOf_87 : decode cX0_hearersOf 87 = .ok (.iload 7, 2) := by decide +kernel
theorem dX0_hearersOf_89 : decode cX0_hearersOf 89 = .ok (.ior, 1) := by decide +kernel
theorem dX0_hearersOf_90 : decode cX0_hearersOf 90 = .ok (.istore 5, 2) := by decide +kernel
theorem dX0_hearersOf_92 : decode cX0_hearersOf 92 = .ok (.iinc 6 1, 3) := by decide +kernel
theorem dX0_hearersOf_95 : decode cX0_hearersOf 95 = .ok (.goto (-63), 3) := by decide +kernel
theorem dX0_hearersOf_98 : decode cX0_hearersOf 98 = .ok (.iload 5, 2) := by decide +kernel
theorem dX0_hearersOf_100 : decode cX0_hearersOf 100 = .ok (.ireturn, 1) := by decide +kernel
theorem dX0_placeOfToday_0 : decode cX0_placeOfToday 0 = .ok (.aload_n 0, 1) := by decide +kernel
theorem dX0_placeOfToday_1 : decode cX0_placeOfToday 1 = .ok (.getfield 33, 3) := by decide +kernel
theorem dX0_placeOfToday_4 : decode cX0_placeOfToday 4 = .ok (.bipush 6, 2) := by decide +kernel
theorem dX0_placeOfToday_6 : decode cX0_placeOfToday 6 = .ok (.invokestatic 125, 3) := by decide +kernel
theorem dX0_placeOfToday_9 : decode cX0_placeOfToday 9 = .ok (.ireturn, 1) := by decide +kernel
theorem dX0_passDays_0 : decode cX0_passDays 0 = .ok (.iconst 0, 1) := by decide +kernel
theorem dX0_passDays_1 : decode cX0_passDays 1 = .ok (.istore_n 3, 1) := by decide +kernel
theorem dX0_passDays_2 : decode cX0_passDays 2 = .ok (.iload_n 3, 1) := by decide +kernel
theorem dX0_passDays_3 : decode cX0_passDays 3 = .ok (.iload_n 1, 1) := by decide +kernel
theorem dX0_passDays_4 : decode cX0_passDays 4 = .ok (.if_icmp .ge 14, 3) := by decide +kernel
theorem dX0_passDays_7 : decode cX0_passDays 7 = .ok (.aload_n 0, 1) := by decide +kernel
theorem dX0_passDays_8 : decode cX0_passDays 8 = .ok (.iload_n 2, 1) := by decide +kernel
theorem dX0_passDays_9 : decode cX0_passDays 9 = .ok (.invokevirtual 128, 3) := by decide +kernel
theorem dX0_passDays_12 : decode cX0_passDays 12 = .ok (.iinc 3 1, 3) := by decide +kernel
theorem dX0_passDays_15 : decode cX0_passDays 15 = .ok (.goto (-13), 3) := by decide +kernel
theorem dX0_passDays_18 : decode cX0_passDays 18 = .ok (.return_, 1) := by decide +kernel
theorem dX0_passDay_0 : decode cX0_passDay 0 = .ok (.aload_n 0, 1) := by decide +kernel
theorem dX0_passDay_1 : decode cX0_passDay 1 = .ok (.getfield 18, 3) := by decide +kernel
theorem dX0_passDay_4 : decode cX0_passDay 4 = .ok (.aload_n 0, 1) := by decide +kernel
theorem dX0_passDay_5 : decode cX0_passDay 5 = .ok (.invokevirtual 132, 3) := by decide +kernel
theorem dX0_passDay_8 : decode cX0_passDay 8 = .ok (.iaload, 1) := by decide +kernel
theorem dX0_passDay_9 : decode cX0_passDay 9 = .ok (.istore_n 2, 1) := by decide +kernel
theorem dX0_passDay_10 : decode cX0_passDay 10 = .ok (.aload_n 0, 1) := by decide +kernel
theorem dX0_passDay_11 : decode cX0_passDay 11 = .ok (.iload_n 2, 1) := by decide +kernel
theorem dX0_passDay_12 : decode cX0_passDay 12 = .ok (.iload_n 1, 1) := by decide +kernel
theorem dX0_passDay_13 : decode cX0_passDay 13 = .ok (.invokevirtual 135, 3) := by decide +kernel
theorem dX0_passDay_16 : decode cX0_passDay 16 = .ok (.istore_n 3, 1) := by decide +kernel
theorem dX0_passDay_17 : decode cX0_passDay 17 = .ok (.iconst 0, 1) := by decide +kernel
theorem dX0_passDay_18 : decode cX0_passDay 18 = .ok (.istore 4, 2) := by decide +kernel
theorem dX0_passDay_20 : decode cX0_passDay 20 = .ok (.iload 4, 2) := by decide +kernel
theorem dX0_passDay_22 : decode cX0_passDay 22 = .ok (.aload_n 0, 1) := by decide +kernel
theorem dX0_passDay_23 : decode cX0_passDay 23 = .ok (.getfield 29, 3) := by decide +kernel
theorem dX0_passDay_26 : decode cX0_passDay 26 = .ok (.if_icmp .ge 51, 3) := by decide +kernel
theorem dX0_passDay_29 : decode cX0_passDay 29 = .ok (.iload 4, 2) := by decide +kernel
theorem dX0_passDay_31 : decode cX0_passDay 31 = .ok (.iload_n 3, 1) := by decide +kernel
theorem dX0_passDay_32 : decode cX0_passDay 32 = .ok (.invokestatic 60, 3) := by decide +kernel
theorem dX0_passDay_35 : decode cX0_passDay 35 = .ok (.ifCond .eq 17, 3) := by decide +kernel
theorem dX0_passDay_38 : decode cX0_passDay 38 = .ok (.aload_n 0, 1) := by decide +kernel
theorem dX0_passDay_39 : decode cX0_passDay 39 = .ok (.getfield 11, 3) := by decide +kernel
theorem dX0_passDay_42 : decode cX0_passDay 42 = .ok (.iload 4, 2) := by decide +kernel
theorem dX0_passDay_44 : decode cX0_passDay 44 = .ok (.aaload, 1) := by decide +kernel
theorem dX0_passDay_45 : decode cX0_passDay 45 = .ok (.iload_n 2, 1) := by decide +kernel
theorem dX0_passDay_46 : decode cX0_passDay 46 = .ok (.invokestatic 92, 3) := by decide +kernel
theorem dX0_passDay_49 : decode cX0_passDay 49 = .ok (.invokevirtual 138, 3) := by decide +kernel
theorem dX0_passDay_52 : decode cX0_passDay 52 = .ok (.iload 4, 2) := by decide +kernel
theorem dX0_passDay_54 : decode cX0_passDay 54 = .ok (.iload_n 1, 1) := by decide +kernel
theorem dX0_passDay_55 : decode cX0_passDay 55 = .ok (.invokestatic 60, 3) := by decide +kernel
theorem dX0_passDay_58 : decode cX0_passDay 58 = .ok (.ifCond .ne 13, 3) := by decide +kernel
theorem dX0_passDay_61 : decode cX0_passDay 61 = .ok (.aload_n 0, 1) := by decide +kernel
theorem dX0_passDay_62 : decode cX0_passDay 62 = .ok (.getfield 11, 3) := by decide +kernel
theorem dX0_passDay_65 : decode cX0_passDay 65 = .ok (.iload 4, 2) := by decide +kernel
theorem dX0_passDay_67 : decode cX0_passDay 67 = .ok (.aaload, 1) := by decide +kernel
theorem dX0_passDay_68 : decode cX0_passDay 68 = .ok (.invokevirtual 141, 3) := by decide +kernel
theorem dX0_passDay_71 : decode cX0_passDay 71 = .ok (.iinc 4 1, 3) := by decide +kernel
theorem dX0_passDay_74 : decode cX0_passDay 74 = .ok (.goto (-54), 3) := by decide +kernel
theorem dX0_passDay_77 : decode cX0_passDay 77 = .ok (.aload_n 0, 1) := by decide +kernel
theorem dX0_passDay_78 : decode cX0_passDay 78 = .ok (.ldc 144, 2) := by decide +kernel
theorem dX0_passDay_80 : decode cX0_passDay 80 = .ok (.aload_n 0, 1) := by decide +kernel
theorem dX0_passDay_81 : decode cX0_passDay 81 = .ok (.getfield 33, 3) := by decide +kernel
theorem dX0_passDay_84 : decode cX0_passDay 84 = .ok (.iconst 1, 1) := by decide +kernel
theorem dX0_passDay_85 : decode cX0_passDay 85 = .ok (.iadd, 1) := by decide +kernel
theorem dX0_passDay_86 : decode cX0_passDay 86 = .ok (.invokestatic 145, 3) := by decide +kernel
theorem dX0_passDay_89 : decode cX0_passDay 89 = .ok (.putfield 33, 3) := by decide +kernel
theorem dX0_passDay_92 : decode cX0_passDay 92 = .ok (.return_, 1) := by decide +kernel
theorem dX0_drawSaying_0 : decode cX0_drawSaying 0 = .ok (.aload_n 0, 1) := by decide +kernel
theorem dX0_drawSaying_1 : decode cX0_drawSaying 1 = .ok (.invokevirtual 148, 3) := by decide +kernel
theorem dX0_drawSaying_4 : decode cX0_drawSaying 4 = .ok (.bipush 6, 2) := by decide +kernel
theorem dX0_drawSaying_6 : decode cX0_drawSaying 6 = .ok (.irem, 1) := by decide +kernel
theorem dX0_drawSaying_7 : decode cX0_drawSaying 7 = .ok (.istore_n 1, 1) := by decide +kernel
theorem dX0_drawSaying_8 : decode cX0_drawSaying 8 = .ok (.aload_n 0, 1) := by decide +kernel
theorem dX0_drawSaying_9 : decode cX0_drawSaying 9 = .ok (.invokevirtual 148, 3) := by decide +kernel
theorem dX0_drawSaying_12 : decode cX0_drawSaying 12 = .ok (.bipush 16, 2) := by decide +kernel
theorem dX0_drawSaying_14 : decode cX0_drawSaying 14 = .ok (.irem, 1) := by decide +kernel
theorem dX0_drawSaying_15 : decode cX0_drawSaying 15 = .ok (.istore_n 2, 1) := by decide +kernel
theorem dX0_drawSaying_16 : decode cX0_drawSaying 16 = .ok (.aload_n 0, 1) := by decide +kernel
theorem dX0_drawSaying_17 : decode cX0_drawSaying 17 = .ok (.invokevirtual 148, 3) := by decide +kernel
theorem dX0_drawSaying_20 : decode cX0_drawSaying 20 = .ok (.bipush 10, 2) := by decide +kernel
theorem dX0_drawSaying_22 : decode cX0_drawSaying 22 = .ok (.irem, 1) := by decide +kernel
theorem dX0_drawSaying_23 : decode cX0_drawSaying 23 = .ok (.istore_n 3, 1) := by decide +kernel
theorem dX0_drawSaying_24 : decode cX0_drawSaying 24 = .ok (.aload_n 0, 1) := by decide +kernel
theorem dX0_drawSaying_25 : decode cX0_drawSaying 25 = .ok (.getfield 18, 3) := by decide +kernel
theorem dX0_drawSaying_28 : decode cX0_drawSaying 28 = .ok (.aload_n 0, 1) := by decide +kernel
theorem dX0_drawSaying_29 : decode cX0_drawSaying 29 = .ok (.invokevirtual 132, 3) := by decide +kernel
theorem dX0_drawSaying_32 : decode cX0_drawSaying 32 = .ok (.iload_n 1, 1) := by decide +kernel
theorem dX0_drawSaying_33 : decode cX0_drawSaying 33 = .ok (.iload_n 2, 1) := by decide +kernel
theorem dX0_drawSaying_34 : decode cX0_drawSaying 34 = .ok (.iload_n 3, 1) := by decide +kernel
theorem dX0_drawSaying_35 : decode cX0_drawSaying 35 = .ok (.invokestatic 22, 3) := by decide +kernel
theorem dX0_drawSaying_38 : decode cX0_drawSaying 38 = .ok (.iastore, 1) := by decide +kernel
theorem dX0_drawSaying_39 : decode cX0_drawSaying 39 = .ok (.return_, 1) := by decide +kernel
theorem dX0_nextDraw_0 : decode cX0_nextDraw 0 = .ok (.aload_n 0, 1) := by decide +kernel
theorem dX0_nextDraw_1 : decode cX0_nextDraw 1 = .ok (.aload_n 0, 1) := by decide +kernel
theorem dX0_nextDraw_2 : decode cX0_nextDraw 2 = .ok (.getfield 36, 3) := by decide +kernel
theorem dX0_nextDraw_5 : decode cX0_nextDraw 5 = .ok (.ldc 151, 2) := by decide +kernel
theorem dX0_nextDraw_7 : decode cX0_nextDraw 7 = .ok (.imul, 1) := by decide +kernel
theorem dX0_nextDraw_8 : decode cX0_nextDraw 8 = .ok (.sipush 12345, 3) := by decide +kernel
theorem dX0_nextDraw_11 : decode cX0_nextDraw 11 = .ok (.iadd, 1) := by decide +kernel
theorem dX0_nextDraw_12 : decode cX0_nextDraw 12 = .ok (.putfield 36, 3) := by decide +kernel
theorem dX0_nextDraw_15 : decode cX0_nextDraw 15 = .ok (.aload_n 0, 1) := by decide +kernel
theorem dX0_nextDraw_16 : decode cX0_nextDraw 16 = .ok (.getfield 36, 3) := by decide +kernel
theorem dX0_nextDraw_19 : decode cX0_nextDraw 19 = .ok (.bipush 8, 2) := by decide +kernel
theorem dX0_nextDraw_21 : decode cX0_nextDraw 21 = .ok (.iushr, 1) := by decide +kernel
theorem dX0_nextDraw_22 : decode cX0_nextDraw 22 = .ok (.ireturn, 1) := by decide +kernel
theorem dX1_init_0 : decode cX1_init 0 = .ok (.aload_n 0, 1) := by decide +kernel
theorem dX1_init_1 : decode cX1_init 1 = .ok (.invokespecial 3, 3) := by decide +kernel
theorem dX1_init_4 : decode cX1_init 4 = .ok (.return_, 1) := by decide +kernel
theorem dX1_mostOf_0 : decode cX1_mostOf 0 = .ok (.iload_n 0, 1) := by decide +kernel
theorem dX1_mostOf_1 : decode cX1_mostOf 1 = .ok (.bipush 6, 2) := by decide +kernel
theorem dX1_mostOf_3 : decode cX1_mostOf 3 = .ok (.invokestatic 11, 3) := by decide +kernel
theorem dX1_mostOf_6 : decode cX1_mostOf 6 = .ok (.ifCond .eq 11, 3) := by decide +kernel
theorem dX1_mostOf_9 : decode cX1_mostOf 9 = .ok (.getstatic 15, 3) := by decide +kernel
theorem dX1_mostOf_12 : decode cX1_mostOf 12 = .ok (.iload_n 0, 1) := by decide +kernel
theorem dX1_mostOf_13 : decode cX1_mostOf 13 = .ok (.iaload, 1) := by decide +kernel
theorem dX1_mostOf_14 : decode cX1_mostOf 14 = .ok (.goto 4, 3) := by decide +kernel
theorem dX1_mostOf_17 : decode cX1_mostOf 17 = .ok (.iconst (-1), 1) := by decide +kernel
theorem dX1_mostOf_18 : decode cX1_mostOf 18 = .ok (.ireturn, 1) := by decide +kernel
theorem dX1_beNew_0 : decode cX1_beNew 0 = .ok (.aload_n 0, 1) := by decide +kernel
theorem dX1_beNew_1 : decode cX1_beNew 1 = .ok (.iload_n 1, 1) := by decide +kernel
theorem dX1_beNew_2 : decode cX1_beNew 2 = .ok (.putfield 19, 3) := by decide +kernel
theorem dX1_beNew_5 : decode cX1_beNew 5 = .ok (.aload_n 0, 1) := by decide +kernel
theorem dX1_beNew_6 : decode cX1_beNew 6 = .ok (.iload_n 2, 1) := by decide +kernel
theorem dX1_beNew_7 : decode cX1_beNew 7 = .ok (.putfield 23, 3) := by decide +kernel
theorem dX1_beNew_10 : decode cX1_beNew 10 = .ok (.aload_n 0, 1) := by decide +kernel
theorem dX1_beNew_11 : decode cX1_beNew 11 = .ok (.iconst 5, 1) := by decide +kernel
theorem dX1_beNew_12 : decode cX1_beNew 12 = .ok (.putfield 26, 3) := by decide +kernel
theorem dX1_beNew_15 : decode cX1_beNew 15 = .ok (.aload_n 0, 1) := by decide +kernel
theorem dX1_beNew_16 : decode cX1_beNew 16 = .ok (.iconst 0, 1) := by decide +kernel
theorem dX1_beNew_17 : decode cX1_beNew 17 = .ok (.putfield 29, 3) := by decide +kernel
theorem dX1_beNew_20 : decode cX1_beNew 20 = .ok (.aload_n 0, 1) := by decide +kernel
theorem dX1_beNew_21 : decode cX1_beNew 21 = .ok (.iconst 0, 1) := by decide +kernel
theorem dX1_beNew_22 : decode cX1_beNew 22 = .ok (.putfield 32, 3) := by decide +kernel
theorem dX1_beNew_25 : decode cX1_beNew 25 = .ok (.aload_n 0, 1) := by decide +kernel
theorem dX1_beNew_26 : decode cX1_beNew 26 = .ok (.iconst 0, 1) := by decide +kernel
theorem dX1_beNew_27 : decode cX1_beNew 27 = .ok (.putfield 35, 3) := by decide +kernel
theorem dX1_beNew_30 : decode cX1_beNew 30 = .ok (.aload_n 0, 1) := by decide +kernel
theorem dX1_beNew_31 : decode cX1_beNew 31 = .ok (.iconst 0, 1) := by decide +kernel
theorem dX1_beNew_32 : decode cX1_beNew 32 = .ok (.putfield 38, 3) := by decide +kernel
theorem dX1_beNew_35 : decode cX1_beNew 35 = .ok (.return_, 1) := by decide +kernel
theorem dX1_become_0 : decode cX1_become 0 = .ok (.aload_n 0, 1) := by decide +kernel
theorem dX1_become_1 : decode cX1_become 1 = .ok (.aload_n 1, 1) := by decide +kernel
theorem dX1_become_2 : decode cX1_become 2 = .ok (.getfield 19, 3) := by decide +kernel
theorem dX1_become_5 : decode cX1_become 5 = .ok (.putfield 19, 3) := by decide +kernel
theorem dX1_become_8 : decode cX1_become 8 = .ok (.aload_n 0, 1) := by decide +kernel
theorem dX1_become_9 : decode cX1_become 9 = .ok (.aload_n 1, 1) := by decide +kernel
theorem dX1_become_10 : decode cX1_become 10 = .ok (.getfield 23, 3) := by decide +kernel
theorem dX1_become_13 : decode cX1_become 13 = .ok (.putfield 23, 3) := by decide +kernel
theorem dX1_become_16 : decode cX1_become 16 = .ok (.aload_n 0, 1) := by decide +kernel
theorem dX1_become_17 : decode cX1_become 17 = .ok (.aload_n 1, 1) := by decide +kernel
theorem dX1_become_18 : decode cX1_become 18 = .ok (.getfield 26, 3) := by decide +kernel
theorem dX1_become_21 : decode cX1_become 21 = .ok (.putfield 26, 3) := by decide +kernel
theorem dX1_become_24 : decode cX1_become 24 = .ok (.aload_n 0, 1) := by decide +kernel
theorem dX1_become_25 : decode cX1_become 25 = .ok (.aload_n 1, 1) := by decide +kernel
theorem dX1_become_26 : decode cX1_become 26 = .ok (.getfield 29, 3) := by decide +kernel
theorem dX1_become_29 : decode cX1_become 29 = .ok (.putfield 29, 3) := by decide +kernel
theorem dX1_become_32 : decode cX1_become 32 = .ok (.aload_n 0, 1) := by decide +kernel
theorem dX1_become_33 : decode cX1_become 33 = .ok (.aload_n 1, 1) := by decide +kernel
theorem dX1_become_34 : decode cX1_become 34 = .ok (.getfield 32, 3) := by decide +kernel
theorem dX1_become_37 : decode cX1_become 37 = .ok (.putfield 32, 3) := by decide +kernel
theorem dX1_become_40 : decode cX1_become 40 = .ok (.aload_n 0, 1) := by decide +kernel
theorem dX1_become_41 : decode cX1_become 41 = .ok (.aload_n 1, 1) := by decide +kernel
theorem dX1_become_42 : decode cX1_become 42 = .ok (.getfield 35, 3) := by decide +kernel
theorem dX1_become_45 : decode cX1_become 45 = .ok (.putfield 35, 3) := by decide +kernel
theorem dX1_become_48 : decode cX1_become 48 = .ok (.aload_n 0, 1) := by decide +kernel
theorem dX1_become_49 : decode cX1_become 49 = .ok (.aload_n 1, 1) := by decide +kernel
theorem dX1_become_50 : decode cX1_become 50 = .ok (.getfield 38, 3) := by decide +kernel
theorem dX1_become_53 : decode cX1_become 53 = .ok (.putfield 38, 3) := by decide +kernel
theorem dX1_become_56 : decode cX1_become 56 = .ok (.return_, 1) := by decide +kernel
theorem dX1_trait_0 : decode cX1_trait 0 = .ok (.iload_n 1, 1) := by decide +kernel
theorem dX1_trait_1 : decode cX1_trait 1 = .ok (.tableswitch 100 0 9 #[55, 60, 65, 70, 75, 80, 85, 100, 90, 95], 55) := by decide +kernel
theorem dX1_trait_56 : decode cX1_trait 56 = .ok (.aload_n 0, 1) := by decide +kernel
theorem dX1_trait_57 : decode cX1_trait 57 = .ok (.getfield 19, 3) := by decide +kernel
theorem dX1_trait_60 : decode cX1_trait 60 = .ok (.ireturn, 1) := by decide +kernel
theorem dX1_trait_61 : decode cX1_trait 61 = .ok (.aload_n 0, 1) := by decide +kernel
theorem dX1_trait_62 : decode cX1_trait 62 = .ok (.getfield 23, 3) := by decide +kernel
theorem dX1_trait_65 : decode cX1_trait 65 = .ok (.ireturn, 1) := by decide +kernel
theorem dX1_trait_66 : decode cX1_trait 66 = .ok (.aload_n 0, 1) := by decide +kernel
theorem dX1_trait_67 : decode cX1_trait 67 = .ok (.getfield 26, 3) := by decide +kernel
theorem dX1_trait_70 : decode cX1_trait 70 = .ok (.ireturn, 1) := by decide +kernel
theorem dX1_trait_71 : decode cX1_trait 71 = .ok (.aload_n 0, 1) := by decide +kernel
theorem dX1_trait_72 : decode cX1_trait 72 = .ok (.getfield 29, 3) := by decide +kernel
theorem dX1_trait_75 : decode cX1_trait 75 = .ok (.ireturn, 1) := by decide +kernel
theorem dX1_trait_76 : decode cX1_trait 76 = .ok (.aload_n 0, 1) := by decide +kernel
theorem dX1_trait_77 : decode cX1_trait 77 = .ok (.getfield 32, 3) := by decide +kernel
theorem dX1_trait_80 : decode cX1_trait 80 = .ok (.ireturn, 1) := by decide +kernel
theorem dX1_trait_81 : decode cX1_trait 81 = .ok (.aload_n 0, 1) := by decide +kernel
theorem dX1_trait_82 : decode cX1_trait 82 = .ok (.getfield 35, 3) := by decide +kernel
theorem dX1_trait_85 : decode cX1_trait 85 = .ok (.ireturn, 1) := by decide +kernel
theorem dX1_trait_86 : decode cX1_trait 86 = .ok (.aload_n 0, 1) := by decide +kernel
theorem dX1_trait_87 : decode cX1_trait 87 = .ok (.getfield 38, 3) := by decide +kernel
theorem dX1_trait_90 : decode cX1_trait 90 = .ok (.ireturn, 1) := by decide +kernel
theorem dX1_trait_91 : decode cX1_trait 91 = .ok (.aload_n 0, 1) := by decide +kernel
theorem dX1_trait_92 : decode cX1_trait 92 = .ok (.invokevirtual 41, 3) := by decide +kernel
theorem dX1_trait_95 : decode cX1_trait 95 = .ok (.ireturn, 1) := by decide +kernel
theorem dX1_trait_96 : decode cX1_trait 96 = .ok (.aload_n 0, 1) := by decide +kernel
theorem dX1_trait_97 : decode cX1_trait 97 = .ok (.invokevirtual 45, 3) := by decide +kernel
theorem dX1_trait_100 : decode cX1_trait 100 = .ok (.ireturn, 1) := by decide +kernel
theorem dX1_trait_101 : decode cX1_trait 101 = .ok (.aload_n 0, 1) := by decide +kernel
theorem dX1_trait_102 : decode cX1_trait 102 = .ok (.invokevirtual 48, 3) := by decide +kernel
theorem dX1_trait_105 : decode cX1_trait 105 = .ok (.ireturn, 1) := by decide +kernel
theorem dX1_setTrait_0 : decode cX1_setTrait 0 = .ok (.iload_n 1, 1) := by decide +kernel
theorem dX1_setTrait_1 : decode cX1_setTrait 1 = .ok (.tableswitch 87 0 5 #[39, 47, 55, 63, 71, 79], 39) := by decide +kernel
theorem dX1_setTrait_40 : decode cX1_setTrait 40 = .ok (.aload_n 0, 1) := by decide +kernel
theorem dX1_setTrait_41 : decode cX1_setTrait 41 = .ok (.iload_n 2, 1) := by decide +kernel
theorem dX1_setTrait_42 : decode cX1_setTrait 42 = .ok (.putfield 19, 3) := by decide +kernel
theorem dX1_setTrait_45 : decode cX1_setTrait 45 = .ok (.goto 48, 3) := by decide +kernel
theorem dX1_setTrait_48 : decode cX1_setTrait 48 = .ok (.aload_n 0, 1) := by decide +kernel
theorem dX1_setTrait_49 : decode cX1_setTrait 49 = .ok (.iload_n 2, 1) := by decide +kernel
theorem dX1_setTrait_50 : decode cX1_setTrait 50 = .ok (.putfield 23, 3) := by decide +kernel
theorem dX1_setTrait_53 : decode cX1_setTrait 53 = .ok (.goto 40, 3) := by decide +kernel
theorem dX1_setTrait_56 : decode cX1_setTrait 56 = .ok (.aload_n 0, 1) := by decide +kernel
theorem dX1_setTrait_57 : decode cX1_setTrait 57 = .ok (.iload_n 2, 1) := by decide +kernel
theorem dX1_setTrait_58 : decode cX1_setTrait 58 = .ok (.putfield 26, 3) := by decide +kernel
theorem dX1_setTrait_61 : decode cX1_setTrait 61 = .ok (.goto 32, 3) := by decide +kernel
theorem dX1_setTrait_64 : decode cX1_setTrait 64 = .ok (.aload_n 0, 1) := by decide +kernel
theorem dX1_setTrait_65 : decode cX1_setTrait 65 = .ok (.iload_n 2, 1) := by decide +kernel
theorem dX1_setTrait_66 : decode cX1_setTrait 66 = .ok (.putfield 29, 3) := by decide +kernel
theorem dX1_setTrait_69 : decode cX1_setTrait 69 = .ok (.goto 24, 3) := by decide +kernel
theorem dX1_setTrait_72 : decode cX1_setTrait 72 = .ok (.aload_n 0, 1) := by decide +kernel
theorem dX1_setTrait_73 : decode cX1_setTrait 73 = .ok (.iload_n 2, 1) := by decide +kernel
theorem dX1_setTrait_74 : decode cX1_setTrait 74 = .ok (.putfield 32, 3) := by decide +kernel
theorem dX1_setTrait_77 : decode cX1_setTrait 77 = .ok (.goto 16, 3) := by decide +kernel
theorem dX1_setTrait_80 : decode cX1_setTrait 80 = .ok (.aload_n 0, 1) := by decide +kernel
theorem dX1_setTrait_81 : decode cX1_setTrait 81 = .ok (.iload_n 2, 1) := by decide +kernel
theorem dX1_setTrait_82 : decode cX1_setTrait 82 = .ok (.putfield 35, 3) := by decide +kernel
theorem dX1_setTrait_85 : decode cX1_setTrait 85 = .ok (.goto 8, 3) := by decide +kernel
theorem dX1_setTrait_88 : decode cX1_setTrait 88 = .ok (.aload_n 0, 1) := by decide +kernel
theorem dX1_setTrait_89 : decode cX1_setTrait 89 = .ok (.iload_n 2, 1) := by decide +kernel
theorem dX1_setTrait_90 : decode cX1_setTrait 90 = .ok (.putfield 38, 3) := by decide +kernel
theorem dX1_setTrait_93 : decode cX1_setTrait 93 = .ok (.return_, 1) := by decide +kernel
theorem dX1_needs_0 : decode cX1_needs 0 = .ok (.bipush 10, 2) := by decide +kernel
theorem dX1_needs_2 : decode cX1_needs 2 = .ok (.aload_n 0, 1) := by decide +kernel
theorem dX1_needs_3 : decode cX1_needs 3 = .ok (.getfield 26, 3) := by decide +kernel
theorem dX1_needs_6 : decode cX1_needs 6 = .ok (.isub, 1) := by decide +kernel
theorem dX1_needs_7 : decode cX1_needs 7 = .ok (.istore_n 2, 1) := by decide +kernel
theorem dX1_needs_8 : decode cX1_needs 8 = .ok (.iconst 0, 1) := by decide +kernel
theorem dX1_needs_9 : decode cX1_needs 9 = .ok (.iload_n 2, 1) := by decide +kernel
theorem dX1_needs_10 : decode cX1_needs 10 = .ok (.iconst 2, 1) := by decide +kernel
theorem dX1_needs_11 : decode cX1_needs 11 = .ok (.isub, 1) := by decide +kernel
theorem dX1_needs_12 : decode cX1_needs 12 = .ok (.invokestatic 51, 3) := by decide +kernel
theorem dX1_needs_15 : decode cX1_needs 15 = .ok (.istore_n 3, 1) := by decide +kernel
theorem dX1_needs_16 : decode cX1_needs 16 = .ok (.iload_n 2, 1) := by decide +kernel
theorem dX1_needs_17 : decode cX1_needs 17 = .ok (.iconst 3, 1) := by decide +kernel
theorem dX1_needs_18 : decode cX1_needs 18 = .ok (.iadd, 1) := by decide +kernel
theorem dX1_needs_19 : decode cX1_needs 19 = .ok (.istore 4, 2) := by decide +kernel
theorem dX1_needs_21 : decode cX1_needs 21 = .ok (.aload_n 0, 1) := by decide +kernel
theorem dX1_needs_22 : decode cX1_needs 22 = .ok (.getfield 19, 3) := by decide +kernel
theorem dX1_needs_25 : decode cX1_needs 25 = .ok (.tableswitch 68 1 6 #[39, 51, 54, 63, 66, 41], 39) := by decide +kernel
theorem dX1_needs_64 : decode cX1_needs 64 = .ok (.iload_n 3, 1) := by decide +kernel
theorem dX1_needs_65 : decode cX1_needs 65 = .ok (.ireturn, 1) := by decide +kernel
theorem dX1_needs_66 : decode cX1_needs 66 = .ok (.iload_n 1, 1) := by decide +kernel
theorem dX1_needs_67 : decode cX1_needs 67 = .ok (.ifCond .eq 7, 3) := by decide +kernel
theorem dX1_needs_70 : decode cX1_needs 70 = .ok (.iconst 1, 1) := by decide +kernel
theorem dX1_needs_71 : decode cX1_needs 71 = .ok (.goto 4, 3) := by decide +kernel
theorem dX1_needs_74 : decode cX1_needs 74 = .ok (.iload_n 3, 1) := by decide +kernel
theorem dX1_needs_75 : decode cX1_needs 75 = .ok (.ireturn, 1) := by decide +kernel
theorem dX1_needs_76 : decode cX1_needs 76 = .ok (.iload 4, 2) := by decide +kernel
theorem dX1_needs_78 : decode cX1_needs 78 = .ok (.ireturn, 1) := by decide +kernel
theorem dX1_needs_79 : decode cX1_needs 79 = .ok (.iconst 0, 1) := by decide +kernel
theorem dX1_needs_80 : decode cX1_needs 80 = .ok (.iload 4, 2) := by decide +kernel
theorem dX1_needs_82 : decode cX1_needs 82 = .ok (.iconst 4, 1) := by decide +kernel
theorem dX1_needs_83 : decode cX1_needs 83 = .ok (.isub, 1) := by decide +kernel
theorem dX1_needs_84 : decode cX1_needs 84 = .ok (.invokestatic 51, 3) := by decide +kernel
theorem dX1_needs_87 : decode cX1_needs 87 = .ok (.ireturn, 1) := by decide +kernel
theorem dX1_needs_88 : decode cX1_needs 88 = .ok (.bipush 99, 2) := by decide +kernel
theorem dX1_needs_90 : decode cX1_needs 90 = .ok (.ireturn, 1) := by decide +kernel
theorem dX1_needs_91 : decode cX1_needs 91 = .ok (.iconst 0, 1) := by decide +kernel
theorem dX1_needs_92 : decode cX1_needs 92 = .ok (.ireturn, 1) := by decide +kernel
theorem dX1_needs_93 : decode cX1_needs 93 = .ok (.iload_n 2, 1) := by decide +kernel
theorem dX1_needs_94 : decode cX1_needs 94 = .ok (.ireturn, 1) := by decide +kernel
theorem dX1_hushes_0 : decode cX1_hushes 0 = .ok (.aload_n 0, 1) := by decide +kernel
theorem dX1_hushes_1 : decode cX1_hushes 1 = .ok (.getfield 19, 3) := by decide +kernel
theorem dX1_hushes_4 : decode cX1_hushes 4 = .ok (.tableswitch 59 1 6 #[40, 59, 40, 59, 44, 42], 40) := by decide +kernel
theorem dX1_hushes_44 : decode cX1_hushes 44 = .ok (.iconst 1, 1) := by decide +kernel
theorem dX1_hushes_45 : decode cX1_hushes 45 = .ok (.ireturn, 1) := by decide +kernel
theorem dX1_hushes_46 : decode cX1_hushes 46 = .ok (.iconst 2, 1) := by decide +kernel
theorem dX1_hushes_47 : decode cX1_hushes 47 = .ok (.ireturn, 1) := by decide +kernel
theorem dX1_hushes_48 : decode cX1_hushes 48 = .ok (.aload_n 0, 1) := by decide +kernel
theorem dX1_hushes_49 : decode cX1_hushes 49 = .ok (.getfield 32, 3) := by decide +kernel
theorem dX1_hushes_52 : decode cX1_hushes 52 = .ok (.bipush 100, 2) := by decide +kernel
theorem dX1_hushes_54 : decode cX1_hushes 54 = .ok (.if_icmp .lt 7, 3) := by decide +kernel
theorem dX1_hushes_57 : decode cX1_hushes 57 = .ok (.iconst 1, 1) := by decide +kernel
theorem dX1_hushes_58 : decode cX1_hushes 58 = .ok (.goto 4, 3) := by decide +kernel
theorem dX1_hushes_61 : decode cX1_hushes 61 = .ok (.iconst 0, 1) := by decide +kernel
theorem dX1_hushes_62 : decode cX1_hushes 62 = .ok (.ireturn, 1) := by decide +kernel
theorem dX1_hushes_63 : decode cX1_hushes 63 = .ok (.iconst 0, 1) := by decide +kernel
theorem dX1_hushes_64 : decode cX1_hushes 64 = .ok (.ireturn, 1) := by decide +kernel
theorem dX1_stays_0 : decode cX1_stays 0 = .ok (.aload_n 0, 1) := by decide +kernel
theorem dX1_stays_1 : decode cX1_stays 1 = .ok (.getfield 19, 3) := by decide +kernel
theorem dX1_stays_4 : decode cX1_stays 4 = .ok (.bipush 6, 2) := by decide +kernel
theorem dX1_stays_6 : decode cX1_stays 6 = .ok (.invokestatic 11, 3) := by decide +kernel
theorem dX1_stays_9 : decode cX1_stays 9 = .ok (.ifCond .eq 14, 3) := by decide +kernel
theorem dX1_stays_12 : decode cX1_stays 12 = .ok (.getstatic 57, 3) := by decide +kernel
theorem dX1_stays_15 : decode cX1_stays 15 = .ok (.aload_n 0, 1) := by decide +kernel
theorem dX1_stays_16 : decode cX1_stays 16 = .ok (.getfield 19, 3) := by decide +kernel
theorem dX1_stays_19 : decode cX1_stays 19 = .ok (.iaload, 1) := by decide +kernel
theorem dX1_stays_20 : decode cX1_stays 20 = .ok (.goto 4, 3) := by decide +kernel
theorem dX1_stays_23 : decode cX1_stays 23 = .ok (.iconst 0, 1) := by decide +kernel
theorem dX1_stays_24 : decode cX1_stays 24 = .ok (.ireturn, 1) := by decide +kernel
theorem dX1_keeps_0 : decode cX1_keeps 0 = .ok (.aload_n 0, 1) := by decide +kernel
theorem dX1_keeps_1 : decode cX1_keeps 1 = .ok (.getfield 19, 3) := by decide +kernel
theorem dX1_keeps_4 : decode cX1_keeps 4 = .ok (.bipush 6, 2) := by decide +kernel
theorem dX1_keeps_6 : decode cX1_keeps 6 = .ok (.invokestatic 11, 3) := by decide +kernel
theorem dX1_keeps_9 : decode cX1_keeps 9 = .ok (.ifCond .eq 14, 3) := by decide +kernel
theorem dX1_keeps_12 : decode cX1_keeps 12 = .ok (.getstatic 60, 3) := by decide +kernel
theorem dX1_keeps_15 : decode cX1_keeps 15 = .ok (.aload_n 0, 1) := by decide +kernel
theorem dX1_keeps_16 : decode cX1_keeps 16 = .ok (.getfield 19, 3) := by decide +kernel
theorem dX1_keeps_19 : decode cX1_keeps 19 = .ok (.iaload, 1) := by decide +kernel
theorem dX1_keeps_20 : decode cX1_keeps 20 = .ok (.goto 4, 3) := by decide +kernel
theorem dX1_keeps_23 : decode cX1_keeps 23 = .ok (.iconst 0, 1) := by decide +kernel
theorem dX1_keeps_24 : decode cX1_keeps 24 = .ok (.ireturn, 1) := by decide +kernel
theorem dX1_isA_0 : decode cX1_isA 0 = .ok (.aload_n 0, 1) := by decide +kernel
theorem dX1_isA_1 : decode cX1_isA 1 = .ok (.getfield 19, 3) := by decide +kernel
theorem dX1_isA_4 : decode cX1_isA 4 = .ok (.istore_n 2, 1) := by decide +kernel
theorem dX1_isA_5 : decode cX1_isA 5 = .ok (.iconst 0, 1) := by decide +kernel
theorem dX1_isA_6 : decode cX1_isA 6 = .ok (.istore_n 3, 1) := by decide +kernel
theorem dX1_isA_7 : decode cX1_isA 7 = .ok (.iload_n 3, 1) := by decide +kernel
theorem dX1_isA_8 : decode cX1_isA 8 = .ok (.bipush 7, 2) := by decide +kernel
theorem dX1_isA_10 : decode cX1_isA 10 = .ok (.if_icmp .ge 31, 3) := by decide +kernel
theorem dX1_isA_13 : decode cX1_isA 13 = .ok (.iload_n 2, 1) := by decide +kernel
theorem dX1_isA_14 : decode cX1_isA 14 = .ok (.bipush 6, 2) := by decide +kernel
theorem dX1_isA_16 : decode cX1_isA 16 = .ok (.invokestatic 11, 3) := by decide +kernel
theorem dX1_isA_19 : decode cX1_isA 19 = .ok (.ifCond .eq 22, 3) := by decide +kernel
theorem dX1_isA_22 : decode cX1_isA 22 = .ok (.iload_n 2, 1) := by decide +kernel
theorem dX1_isA_23 : decode cX1_isA 23 = .ok (.iload_n 1, 1) := by decide +kernel
theorem dX1_isA_24 : decode cX1_isA 24 = .ok (.if_icmp .ne 5, 3) := by decide +kernel
theorem dX1_isA_27 : decode cX1_isA 27 = .ok (.iconst 1, 1) := by decide +kernel
theorem dX1_isA_28 : decode cX1_isA 28 = .ok (.ireturn, 1) := by decide +kernel
theorem dX1_isA_29 : decode cX1_isA 29 = .ok (.getstatic 63, 3) := by decide +kernel
theorem dX1_isA_32 : decode cX1_isA 32 = .ok (.iload_n 2, 1) := by decide +kernel
theorem dX1_isA_33 : decode cX1_isA 33 = .ok (.iaload, 1) := by decide +kernel
theorem dX1_isA_34 : decode cX1_isA 34 = .ok (.istore_n 2, 1) := by decide +kernel
theorem dX1_isA_35 : decode cX1_isA 35 = .ok (.iinc 3 1, 3) := by decide +kernel
theorem dX1_isA_38 : decode cX1_isA 38 = .ok (.goto (-31), 3) := by decide +kernel
theorem dX1_isA_41 : decode cX1_isA 41 = .ok (.iconst 0, 1) := by decide +kernel
theorem dX1_isA_42 : decode cX1_isA 42 = .ok (.ireturn, 1) := by decide +kernel
theorem dX1_takeIn_0 : decode cX1_takeIn 0 = .ok (.iconst 1, 1) := by decide +kernel
theorem dX1_takeIn_1 : decode cX1_takeIn 1 = .ok (.iload_n 1, 1) := by decide +kernel
theorem dX1_takeIn_2 : decode cX1_takeIn 2 = .ok (.ishl, 1) := by decide +kernel
theorem dX1_takeIn_3 : decode cX1_takeIn 3 = .ok (.istore_n 2, 1) := by decide +kernel
theorem dX1_takeIn_4 : decode cX1_takeIn 4 = .ok (.aload_n 0, 1) := by decide +kernel
theorem dX1_takeIn_5 : decode cX1_takeIn 5 = .ok (.dup, 1) := by decide +kernel
theorem dX1_takeIn_6 : decode cX1_takeIn 6 = .ok (.getfield 29, 3) := by decide +kernel
theorem dX1_takeIn_9 : decode cX1_takeIn 9 = .ok (.iload_n 2, 1) := by decide +kernel
theorem dX1_takeIn_10 : decode cX1_takeIn 10 = .ok (.ior, 1) := by decide +kernel
theorem dX1_takeIn_11 : decode cX1_takeIn 11 = .ok (.putfield 29, 3) := by decide +kernel
theorem dX1_takeIn_14 : decode cX1_takeIn 14 = .ok (.aload_n 0, 1) := by decide +kernel
theorem dX1_takeIn_15 : decode cX1_takeIn 15 = .ok (.getfield 29, 3) := by decide +kernel
theorem dX1_takeIn_18 : decode cX1_takeIn 18 = .ok (.invokestatic 66, 3) := by decide +kernel
theorem dX1_takeIn_21 : decode cX1_takeIn 21 = .ok (.aload_n 0, 1) := by decide +kernel
theorem dX1_takeIn_22 : decode cX1_takeIn 22 = .ok (.invokevirtual 48, 3) := by decide +kernel
theorem dX1_takeIn_25 : decode cX1_takeIn 25 = .ok (.if_icmp .le 23, 3) := by decide +kernel
theorem dX1_takeIn_28 : decode cX1_takeIn 28 = .ok (.aload_n 0, 1) := by decide +kernel
theorem dX1_takeIn_29 : decode cX1_takeIn 29 = .ok (.getfield 29, 3) := by decide +kernel
theorem dX1_takeIn_32 : decode cX1_takeIn 32 = .ok (.iload_n 2, 1) := by decide +kernel
theorem dX1_takeIn_33 : decode cX1_takeIn 33 = .ok (.iconst (-1), 1) := by decide +kernel
theorem dX1_takeIn_34 : decode cX1_takeIn 34 = .ok (.ixor, 1) := by decide +kernel
theorem dX1_takeIn_35 : decode cX1_takeIn 35 = .ok (.iand, 1) := by decide +kernel
theorem dX1_takeIn_36 : decode cX1_takeIn 36 = .ok (.istore_n 3, 1) := by decide +kernel
theorem dX1_takeIn_37 : decode cX1_takeIn 37 = .ok (.aload_n 0, 1) := by decide +kernel
theorem dX1_takeIn_38 : decode cX1_takeIn 38 = .ok (.iload_n 2, 1) := by decide +kernel
theorem dX1_takeIn_39 : decode cX1_takeIn 39 = .ok (.iload_n 3, 1) := by decide +kernel
theorem dX1_takeIn_40 : decode cX1_takeIn 40 = .ok (.iload_n 3, 1) := by decide +kernel
theorem dX1_takeIn_41 : decode cX1_takeIn 41 = .ok (.iconst 1, 1) := by decide +kernel
theorem dX1_takeIn_42 : decode cX1_takeIn 42 = .ok (.isub, 1) := by decide +kernel
theorem dX1_takeIn_43 : decode cX1_takeIn 43 = .ok (.iand, 1) := by decide +kernel
theorem dX1_takeIn_44 : decode cX1_takeIn 44 = .ok (.ior, 1) := by decide +kernel
theorem dX1_takeIn_45 : decode cX1_takeIn 45 = .ok (.putfield 29, 3) := by decide +kernel
theorem dX1_takeIn_48 : decode cX1_takeIn 48 = .ok (.return_, 1) := by decide +kernel
theorem dX1_lieOneDay_0 : decode cX1_lieOneDay 0 = .ok (.aload_n 0, 1) := by decide +kernel
theorem dX1_lieOneDay_1 : decode cX1_lieOneDay 1 = .ok (.getstatic 15, 3) := by decide +kernel
theorem dX1_lieOneDay_4 : decode cX1_lieOneDay 4 = .ok (.iconst 4, 1) := by decide +kernel
theorem dX1_lieOneDay_5 : decode cX1_lieOneDay 5 = .ok (.iaload, 1) := by decide +kernel
theorem dX1_lieOneDay_6 : decode cX1_lieOneDay 6 = .ok (.aload_n 0, 1) := by decide +kernel
theorem dX1_lieOneDay_7 : decode cX1_lieOneDay 7 = .ok (.getfield 32, 3) := by decide +kernel
theorem dX1_lieOneDay_10 : decode cX1_lieOneDay 10 = .ok (.iconst 1, 1) := by decide +kernel
theorem dX1_lieOneDay_11 : decode cX1_lieOneDay 11 = .ok (.iadd, 1) := by decide +kernel
theorem dX1_lieOneDay_12 : decode cX1_lieOneDay 12 = .ok (.invokestatic 72, 3) := by decide +kernel
theorem dX1_lieOneDay_15 : decode cX1_lieOneDay 15 = .ok (.putfield 32, 3) := by decide +kernel
theorem dX1_lieOneDay_18 : decode cX1_lieOneDay 18 = .ok (.aload_n 0, 1) := by decide +kernel
theorem dX1_lieOneDay_19 : decode cX1_lieOneDay 19 = .ok (.invokevirtual 45, 3) := by decide +kernel
theorem dX1_lieOneDay_22 : decode cX1_lieOneDay 22 = .ok (.istore_n 1, 1) := by decide +kernel
theorem dX1_lieOneDay_23 : decode cX1_lieOneDay 23 = .ok (.iload_n 1, 1) := by decide +kernel
theorem dX1_lieOneDay_24 : decode cX1_lieOneDay 24 = .ok (.ifCond .le 15, 3) := by decide +kernel
theorem dX1_lieOneDay_27 : decode cX1_lieOneDay 27 = .ok (.aload_n 0, 1) := by decide +kernel
theorem dX1_lieOneDay_28 : decode cX1_lieOneDay 28 = .ok (.getfield 32, 3) := by decide +kernel
theorem dX1_lieOneDay_31 : decode cX1_lieOneDay 31 = .ok (.iload_n 1, 1) := by decide +kernel
theorem dX1_lieOneDay_32 : decode cX1_lieOneDay 32 = .ok (.if_icmp .lt 7, 3) := by decide +kernel
theorem dX1_lieOneDay_35 : decode cX1_lieOneDay 35 = .ok (.aload_n 0, 1) := by decide +kernel
theorem dX1_lieOneDay_36 : decode cX1_lieOneDay 36 = .ok (.invokevirtual 75, 3) := by decide +kernel
theorem dX1_lieOneDay_39 : decode cX1_lieOneDay 39 = .ok (.return_, 1) := by decide +kernel
theorem dX1_beDrawnOn_0 : decode cX1_beDrawnOn 0 = .ok (.aload_n 0, 1) := by decide +kernel
theorem dX1_beDrawnOn_1 : decode cX1_beDrawnOn 1 = .ok (.dup, 1) := by decide +kernel
theorem dX1_beDrawnOn_2 : decode cX1_beDrawnOn 2 = .ok (.getfield 35, 3) := by decide +kernel
theorem dX1_beDrawnOn_5 : decode cX1_beDrawnOn 5 = .ok (.aload_n 0, 1) := by decide +kernel
theorem dX1_beDrawnOn_6 : decode cX1_beDrawnOn 6 = .ok (.getfield 29, 3) := by decide +kernel
theorem dX1_beDrawnOn_9 : decode cX1_beDrawnOn 9 = .ok (.ior, 1) := by decide +kernel
theorem dX1_beDrawnOn_10 : decode cX1_beDrawnOn 10 = .ok (.putfield 35, 3) := by decide +kernel
theorem dX1_beDrawnOn_13 : decode cX1_beDrawnOn 13 = .ok (.aload_n 0, 1) := by decide +kernel
theorem dX1_beDrawnOn_14 : decode cX1_beDrawnOn 14 = .ok (.iconst 0, 1) := by decide +kernel
theorem dX1_beDrawnOn_15 : decode cX1_beDrawnOn 15 = .ok (.putfield 29, 3) := by decide +kernel
theorem dX1_beDrawnOn_18 : decode cX1_beDrawnOn 18 = .ok (.aload_n 0, 1) := by decide +kernel
theorem dX1_beDrawnOn_19 : decode cX1_beDrawnOn 19 = .ok (.iconst 0, 1) := by decide +kernel
theorem dX1_beDrawnOn_20 : decode cX1_beDrawnOn 20 = .ok (.putfield 32, 3) := by decide +kernel
theorem dX1_beDrawnOn_23 : decode cX1_beDrawnOn 23 = .ok (.aload_n 0, 1) := by decide +kernel
theorem dX1_beDrawnOn_24 : decode cX1_beDrawnOn 24 = .ok (.getstatic 15, 3) := by decide +kernel
theorem dX1_beDrawnOn_27 : decode cX1_beDrawnOn 27 = .ok (.bipush 6, 2) := by decide +kernel
theorem dX1_beDrawnOn_29 : decode cX1_beDrawnOn 29 = .ok (.iaload, 1) := by decide +kernel
theorem dX1_beDrawnOn_30 : decode cX1_beDrawnOn 30 = .ok (.aload_n 0, 1) := by decide +kernel
theorem dX1_beDrawnOn_31 : decode cX1_beDrawnOn 31 = .ok (.getfield 38, 3) := by decide +kernel
theorem dX1_beDrawnOn_34 : decode cX1_beDrawnOn 34 = .ok (.iconst 1, 1) := by decide +kernel
theorem dX1_beDrawnOn_35 : decode cX1_beDrawnOn 35 = .ok (.iadd, 1) := by decide +kernel
theorem dX1_beDrawnOn_36 : decode cX1_beDrawnOn 36 = .ok (.invokestatic 72, 3) := by decide +kernel
theorem dX1_beDrawnOn_39 : decode cX1_beDrawnOn 39 = .ok (.putfield 38, 3) := by decide +kernel
theorem dX1_beDrawnOn_42 : decode cX1_beDrawnOn 42 = .ok (.aload_n 0, 1) := by decide +kernel
theorem dX1_beDrawnOn_43 : decode cX1_beDrawnOn 43 = .ok (.aload_n 0, 1) := by decide +kernel
theorem dX1_beDrawnOn_44 : decode cX1_beDrawnOn 44 = .ok (.getfield 23, 3) := by decide +kernel
theorem dX1_beDrawnOn_47 : decode cX1_beDrawnOn 47 = .ok (.iconst 1, 1) := by decide +kernel
theorem dX1_beDrawnOn_48 : decode cX1_beDrawnOn 48 = .ok (.iadd, 1) := by decide +kernel
theorem dX1_beDrawnOn_49 : decode cX1_beDrawnOn 49 = .ok (.bipush 6, 2) := by decide +kernel
theorem dX1_beDrawnOn_51 : decode cX1_beDrawnOn 51 = .ok (.irem, 1) := by decide +kernel
theorem dX1_beDrawnOn_52 : decode cX1_beDrawnOn 52 = .ok (.putfield 23, 3) := by decide +kernel
theorem dX1_beDrawnOn_55 : decode cX1_beDrawnOn 55 = .ok (.return_, 1) := by decide +kernel
theorem dX2_init_0 : decode cX2_init 0 = .ok (.aload_n 0, 1) := by decide +kernel
theorem dX2_init_1 : decode cX2_init 1 = .ok (.invokespecial 3, 3) := by decide +kernel
theorem dX2_init_4 : decode cX2_init 4 = .ok (.aload_n 0, 1) := by decide +kernel
theorem dX2_init_5 : decode cX2_init 5 = .ok (.bipush 40, 2) := by decide +kernel
theorem dX2_init_7 : decode cX2_init 7 = .ok (.newarray .int, 2) := by decide +kernel
theorem dX2_init_9 : decode cX2_init 9 = .ok (.putfield 9, 3) := by decide +kernel
theorem dX2_init_12 : decode cX2_init 12 = .ok (.aload_n 0, 1) := by decide +kernel
theorem dX2_init_13 : decode cX2_init 13 = .ok (.iconst 0, 1) := by decide +kernel
theorem dX2_init_14 : decode cX2_init 14 = .ok (.putfield 15, 3) := by decide +kernel
theorem dX2_init_17 : decode cX2_init 17 = .ok (.aload_n 0, 1) := by decide +kernel
theorem dX2_init_18 : decode cX2_init 18 = .ok (.iconst 0, 1) := by decide +kernel
theorem dX2_init_19 : decode cX2_init 19 = .ok (.putfield 19, 3) := by decide +kernel
theorem dX2_init_22 : decode cX2_init 22 = .ok (.return_, 1) := by decide +kernel
theorem dX2_isMissing_0 : decode cX2_isMissing 0 = .ok (.aload_n 0, 1) := by decide +kernel
theorem dX2_isMissing_1 : decode cX2_isMissing 1 = .ok (.getfield 15, 3) := by decide +kernel
theorem dX2_isMissing_4 : decode cX2_isMissing 4 = .ok (.ifCond .ne 7, 3) := by decide +kernel
theorem dX2_isMissing_7 : decode cX2_isMissing 7 = .ok (.iconst 1, 1) := by decide +kernel
theorem dX2_isMissing_8 : decode cX2_isMissing 8 = .ok (.goto 4, 3) := by decide +kernel
theorem dX2_isMissing_11 : decode cX2_isMissing 11 = .ok (.iconst 0, 1) := by decide +kernel
theorem dX2_isMissing_12 : decode cX2_isMissing 12 = .ok (.ireturn, 1) := by decide +kernel
theorem dX2_layOut_0 : decode cX2_layOut 0 = .ok (.aload_n 0, 1) := by decide +kernel
theorem dX2_layOut_1 : decode cX2_layOut 1 = .ok (.iload_n 1, 1) := by decide +kernel
theorem dX2_layOut_2 : decode cX2_layOut 2 = .ok (.putfield 15, 3) := by decide +kernel
theorem dX2_layOut_5 : decode cX2_layOut 5 = .ok (.aload_n 0, 1) := by decide +kernel
theorem dX2_layOut_6 : decode cX2_layOut 6 = .ok (.iload_n 2, 1) := by decide +kernel
theorem dX2_layOut_7 : decode cX2_layOut 7 = .ok (.putfield 19, 3) := by decide +kernel
theorem dX2_layOut_10 : decode cX2_layOut 10 = .ok (.iconst 0, 1) := by decide +kernel
theorem dX2_layOut_11 : decode cX2_layOut 11 = .ok (.istore_n 3, 1) := by decide +kernel
theorem dX2_layOut_12 : decode cX2_layOut 12 = .ok (.iload_n 3, 1) := by decide +kernel
theorem dX2_layOut_13 : decode cX2_layOut 13 = .ok (.aload_n 0, 1) := by decide +kernel
theorem dX2_layOut_14 : decode cX2_layOut 14 = .ok (.getfield 19, 3) := by decide +kernel
theorem dX2_layOut_17 : decode cX2_layOut 17 = .ok (.if_icmp .ge 16, 3) := by decide +kernel
theorem dX2_layOut_20 : decode cX2_layOut 20 = .ok (.aload_n 0, 1) := by decide +kernel
theorem dX2_layOut_21 : decode cX2_layOut 21 = .ok (.getfield 9, 3) := by decide +kernel
theorem dX2_layOut_24 : decode cX2_layOut 24 = .ok (.iload_n 3, 1) := by decide +kernel
theorem dX2_layOut_25 : decode cX2_layOut 25 = .ok (.iconst 0, 1) := by decide +kernel
theorem dX2_layOut_26 : decode cX2_layOut 26 = .ok (.iastore, 1) := by decide +kernel
theorem dX2_layOut_27 : decode cX2_layOut 27 = .ok (.iinc 3 1, 3) := by decide +kernel
theorem dX2_layOut_30 : decode cX2_layOut 30 = .ok (.goto (-18), 3) := by decide +kernel
theorem dX2_layOut_33 : decode cX2_layOut 33 = .ok (.return_, 1) := by decide +kernel
theorem dX2_setNumber_0 : decode cX2_setNumber 0 = .ok (.aload_n 0, 1) := by decide +kernel
theorem dX2_setNumber_1 : decode cX2_setNumber 1 = .ok (.getfield 15, 3) := by decide +kernel
theorem dX2_setNumber_4 : decode cX2_setNumber 4 = .ok (.lookupswitch 50 #[(8, 28), (16, 39)], 28) := by decide +kernel
theorem dX2_setNumber_32 : decode cX2_setNumber 32 = .ok (.aload_n 0, 1) := by decide +kernel
theorem dX2_setNumber_33 : decode cX2_setNumber 33 = .ok (.getfield 9, 3) := by decide +kernel
theorem dX2_setNumber_36 : decode cX2_setNumber 36 = .ok (.iload_n 1, 1) := by decide +kernel
theorem dX2_setNumber_37 : decode cX2_setNumber 37 = .ok (.iload_n 2, 1) := by decide +kernel
theorem dX2_setNumber_38 : decode cX2_setNumber 38 = .ok (.i2b, 1) := by decide +kernel
theorem dX2_setNumber_39 : decode cX2_setNumber 39 = .ok (.iastore, 1) := by decide +kernel
theorem dX2_setNumber_40 : decode cX2_setNumber 40 = .ok (.goto 21, 3) := by decide +kernel
theorem dX2_setNumber_43 : decode cX2_setNumber 43 = .ok (.aload_n 0, 1) := by decide +kernel
theorem dX2_setNumber_44 : decode cX2_setNumber 44 = .ok (.getfield 9, 3) := by decide +kernel
theorem dX2_setNumber_47 : decode cX2_setNumber 47 = .ok (.iload_n 1, 1) := by decide +kernel
theorem dX2_setNumber_48 : decode cX2_setNumber 48 = .ok (.iload_n 2, 1) := by decide +kernel
theorem dX2_setNumber_49 : decode cX2_setNumber 49 = .ok (.i2s, 1) := by decide +kernel
theorem dX2_setNumber_50 : decode cX2_setNumber 50 = .ok (.iastore, 1) := by decide +kernel
theorem dX2_setNumber_51 : decode cX2_setNumber 51 = .ok (.goto 10, 3) := by decide +kernel
theorem dX2_setNumber_54 : decode cX2_setNumber 54 = .ok (.aload_n 0, 1) := by decide +kernel
theorem dX2_setNumber_55 : decode cX2_setNumber 55 = .ok (.getfield 9, 3) := by decide +kernel
theorem dX2_setNumber_58 : decode cX2_setNumber 58 = .ok (.iload_n 1, 1) := by decide +kernel
theorem dX2_setNumber_59 : decode cX2_setNumber 59 = .ok (.iload_n 2, 1) := by decide +kernel
theorem dX2_setNumber_60 : decode cX2_setNumber 60 = .ok (.iastore, 1) := by decide +kernel
theorem dX2_setNumber_61 : decode cX2_setNumber 61 = .ok (.return_, 1) := by decide +kernel
theorem dX2_hasRow_0 : decode cX2_hasRow 0 = .ok (.iload_n 1, 1) := by decide +kernel
theorem dX2_hasRow_1 : decode cX2_hasRow 1 = .ok (.aload_n 0, 1) := by decide +kernel
theorem dX2_hasRow_2 : decode cX2_hasRow 2 = .ok (.getfield 19, 3) := by decide +kernel
theorem dX2_hasRow_5 : decode cX2_hasRow 5 = .ok (.invokestatic 22, 3) := by decide +kernel
theorem dX2_hasRow_8 : decode cX2_hasRow 8 = .ok (.ifCond .eq 20, 3) := by decide +kernel
theorem dX2_hasRow_11 : decode cX2_hasRow 11 = .ok (.iload_n 2, 1) := by decide +kernel
theorem dX2_hasRow_12 : decode cX2_hasRow 12 = .ok (.aload_n 0, 1) := by decide +kernel
theorem dX2_hasRow_13 : decode cX2_hasRow 13 = .ok (.getfield 19, 3) := by decide +kernel
theorem dX2_hasRow_16 : decode cX2_hasRow 16 = .ok (.iload_n 1, 1) := by decide +kernel
theorem dX2_hasRow_17 : decode cX2_hasRow 17 = .ok (.isub, 1) := by decide +kernel
theorem dX2_hasRow_18 : decode cX2_hasRow 18 = .ok (.invokestatic 22, 3) := by decide +kernel
theorem dX2_hasRow_21 : decode cX2_hasRow 21 = .ok (.ifCond .eq 7, 3) := by decide +kernel
theorem dX2_hasRow_24 : decode cX2_hasRow 24 = .ok (.iconst 1, 1) := by decide +kernel
theorem dX2_hasRow_25 : decode cX2_hasRow 25 = .ok (.goto 4, 3) := by decide +kernel
theorem dX2_hasRow_28 : decode cX2_hasRow 28 = .ok (.iconst 0, 1) := by decide +kernel
theorem dX2_hasRow_29 : decode cX2_hasRow 29 = .ok (.ireturn, 1) := by decide +kernel
theorem dX3_init_0 : decode cX3_init 0 = .ok (.aload_n 0, 1) := by decide +kernel
theorem dX3_init_1 : decode cX3_init 1 = .ok (.invokespecial 3, 3) := by decide +kernel
theorem dX3_init_4 : decode cX3_init 4 = .ok (.aload_n 0, 1) := by decide +kernel
theorem dX3_init_5 : decode cX3_init 5 = .ok (.bipush 120, 2) := by decide +kernel
theorem dX3_init_7 : decode cX3_init 7 = .ok (.newarray .byte, 2) := by decide +kernel
theorem dX3_init_9 : decode cX3_init 9 = .ok (.putfield 9, 3) := by decide +kernel
theorem dX3_init_12 : decode cX3_init 12 = .ok (.aload_n 0, 1) := by decide +kernel
theorem dX3_init_13 : decode cX3_init 13 = .ok (.iconst 0, 1) := by decide +kernel
theorem dX3_init_14 : decode cX3_init 14 = .ok (.putfield 15, 3) := by decide +kernel
theorem dX3_init_17 : decode cX3_init 17 = .ok (.return_, 1) := by decide +kernel
theorem dX3_append_0 : decode cX3_append 0 = .ok (.aload_n 0, 1) := by decide +kernel
theorem dX3_append_1 : decode cX3_append 1 = .ok (.getfield 15, 3) := by decide +kernel
theorem dX3_append_4 : decode cX3_append 4 = .ok (.bipush 120, 2) := by decide +kernel
theorem dX3_append_6 : decode cX3_append 6 = .ok (.if_icmp .ge 23, 3) := by decide +kernel
theorem dX3_append_9 : decode cX3_append 9 = .ok (.aload_n 0, 1) := by decide +kernel
theorem dX3_append_10 : decode cX3_append 10 = .ok (.getfield 9, 3) := by decide +kernel
theorem dX3_append_13 : decode cX3_append 13 = .ok (.aload_n 0, 1) := by decide +kernel
theorem dX3_append_14 : decode cX3_append 14 = .ok (.getfield 15, 3) := by decide +kernel
theorem dX3_append_17 : decode cX3_append 17 = .ok (.iload_n 1, 1) := by decide +kernel
theorem dX3_append_18 : decode cX3_append 18 = .ok (.bastore, 1) := by decide +kernel
theorem dX3_append_19 : decode cX3_append 19 = .ok (.aload_n 0, 1) := by decide +kernel
theorem dX3_append_20 : decode cX3_append 20 = .ok (.dup, 1) := by decide +kernel
theorem dX3_append_21 : decode cX3_append 21 = .ok (.getfield 15, 3) := by decide +kernel
theorem dX3_append_24 : decode cX3_append 24 = .ok (.iconst 1, 1) := by decide +kernel
theorem dX3_append_25 : decode cX3_append 25 = .ok (.iadd, 1) := by decide +kernel
theorem dX3_append_26 : decode cX3_append 26 = .ok (.putfield 15, 3) := by decide +kernel
theorem dX3_append_29 : decode cX3_append 29 = .ok (.return_, 1) := by decide +kernel
theorem dX3_byteAt_0 : decode cX3_byteAt 0 = .ok (.iload_n 1, 1) := by decide +kernel
theorem dX3_byteAt_1 : decode cX3_byteAt 1 = .ok (.aload_n 0, 1) := by decide +kernel
theorem dX3_byteAt_2 : decode cX3_byteAt 2 = .ok (.getfield 15, 3) := by decide +kernel
theorem dX3_byteAt_5 : decode cX3_byteAt 5 = .ok (.iconst 1, 1) := by decide +kernel
theorem dX3_byteAt_6 : decode cX3_byteAt 6 = .ok (.isub, 1) := by decide +kernel
theorem dX3_byteAt_7 : decode cX3_byteAt 7 = .ok (.invokestatic 19, 3) := by decide +kernel
theorem dX3_byteAt_10 : decode cX3_byteAt 10 = .ok (.ifCond .eq 12, 3) := by decide +kernel
theorem dX3_byteAt_13 : decode cX3_byteAt 13 = .ok (.aload_n 0, 1) := by decide +kernel
theorem dX3_byteAt_14 : decode cX3_byteAt 14 = .ok (.getfield 9, 3) := by decide +kernel
theorem dX3_byteAt_17 : decode cX3_byteAt 17 = .ok (.iload_n 1, 1) := by decide +kernel
theorem dX3_byteAt_18 : decode cX3_byteAt 18 = .ok (.baload, 1) := by decide +kernel
theorem dX3_byteAt_19 : decode cX3_byteAt 19 = .ok (.goto 4, 3) := by decide +kernel
theorem dX3_byteAt_22 : decode cX3_byteAt 22 = .ok (.iconst 0, 1) := by decide +kernel
theorem dX3_byteAt_23 : decode cX3_byteAt 23 = .ok (.ireturn, 1) := by decide +kernel
theorem dX3_spells_0 : decode cX3_spells 0 = .ok (.aload_n 1, 1) := by decide +kernel
theorem dX3_spells_1 : decode cX3_spells 1 = .ok (.invokevirtual 23, 3) := by decide +kernel
theorem dX3_spells_4 : decode cX3_spells 4 = .ok (.iload_n 3, 1) := by decide +kernel
theorem dX3_spells_5 : decode cX3_spells 5 = .ok (.iload_n 2, 1) := by decide +kernel
theorem dX3_spells_6 : decode cX3_spells 6 = .ok (.isub, 1) := by decide +kernel
theorem dX3_spells_7 : decode cX3_spells 7 = .ok (.if_icmp .eq 5, 3) := by decide +kernel
theorem dX3_spells_10 : decode cX3_spells 10 = .ok (.iconst 0, 1) := by decide +kernel
theorem dX3_spells_11 : decode cX3_spells 11 = .ok (.ireturn, 1) := by decide +kernel
theorem dX3_spells_12 : decode cX3_spells 12 = .ok (.iconst 0, 1) := by decide +kernel
theorem dX3_spells_13 : decode cX3_spells 13 = .ok (.istore 4, 2) := by decide +kernel
theorem dX3_spells_15 : decode cX3_spells 15 = .ok (.iload 4, 2) := by decide +kernel
theorem dX3_spells_17 : decode cX3_spells 17 = .ok (.aload_n 1, 1) := by decide +kernel
theorem dX3_spells_18 : decode cX3_spells 18 = .ok (.invokevirtual 23, 3) := by decide +kernel
theorem dX3_spells_21 : decode cX3_spells 21 = .ok (.if_icmp .ge 28, 3) := by decide +kernel
theorem dX3_spells_24 : decode cX3_spells 24 = .ok (.aload_n 0, 1) := by decide +kernel
theorem dX3_spells_25 : decode cX3_spells 25 = .ok (.iload_n 2, 1) := by decide +kernel
theorem dX3_spells_26 : decode cX3_spells 26 = .ok (.iload 4, 2) := by decide +kernel
theorem dX3_spells_28 : decode cX3_spells 28 = .ok (.iadd, 1) := by decide +kernel
theorem dX3_spells_29 : decode cX3_spells 29 = .ok (.invokevirtual 28, 3) := by decide +kernel
theorem dX3_spells_32 : decode cX3_spells 32 = .ok (.aload_n 1, 1) := by decide +kernel
theorem dX3_spells_33 : decode cX3_spells 33 = .ok (.iload 4, 2) := by decide +kernel
theorem dX3_spells_35 : decode cX3_spells 35 = .ok (.invokevirtual 32, 3) := by decide +kernel
theorem dX3_spells_38 : decode cX3_spells 38 = .ok (.if_icmp .eq 5, 3) := by decide +kernel
theorem dX3_spells_41 : decode cX3_spells 41 = .ok (.iconst 0, 1) := by decide +kernel
theorem dX3_spells_42 : decode cX3_spells 42 = .ok (.ireturn, 1) := by decide +kernel
theorem dX3_spells_43 : decode cX3_spells 43 = .ok (.iinc 4 1, 3) := by decide +kernel
theorem dX3_spells_46 : decode cX3_spells 46 = .ok (.goto (-31), 3) := by decide +kernel
theorem dX3_spells_49 : decode cX3_spells 49 = .ok (.iconst 1, 1) := by decide +kernel
theorem dX3_spells_50 : decode cX3_spells 50 = .ok (.ireturn, 1) := by decide +kernel
theorem dX4_init_0 : decode cX4_init 0 = .ok (.aload_n 0, 1) := by decide +kernel
theorem dX4_init_1 : decode cX4_init 1 = .ok (.invokespecial 3, 3) := by decide +kernel
theorem dX4_init_4 : decode cX4_init 4 = .ok (.aload_n 0, 1) := by decide +kernel
theorem dX4_init_5 : decode cX4_init 5 = .ok (.new 9, 3) := by decide +kernel
theorem dX4_init_8 : decode cX4_init 8 = .ok (.dup, 1) := by decide +kernel
theorem dX4_init_9 : decode cX4_init 9 = .ok (.invokespecial 11, 3) := by decide +kernel
theorem dX4_init_12 : decode cX4_init 12 = .ok (.putfield 12, 3) := by decide +kernel
theorem dX4_init_15 : decode cX4_init 15 = .ok (.aload_n 0, 1) := by decide +kernel
theorem dX4_init_16 : decode cX4_init 16 = .ok (.iconst 0, 1) := by decide +kernel
theorem dX4_init_17 : decode cX4_init 17 = .ok (.putfield 18, 3) := by decide +kernel
theorem dX4_init_20 : decode cX4_init 20 = .ok (.aload_n 0, 1) := by decide +kernel
theorem dX4_init_21 : decode cX4_init 21 = .ok (.iconst 0, 1) := by decide +kernel
theorem dX4_init_22 : decode cX4_init 22 = .ok (.putfield 22, 3) := by decide +kernel
theorem dX4_init_25 : decode cX4_init 25 = .ok (.return_, 1) := by decide +kernel
theorem dX4_read_0 : decode cX4_read 0 = .ok (.aload_n 0, 1) := by decide +kernel
theorem dX4_read_1 : decode cX4_read 1 = .ok (.getfield 12, 3) := by decide +kernel
theorem dX4_read_4 : decode cX4_read 4 = .ok (.aload_n 1, 1) := by decide +kernel
theorem dX4_read_5 : decode cX4_read 5 = .ok (.invokevirtual 26, 3) := by decide +kernel
theorem dX4_read_8 : decode cX4_read 8 = .ok (.aload_n 0, 1) := by decide +kernel
theorem dX4_read_9 : decode cX4_read 9 = .ok (.iconst 0, 1) := by decide +kernel
theorem dX4_read_10 : decode cX4_read 10 = .ok (.putfield 18, 3) := by decide +kernel
theorem dX4_read_13 : decode cX4_read 13 = .ok (.aload_n 0, 1) := by decide +kernel
theorem dX4_read_14 : decode cX4_read 14 = .ok (.iconst 0, 1) := by decide +kernel
theorem dX4_read_15 : decode cX4_read 15 = .ok (.putfield 22, 3) := by decide +kernel
theorem dX4_read_18 : decode cX4_read 18 = .ok (.iconst 1, 1) := by decide +kernel
theorem dX4_read_19 : decode cX4_read 19 = .ok (.istore_n 3, 1) := by decide +kernel
theorem dX4_read_20 : decode cX4_read 20 = .ok (.iload_n 3, 1) := by decide +kernel
theorem dX4_read_21 : decode cX4_read 21 = .ok (.bipush 120, 2) := by decide +kernel
theorem dX4_read_23 : decode cX4_read 23 = .ok (.if_icmp .gt 60, 3) := by decide +kernel
theorem dX4_read_26 : decode cX4_read 26 = .ok (.aload_n 0, 1) := by decide +kernel
theorem dX4_read_27 : decode cX4_read 27 = .ok (.getfield 22, 3) := by decide +kernel
theorem dX4_read_30 : decode cX4_read 30 = .ok (.ifCond .ne 53, 3) := by decide +kernel
theorem dX4_read_33 : decode cX4_read 33 = .ok (.aload_n 0, 1) := by decide +kernel
theorem dX4_read_34 : decode cX4_read 34 = .ok (.aload_n 2, 1) := by decide +kernel
theorem dX4_read_35 : decode cX4_read 35 = .ok (.invokevirtual 30, 3) := by decide +kernel
theorem dX4_read_38 : decode cX4_read 38 = .ok (.aload_n 0, 1) := by decide +kernel
theorem dX4_read_39 : decode cX4_read 39 = .ok (.getfield 22, 3) := by decide +kernel
theorem dX4_read_42 : decode cX4_read 42 = .ok (.ifCond .ne 21, 3) := by decide +kernel
theorem dX4_read_45 : decode cX4_read 45 = .ok (.aload_n 0, 1) := by decide +kernel
theorem dX4_read_46 : decode cX4_read 46 = .ok (.getfield 12, 3) := by decide +kernel
theorem dX4_read_49 : decode cX4_read 49 = .ok (.aload_n 0, 1) := by decide +kernel
theorem dX4_read_50 : decode cX4_read 50 = .ok (.getfield 18, 3) := by decide +kernel
theorem dX4_read_53 : decode cX4_read 53 = .ok (.invokevirtual 34, 3) := by decide +kernel
theorem dX4_read_56 : decode cX4_read 56 = .ok (.bipush 17, 2) := by decide +kernel
theorem dX4_read_58 : decode cX4_read 58 = .ok (.if_icmp .ne 5, 3) := by decide +kernel
theorem dX4_read_61 : decode cX4_read 61 = .ok (.iload_n 3, 1) := by decide +kernel
theorem dX4_read_62 : decode cX4_read 62 = .ok (.ireturn, 1) := by decide +kernel
theorem dX4_read_63 : decode cX4_read 63 = .ok (.aload_n 0, 1) := by decide +kernel
theorem dX4_read_64 : decode cX4_read 64 = .ok (.bipush 15, 2) := by decide +kernel
theorem dX4_read_66 : decode cX4_read 66 = .ok (.invokevirtual 38, 3) := by decide +kernel
theorem dX4_read_69 : decode cX4_read 69 = .ok (.ifCond .ne 8, 3) := by decide +kernel
theorem dX4_read_72 : decode cX4_read 72 = .ok (.aload_n 0, 1) := by decide +kernel
theorem dX4_read_73 : decode cX4_read 73 = .ok (.iconst 1, 1) := by decide +kernel
theorem dX4_read_74 : decode cX4_read 74 = .ok (.putfield 22, 3) := by decide +kernel
theorem dX4_read_77 : decode cX4_read 77 = .ok (.iinc 3 1, 3) := by decide +kernel
theorem dX4_read_80 : decode cX4_read 80 = .ok (.goto (-60), 3) := by decide +kernel
theorem dX4_read_83 : decode cX4_read 83 = .ok (.iconst (-1), 1) := by decide +kernel
theorem dX4_read_84 : decode cX4_read 84 = .ok (.aload_n 0, 1) := by decide +kernel
theorem dX4_read_85 : decode cX4_read 85 = .ok (.getfield 12, 3) := by decide +kernel
theorem dX4_read_88 : decode cX4_read 88 = .ok (.aload_n 0, 1) := by decide +kernel
theorem dX4_read_89 : decode cX4_read 89 = .ok (.getfield 18, 3) := by decide +kernel
theorem dX4_read_92 : decode cX4_read 92 = .ok (.invokevirtual 42, 3) := by decide +kernel
theorem dX4_read_95 : decode cX4_read 95 = .ok (.isub, 1) := by decide +kernel
theorem dX4_read_96 : decode cX4_read 96 = .ok (.ireturn, 1) := by decide +kernel
theorem dX4_takeItem_0 : decode cX4_takeItem 0 = .ok (.aload_n 0, 1) := by decide +kernel
theorem dX4_takeItem_1 : decode cX4_takeItem 1 = .ok (.bipush 11, 2) := by decide +kernel
theorem dX4_takeItem_3 : decode cX4_takeItem 3 = .ok (.invokevirtual 38, 3) := by decide +kernel
theorem dX4_takeItem_6 : decode cX4_takeItem 6 = .ok (.ifCond .eq 11, 3) := by decide +kernel
theorem dX4_takeItem_9 : decode cX4_takeItem 9 = .ok (.aload_n 0, 1) := by decide +kernel
theorem dX4_takeItem_10 : decode cX4_takeItem 10 = .ok (.aload_n 1, 1) := by decide +kernel
theorem dX4_takeItem_11 : decode cX4_takeItem 11 = .ok (.invokevirtual 45, 3) := by decide +kernel
theorem dX4_takeItem_14 : decode cX4_takeItem 14 = .ok (.goto 25, 3) := by decide +kernel
theorem dX4_takeItem_17 : decode cX4_takeItem 17 = .ok (.aload_n 0, 1) := by decide +kernel
theorem dX4_takeItem_18 : decode cX4_takeItem 18 = .ok (.bipush 12, 2) := by decide +kernel
theorem dX4_takeItem_20 : decode cX4_takeItem 20 = .ok (.invokevirtual 38, 3) := by decide +kernel
theorem dX4_takeItem_23 : decode cX4_takeItem 23 = .ok (.ifCond .eq 11, 3) := by decide +kernel
theorem dX4_takeItem_26 : decode cX4_takeItem 26 = .ok (.aload_n 0, 1) := by decide +kernel
theorem dX4_takeItem_27 : decode cX4_takeItem 27 = .ok (.aload_n 1, 1) := by decide +kernel
theorem dX4_takeItem_28 : decode cX4_takeItem 28 = .ok (.invokevirtual 48, 3) := by decide +kernel
theorem dX4_takeItem_31 : decode cX4_takeItem 31 = .ok (.goto 8, 3) := by decide +kernel
theorem dX4_takeItem_34 : decode cX4_takeItem 34 = .ok (.aload_n 0, 1) := by decide +kernel
theorem dX4_takeItem_35 : decode cX4_takeItem 35 = .ok (.aload_n 1, 1) := by decide +kernel
theorem dX4_takeItem_36 : decode cX4_takeItem 36 = .ok (.invokevirtual 51, 3) := by decide +kernel
theorem dX4_takeItem_39 : decode cX4_takeItem 39 = .ok (.return_, 1) := by decide +kernel
theorem dX4_takeSaying_0 : decode cX4_takeSaying 0 = .ok (.aload_n 0, 1) := by decide +kernel
theorem dX4_takeSaying_1 : decode cX4_takeSaying 1 = .ok (.iconst 5, 1) := by decide +kernel
theorem dX4_takeSaying_2 : decode cX4_takeSaying 2 = .ok (.invokevirtual 54, 3) := by decide +kernel
theorem dX4_takeSaying_5 : decode cX4_takeSaying 5 = .ok (.istore_n 2, 1) := by decide +kernel
theorem dX4_takeSaying_6 : decode cX4_takeSaying 6 = .ok (.aload_n 0, 1) := by decide +kernel
theorem dX4_takeSaying_7 : decode cX4_takeSaying 7 = .ok (.iconst 5, 1) := by decide +kernel
theorem dX4_takeSaying_8 : decode cX4_takeSaying 8 = .ok (.invokevirtual 54, 3) := by decide +kernel
theorem dX4_takeSaying_11 : decode cX4_takeSaying 11 = .ok (.istore_n 3, 1) := by decide +kernel
theorem dX4_takeSaying_12 : decode cX4_takeSaying 12 = .ok (.aload_n 0, 1) := by decide +kernel
theorem dX4_takeSaying_13 : decode cX4_takeSaying 13 = .ok (.bipush 15, 2) := by decide +kernel
theorem dX4_takeSaying_15 : decode cX4_takeSaying 15 = .ok (.invokevirtual 54, 3) := by decide +kernel
theorem dX4_takeSaying_18 : decode cX4_takeSaying 18 = .ok (.istore 4, 2) := by decide +kernel
theorem dX4_takeSaying_20 : decode cX4_takeSaying 20 = .ok (.aload_n 0, 1) := by decide +kernel
theorem dX4_takeSaying_21 : decode cX4_takeSaying 21 = .ok (.bipush 9, 2) := by decide +kernel
theorem dX4_takeSaying_23 : decode cX4_takeSaying 23 = .ok (.invokevirtual 54, 3) := by decide +kernel
theorem dX4_takeSaying_26 : decode cX4_takeSaying 26 = .ok (.istore 5, 2) := by decide +kernel
theorem dX4_takeSaying_28 : decode cX4_takeSaying 28 = .ok (.aload_n 0, 1) := by decide +kernel
theorem dX4_takeSaying_29 : decode cX4_takeSaying 29 = .ok (.getfield 22, 3) := by decide +kernel
theorem dX4_takeSaying_32 : decode cX4_takeSaying 32 = .ok (.ifCond .ne 17, 3) := by decide +kernel
theorem dX4_takeSaying_35 : decode cX4_takeSaying 35 = .ok (.aload_n 1, 1) := by decide +kernel
theorem dX4_takeSaying_36 : decode cX4_takeSaying 36 = .ok (.getfield 57, 3) := by decide +kernel
theorem dX4_takeSaying_39 : decode cX4_takeSaying 39 = .ok (.iload_n 2, 1) := by decide +kernel
theorem dX4_takeSaying_40 : decode cX4_takeSaying 40 = .ok (.iload_n 3, 1) := by decide +kernel
theorem dX4_takeSaying_41 : decode cX4_takeSaying 41 = .ok (.iload 4, 2) := by decide +kernel
theorem dX4_takeSaying_43 : decode cX4_takeSaying 43 = .ok (.iload 5, 2) := by decide +kernel
theorem dX4_takeSaying_45 : decode cX4_takeSaying 45 = .ok (.invokestatic 63, 3) := by decide +kernel
theorem dX4_takeSaying_48 : decode cX4_takeSaying 48 = .ok (.iastore, 1) := by decide +kernel
theorem dX4_takeSaying_49 : decode cX4_takeSaying 49 = .ok (.return_, 1) := by decide +kernel
theorem dX4_takeHand_0 : decode cX4_takeHand 0 = .ok (.aload_n 0, 1) := by decide +kernel
theorem dX4_takeHand_1 : decode cX4_takeHand 1 = .ok (.aload_n 1, 1) := by decide +kernel
theorem dX4_takeHand_2 : decode cX4_takeHand 2 = .ok (.getfield 67, 3) := by decide +kernel
theorem dX4_takeHand_5 : decode cX4_takeHand 5 = .ok (.iconst 1, 1) := by decide +kernel
theorem dX4_takeHand_6 : decode cX4_takeHand 6 = .ok (.isub, 1) := by decide +kernel
theorem dX4_takeHand_7 : decode cX4_takeHand 7 = .ok (.invokevirtual 54, 3) := by decide +kernel
theorem dX4_takeHand_10 : decode cX4_takeHand 10 = .ok (.istore_n 2, 1) := by decide +kernel
theorem dX4_takeHand_11 : decode cX4_takeHand 11 = .ok (.aload_n 0, 1) := by decide +kernel
theorem dX4_takeHand_12 : decode cX4_takeHand 12 = .ok (.ldc 70, 2) := by decide +kernel
theorem dX4_takeHand_14 : decode cX4_takeHand 14 = .ok (.invokevirtual 54, 3) := by decide +kernel
theorem dX4_takeHand_17 : decode cX4_takeHand 17 = .ok (.istore_n 3, 1) := by decide +kernel
theorem dX4_takeHand_18 : decode cX4_takeHand 18 = .ok (.aload_n 0, 1) := by decide +kernel
theorem dX4_takeHand_19 : decode cX4_takeHand 19 = .ok (.getfield 22, 3) := by decide +kernel
theorem dX4_takeHand_22 : decode cX4_takeHand 22 = .ok (.ifCond .ne 13, 3) := by decide +kernel
theorem dX4_takeHand_25 : decode cX4_takeHand 25 = .ok (.aload_n 1, 1) := by decide +kernel
theorem dX4_takeHand_26 : decode cX4_takeHand 26 = .ok (.getfield 71, 3) := by decide +kernel
theorem dX4_takeHand_29 : decode cX4_takeHand 29 = .ok (.iload_n 2, 1) := by decide +kernel
theorem dX4_takeHand_30 : decode cX4_takeHand 30 = .ok (.aaload, 1) := by decide +kernel
theorem dX4_takeHand_31 : decode cX4_takeHand 31 = .ok (.iload_n 3, 1) := by decide +kernel
theorem dX4_takeHand_32 : decode cX4_takeHand 32 = .ok (.putfield 75, 3) := by decide +kernel
theorem dX4_takeHand_35 : decode cX4_takeHand 35 = .ok (.return_, 1) := by decide +kernel
theorem dX4_takeGlove_0 : decode cX4_takeGlove 0 = .ok (.aload_n 0, 1) := by decide +kernel
theorem dX4_takeGlove_1 : decode cX4_takeGlove 1 = .ok (.getfield 12, 3) := by decide +kernel
theorem dX4_takeGlove_4 : decode cX4_takeGlove 4 = .ok (.aload_n 0, 1) := by decide +kernel
theorem dX4_takeGlove_5 : decode cX4_takeGlove 5 = .ok (.getfield 18, 3) := by decide +kernel
theorem dX4_takeGlove_8 : decode cX4_takeGlove 8 = .ok (.invokevirtual 34, 3) := by decide +kernel
theorem dX4_takeGlove_11 : decode cX4_takeGlove 11 = .ok (.istore_n 2, 1) := by decide +kernel
theorem dX4_takeGlove_12 : decode cX4_takeGlove 12 = .ok (.iload_n 2, 1) := by decide +kernel
theorem dX4_takeGlove_13 : decode cX4_takeGlove 13 = .ok (.bipush 6, 2) := by decide +kernel
theorem dX4_takeGlove_15 : decode cX4_takeGlove 15 = .ok (.invokestatic 80, 3) := by decide +kernel
theorem dX4_takeGlove_18 : decode cX4_takeGlove 18 = .ok (.ifCond .eq 12, 3) := by decide +kernel
theorem dX4_takeGlove_21 : decode cX4_takeGlove 21 = .ok (.aload_n 1, 1) := by decide +kernel
theorem dX4_takeGlove_22 : decode cX4_takeGlove 22 = .ok (.getfield 67, 3) := by decide +kernel
theorem dX4_takeGlove_25 : decode cX4_takeGlove 25 = .ok (.bipush 8, 2) := by decide +kernel
theorem dX4_takeGlove_27 : decode cX4_takeGlove 27 = .ok (.if_icmp .lt 9, 3) := by decide +kernel
theorem dX4_takeGlove_30 : decode cX4_takeGlove 30 = .ok (.aload_n 0, 1) := by decide +kernel
theorem dX4_takeGlove_31 : decode cX4_takeGlove 31 = .ok (.iconst 1, 1) := by decide +kernel
theorem dX4_takeGlove_32 : decode cX4_takeGlove 32 = .ok (.putfield 22, 3) := by decide +kernel
theorem dX4_takeGlove_35 : decode cX4_takeGlove 35 = .ok (.return_, 1) := by decide +kernel
theorem dX4_takeGlove_36 : decode cX4_takeGlove 36 = .ok (.aload_n 0, 1) := by decide +kernel
theorem dX4_takeGlove_37 : decode cX4_takeGlove 37 = .ok (.dup, 1) := by decide +kernel
theorem dX4_takeGlove_38 : decode cX4_takeGlove 38 = .ok (.getfield 18, 3) := by decide +kernel
theorem dX4_takeGlove_41 : decode cX4_takeGlove 41 = .ok (.iconst 1, 1) := by decide +kernel
theorem dX4_takeGlove_42 : decode cX4_takeGlove 42 = .ok (.iadd, 1) := by decide +kernel
theorem dX4_takeGlove_43 : decode cX4_takeGlove 43 = .ok (.putfield 18, 3) := by decide +kernel
theorem dX4_takeGlove_46 : decode cX4_takeGlove 46 = .ok (.aload_n 1, 1) := by decide +kernel
theorem dX4_takeGlove_47 : decode cX4_takeGlove 47 = .ok (.getfield 71, 3) := by decide +kernel
theorem dX4_takeGlove_50 : decode cX4_takeGlove 50 = .ok (.aload_n 1, 1) := by decide +kernel
theorem dX4_takeGlove_51 : decode cX4_takeGlove 51 = .ok (.iload_n 2, 1) := by decide +kernel
theorem dX4_takeGlove_52 : decode cX4_takeGlove 52 = .ok (.iconst 0, 1) := by decide +kernel
theorem dX4_takeGlove_53 : decode cX4_takeGlove 53 = .ok (.invokevirtual 84, 3) := by decide +kernel
theorem dX4_takeGlove_56 : decode cX4_takeGlove 56 = .ok (.aaload, 1) := by decide +kernel
theorem dX4_takeGlove_57 : decode cX4_takeGlove 57 = .ok (.astore_n 3, 1) := by decide +kernel
theorem dX4_takeGlove_58 : decode cX4_takeGlove 58 = .ok (.aload_n 0, 1) := by decide +kernel
theorem dX4_takeGlove_59 : decode cX4_takeGlove 59 = .ok (.bipush 7, 2) := by decide +kernel
theorem dX4_takeGlove_61 : decode cX4_takeGlove 61 = .ok (.aload_n 3, 1) := by decide +kernel
theorem dX4_takeGlove_62 : decode cX4_takeGlove 62 = .ok (.iconst 1, 1) := by decide +kernel
theorem dX4_takeGlove_63 : decode cX4_takeGlove 63 = .ok (.invokevirtual 88, 3) := by decide +kernel
theorem dX4_takeGlove_66 : decode cX4_takeGlove 66 = .ok (.aload_n 0, 1) := by decide +kernel
theorem dX4_takeGlove_67 : decode cX4_takeGlove 67 = .ok (.bipush 8, 2) := by decide +kernel
theorem dX4_takeGlove_69 : decode cX4_takeGlove 69 = .ok (.aload_n 3, 1) := by decide +kernel
theorem dX4_takeGlove_70 : decode cX4_takeGlove 70 = .ok (.iconst 2, 1) := by decide +kernel
theorem dX4_takeGlove_71 : decode cX4_takeGlove 71 = .ok (.invokevirtual 88, 3) := by decide +kernel
theorem dX4_takeGlove_74 : decode cX4_takeGlove 74 = .ok (.aload_n 0, 1) := by decide +kernel
theorem dX4_takeGlove_75 : decode cX4_takeGlove 75 = .ok (.bipush 9, 2) := by decide +kernel
theorem dX4_takeGlove_77 : decode cX4_takeGlove 77 = .ok (.aload_n 3, 1) := by decide +kernel
theorem dX4_takeGlove_78 : decode cX4_takeGlove 78 = .ok (.iconst 3, 1) := by decide +kernel
theorem dX4_takeGlove_79 : decode cX4_takeGlove 79 = .ok (.invokevirtual 88, 3) := by decide +kernel
theorem dX4_takeGlove_82 : decode cX4_takeGlove 82 = .ok (.aload_n 0, 1) := by decide +kernel
theorem dX4_takeGlove_83 : decode cX4_takeGlove 83 = .ok (.bipush 10, 2) := by decide +kernel
theorem dX4_takeGlove_85 : decode cX4_takeGlove 85 = .ok (.aload_n 3, 1) := by decide +kernel
theorem dX4_takeGlove_86 : decode cX4_takeGlove 86 = .ok (.iconst 4, 1) := by decide +kernel
theorem dX4_takeGlove_87 : decode cX4_takeGlove 87 = .ok (.invokevirtual 88, 3) := by decide +kernel
theorem dX4_takeGlove_90 : decode cX4_takeGlove 90 = .ok (.return_, 1) := by decide +kernel
theorem dX4_takeTrait_0 : decode cX4_takeTrait 0 = .ok (.aload_n 0, 1) := by decide +kernel
theorem dX4_takeTrait_1 : decode cX4_takeTrait 1 = .ok (.iload_n 1, 1) := by decide +kernel
theorem dX4_takeTrait_2 : decode cX4_takeTrait 2 = .ok (.invokevirtual 38, 3) := by decide +kernel
theorem dX4_takeTrait_5 : decode cX4_takeTrait 5 = .ok (.ifCond .eq 16, 3) := by decide +kernel
theorem dX4_takeTrait_8 : decode cX4_takeTrait 8 = .ok (.aload_n 2, 1) := by decide +kernel
theorem dX4_takeTrait_9 : decode cX4_takeTrait 9 = .ok (.iload_n 3, 1) := by decide +kernel
theorem dX4_takeTrait_10 : decode cX4_takeTrait 10 = .ok (.aload_n 0, 1) := by decide +kernel
theorem dX4_takeTrait_11 : decode cX4_takeTrait 11 = .ok (.iload_n 3, 1) := by decide +kernel
theorem dX4_takeTrait_12 : decode cX4_takeTrait 12 = .ok (.invokestatic 92, 3) := by decide +kernel
theorem dX4_takeTrait_15 : decode cX4_takeTrait 15 = .ok (.invokevirtual 54, 3) := by decide +kernel
theorem dX4_takeTrait_18 : decode cX4_takeTrait 18 = .ok (.invokevirtual 95, 3) := by decide +kernel
theorem dX4_takeTrait_21 : decode cX4_takeTrait 21 = .ok (.return_, 1) := by decide +kernel
theorem dX4_takeNumber_0 : decode cX4_takeNumber 0 = .ok (.aload_n 0, 1) := by decide +kernel
theorem dX4_takeNumber_1 : decode cX4_takeNumber 1 = .ok (.getfield 12, 3) := by decide +kernel
theorem dX4_takeNumber_4 : decode cX4_takeNumber 4 = .ok (.aload_n 0, 1) := by decide +kernel
theorem dX4_takeNumber_5 : decode cX4_takeNumber 5 = .ok (.getfield 18, 3) := by decide +kernel
theorem dX4_takeNumber_8 : decode cX4_takeNumber 8 = .ok (.invokevirtual 99, 3) := by decide +kernel
theorem dX4_takeNumber_11 : decode cX4_takeNumber 11 = .ok (.istore_n 2, 1) := by decide +kernel
theorem dX4_takeNumber_12 : decode cX4_takeNumber 12 = .ok (.aload_n 0, 1) := by decide +kernel
theorem dX4_takeNumber_13 : decode cX4_takeNumber 13 = .ok (.getfield 22, 3) := by decide +kernel
theorem dX4_takeNumber_16 : decode cX4_takeNumber 16 = .ok (.ifCond .ne 24, 3) := by decide +kernel
theorem dX4_takeNumber_19 : decode cX4_takeNumber 19 = .ok (.aload_n 0, 1) := by decide +kernel
theorem dX4_takeNumber_20 : decode cX4_takeNumber 20 = .ok (.getfield 12, 3) := by decide +kernel
theorem dX4_takeNumber_23 : decode cX4_takeNumber 23 = .ok (.aload_n 0, 1) := by decide +kernel
theorem dX4_takeNumber_24 : decode cX4_takeNumber 24 = .ok (.getfield 18, 3) := by decide +kernel
theorem dX4_takeNumber_27 : decode cX4_takeNumber 27 = .ok (.invokevirtual 34, 3) := by decide +kernel
theorem dX4_takeNumber_30 : decode cX4_takeNumber 30 = .ok (.bipush 14, 2) := by decide +kernel
theorem dX4_takeNumber_32 : decode cX4_takeNumber 32 = .ok (.if_icmp .ne 8, 3) := by decide +kernel
theorem dX4_takeNumber_35 : decode cX4_takeNumber 35 = .ok (.iload_n 2, 1) := by decide +kernel
theorem dX4_takeNumber_36 : decode cX4_takeNumber 36 = .ok (.iload_n 1, 1) := by decide +kernel
theorem dX4_takeNumber_37 : decode cX4_takeNumber 37 = .ok (.if_icmp .le 10, 3) := by decide +kernel
theorem dX4_takeNumber_40 : decode cX4_takeNumber 40 = .ok (.aload_n 0, 1) := by decide +kernel
theorem dX4_takeNumber_41 : decode cX4_takeNumber 41 = .ok (.iconst 1, 1) := by decide +kernel
theorem dX4_takeNumber_42 : decode cX4_takeNumber 42 = .ok (.putfield 22, 3) := by decide +kernel
theorem dX4_takeNumber_45 : decode cX4_takeNumber 45 = .ok (.iconst 0, 1) := by decide +kernel
theorem dX4_takeNumber_46 : decode cX4_takeNumber 46 = .ok (.ireturn, 1) := by decide +kernel
theorem dX4_takeNumber_47 : decode cX4_takeNumber 47 = .ok (.aload_n 0, 1) := by decide +kernel
theorem dX4_takeNumber_48 : decode cX4_takeNumber 48 = .ok (.dup, 1) := by decide +kernel
theorem dX4_takeNumber_49 : decode cX4_takeNumber 49 = .ok (.getfield 18, 3) := by decide +kernel
theorem dX4_takeNumber_52 : decode cX4_takeNumber 52 = .ok (.iconst 1, 1) := by decide +kernel
theorem dX4_takeNumber_53 : decode cX4_takeNumber 53 = .ok (.iadd, 1) := by decide +kernel
theorem dX4_takeNumber_54 : decode cX4_takeNumber 54 = .ok (.putfield 18, 3) := by decide +kernel
theorem dX4_takeNumber_57 : decode cX4_takeNumber 57 = .ok (.iload_n 2, 1) := by decide +kernel
theorem dX4_takeNumber_58 : decode cX4_takeNumber 58 = .ok (.ireturn, 1) := by decide +kernel
theorem dX4_takes_0 : decode cX4_takes 0 = .ok (.aload_n 0, 1) := by decide +kernel
theorem dX4_takes_1 : decode cX4_takes 1 = .ok (.getfield 22, 3) := by decide +kernel
theorem dX4_takes_4 : decode cX4_takes 4 = .ok (.ifCond .ne 18, 3) := by decide +kernel
theorem dX4_takes_7 : decode cX4_takes 7 = .ok (.aload_n 0, 1) := by decide +kernel
theorem dX4_takes_8 : decode cX4_takes 8 = .ok (.getfield 12, 3) := by decide +kernel
theorem dX4_takes_11 : decode cX4_takes 11 = .ok (.aload_n 0, 1) := by decide +kernel
theorem dX4_takes_12 : decode cX4_takes 12 = .ok (.getfield 18, 3) := by decide +kernel
theorem dX4_takes_15 : decode cX4_takes 15 = .ok (.invokevirtual 34, 3) := by decide +kernel
theorem dX4_takes_18 : decode cX4_takes 18 = .ok (.iload_n 1, 1) := by decide +kernel
theorem dX4_takes_19 : decode cX4_takes 19 = .ok (.if_icmp .eq 5, 3) := by decide +kernel
theorem dX4_takes_22 : decode cX4_takes 22 = .ok (.iconst 0, 1) := by decide +kernel
theorem dX4_takes_23 : decode cX4_takes 23 = .ok (.ireturn, 1) := by decide +kernel
theorem dX4_takes_24 : decode cX4_takes 24 = .ok (.aload_n 0, 1) := by decide +kernel
theorem dX4_takes_25 : decode cX4_takes 25 = .ok (.dup, 1) := by decide +kernel
theorem dX4_takes_26 : decode cX4_takes 26 = .ok (.getfield 18, 3) := by decide +kernel
theorem dX4_takes_29 : decode cX4_takes 29 = .ok (.iconst 1, 1) := by decide +kernel
theorem dX4_takes_30 : decode cX4_takes 30 = .ok (.iadd, 1) := by decide +kernel
theorem dX4_takes_31 : decode cX4_takes 31 = .ok (.putfield 18, 3) := by decide +kernel
theorem dX4_takes_34 : decode cX4_takes 34 = .ok (.iconst 1, 1) := by decide +kernel
theorem dX4_takes_35 : decode cX4_takes 35 = .ok (.ireturn, 1) := by decide +kernel
theorem dX5_init_0 : decode cX5_init 0 = .ok (.aload_n 0, 1) := by decide +kernel
theorem dX5_init_1 : decode cX5_init 1 = .ok (.invokespecial 3, 3) := by decide +kernel
theorem dX5_init_4 : decode cX5_init 4 = .ok (.aload_n 0, 1) := by decide +kernel
theorem dX5_init_5 : decode cX5_init 5 = .ok (.bipush 121, 2) := by decide +kernel
theorem dX5_init_7 : decode cX5_init 7 = .ok (.newarray .int, 2) := by decide +kernel
theorem dX5_init_9 : decode cX5_init 9 = .ok (.putfield 11, 3) := by decide +kernel
theorem dX5_init_12 : decode cX5_init 12 = .ok (.aload_n 0, 1) := by decide +kernel
theorem dX5_init_13 : decode cX5_init 13 = .ok (.bipush 121, 2) := by decide +kernel
theorem dX5_init_15 : decode cX5_init 15 = .ok (.newarray .int, 2) := by decide +kernel
theorem dX5_init_17 : decode cX5_init 17 = .ok (.putfield 15, 3) := by decide +kernel
theorem dX5_init_20 : decode cX5_init 20 = .ok (.aload_n 0, 1) := by decide +kernel
theorem dX5_init_21 : decode cX5_init 21 = .ok (.bipush 121, 2) := by decide +kernel
theorem dX5_init_23 : decode cX5_init 23 = .ok (.newarray .int, 2) := by decide +kernel
theorem dX5_init_25 : decode cX5_init 25 = .ok (.putfield 18, 3) := by decide +kernel
theorem dX5_init_28 : decode cX5_init 28 = .ok (.aload_n 0, 1) := by decide +kernel
theorem dX5_init_29 : decode cX5_init 29 = .ok (.bipush 121, 2) := by decide +kernel
theorem dX5_init_31 : decode cX5_init 31 = .ok (.newarray .int, 2) := by decide +kernel
theorem dX5_init_33 : decode cX5_init 33 = .ok (.putfield 21, 3) := by decide +kernel
theorem dX5_init_36 : decode cX5_init 36 = .ok (.aload_n 0, 1) := by decide +kernel
theorem dX5_init_37 : decode cX5_init 37 = .ok (.iconst 0, 1) := by decide +kernel
theorem dX5_init_38 : decode cX5_init 38 = .ok (.putfield 24, 3) := by decide +kernel
theorem dX5_init_41 : decode cX5_init 41 = .ok (.return_, 1) := by decide +kernel
theorem dX5_sortAt_0 : decode cX5_sortAt 0 = .ok (.iload_n 1, 1) := by decide +kernel
theorem dX5_sortAt_1 : decode cX5_sortAt 1 = .ok (.ifCond .lt 20, 3) := by decide +kernel
theorem dX5_sortAt_4 : decode cX5_sortAt 4 = .ok (.iload_n 1, 1) := by decide +kernel
theorem dX5_sortAt_5 : decode cX5_sortAt 5 = .ok (.aload_n 0, 1) := by decide +kernel
theorem dX5_sortAt_6 : decode cX5_sortAt 6 = .ok (.getfield 24, 3) := by decide +kernel
theorem dX5_sortAt_9 : decode cX5_sortAt 9 = .ok (.if_icmp .ge 12, 3) := by decide +kernel
theorem dX5_sortAt_12 : decode cX5_sortAt 12 = .ok (.aload_n 0, 1) := by decide +kernel
theorem dX5_sortAt_13 : decode cX5_sortAt 13 = .ok (.getfield 11, 3) := by decide +kernel
theorem dX5_sortAt_16 : decode cX5_sortAt 16 = .ok (.iload_n 1, 1) := by decide +kernel
theorem dX5_sortAt_17 : decode cX5_sortAt 17 = .ok (.iaload, 1) := by decide +kernel
theorem dX5_sortAt_18 : decode cX5_sortAt 18 = .ok (.goto 5, 3) := by decide +kernel
theorem dX5_sortAt_21 : decode cX5_sortAt 21 = .ok (.bipush 17, 2) := by decide +kernel
theorem dX5_sortAt_23 : decode cX5_sortAt 23 = .ok (.ireturn, 1) := by decide +kernel
theorem dX5_startAt_0 : decode cX5_startAt 0 = .ok (.iload_n 1, 1) := by decide +kernel
theorem dX5_startAt_1 : decode cX5_startAt 1 = .ok (.ifCond .lt 20, 3) := by decide +kernel
theorem dX5_startAt_4 : decode cX5_startAt 4 = .ok (.iload_n 1, 1) := by decide +kernel
theorem dX5_startAt_5 : decode cX5_startAt 5 = .ok (.aload_n 0, 1) := by decide +kernel
theorem dX5_startAt_6 : decode cX5_startAt 6 = .ok (.getfield 24, 3) := by decide +kernel
theorem dX5_startAt_9 : decode cX5_startAt 9 = .ok (.if_icmp .ge 12, 3) := by decide +kernel
theorem dX5_startAt_12 : decode cX5_startAt 12 = .ok (.aload_n 0, 1) := by decide +kernel
theorem dX5_startAt_13 : decode cX5_startAt 13 = .ok (.getfield 15, 3) := by decide +kernel
theorem dX5_startAt_16 : decode cX5_startAt 16 = .ok (.iload_n 1, 1) := by decide +kernel
theorem dX5_startAt_17 : decode cX5_startAt 17 = .ok (.iaload, 1) := by decide +kernel
theorem dX5_startAt_18 : decode cX5_startAt 18 = .ok (.goto 4, 3) := by decide +kernel
theorem dX5_startAt_21 : decode cX5_startAt 21 = .ok (.iconst 0, 1) := by decide +kernel
theorem dX5_startAt_22 : decode cX5_startAt 22 = .ok (.ireturn, 1) := by decide +kernel
theorem dX5_numberAt_0 : decode cX5_numberAt 0 = .ok (.iload_n 1, 1) := by decide +kernel
theorem dX5_numberAt_1 : decode cX5_numberAt 1 = .ok (.ifCond .lt 20, 3) := by decide +kernel
theorem dX5_numberAt_4 : decode cX5_numberAt 4 = .ok (.iload_n 1, 1) := by decide +kernel
theorem dX5_numberAt_5 : decode cX5_numberAt 5 = .ok (.aload_n 0, 1) := by decide +kernel
theorem dX5_numberAt_6 : decode cX5_numberAt 6 = .ok (.getfield 24, 3) := by decide +kernel
theorem dX5_numberAt_9 : decode cX5_numberAt 9 = .ok (.if_icmp .ge 12, 3) := by decide +kernel
theorem dX5_numberAt_12 : decode cX5_numberAt 12 = .ok (.aload_n 0, 1) := by decide +kernel
theorem dX5_numberAt_13 : decode cX5_numberAt 13 = .ok (.getfield 21, 3) := by decide +kernel
theorem dX5_numberAt_16 : decode cX5_numberAt 16 = .ok (.iload_n 1, 1) := by decide +kernel
theorem dX5_numberAt_17 : decode cX5_numberAt 17 = .ok (.iaload, 1) := by decide +kernel
theorem dX5_numberAt_18 : decode cX5_numberAt 18 = .ok (.goto 4, 3) := by decide +kernel
theorem dX5_numberAt_21 : decode cX5_numberAt 21 = .ok (.iconst 0, 1) := by decide +kernel
theorem dX5_numberAt_22 : decode cX5_numberAt 22 = .ok (.ireturn, 1) := by decide +kernel
theorem dX5_readFrom_0 : decode cX5_readFrom 0 = .ok (.aload_n 0, 1) := by decide +kernel
theorem dX5_readFrom_1 : decode cX5_readFrom 1 = .ok (.iconst 0, 1) := by decide +kernel
theorem dX5_readFrom_2 : decode cX5_readFrom 2 = .ok (.putfield 24, 3) := by decide +kernel
theorem dX5_readFrom_5 : decode cX5_readFrom 5 = .ok (.bipush 18, 2) := by decide +kernel
theorem dX5_readFrom_7 : decode cX5_readFrom 7 = .ok (.istore_n 2, 1) := by decide +kernel
theorem dX5_readFrom_8 : decode cX5_readFrom 8 = .ok (.iconst 0, 1) := by decide +kernel
theorem dX5_readFrom_9 : decode cX5_readFrom 9 = .ok (.istore_n 3, 1) := by decide +kernel
theorem dX5_readFrom_10 : decode cX5_readFrom 10 = .ok (.iload_n 3, 1) := by decide +kernel
theorem dX5_readFrom_11 : decode cX5_readFrom 11 = .ok (.aload_n 1, 1) := by decide +kernel
theorem dX5_readFrom_12 : decode cX5_readFrom 12 = .ok (.getfield 28, 3) := by decide +kernel
theorem dX5_readFrom_15 : decode cX5_readFrom 15 = .ok (.if_icmp .ge 85, 3) := by decide +kernel
theorem dX5_readFrom_18 : decode cX5_readFrom 18 = .ok (.aload_n 1, 1) := by decide +kernel
theorem dX5_readFrom_19 : decode cX5_readFrom 19 = .ok (.iload_n 3, 1) := by decide +kernel
theorem dX5_readFrom_20 : decode cX5_readFrom 20 = .ok (.invokevirtual 33, 3) := by decide +kernel
theorem dX5_readFrom_23 : decode cX5_readFrom 23 = .ok (.invokestatic 37, 3) := by decide +kernel
theorem dX5_readFrom_26 : decode cX5_readFrom 26 = .ok (.istore 4, 2) := by decide +kernel
theorem dX5_readFrom_28 : decode cX5_readFrom 28 = .ok (.iload 4, 2) := by decide +kernel
theorem dX5_readFrom_30 : decode cX5_readFrom 30 = .ok (.iload_n 2, 1) := by decide +kernel
theorem dX5_readFrom_31 : decode cX5_readFrom 31 = .ok (.if_icmp .ne 21, 3) := by decide +kernel
theorem dX5_readFrom_34 : decode cX5_readFrom 34 = .ok (.iload 4, 2) := by decide +kernel
theorem dX5_readFrom_36 : decode cX5_readFrom 36 = .ok (.bipush 13, 2) := by decide +kernel
theorem dX5_readFrom_38 : decode cX5_readFrom 38 = .ok (.if_icmp .eq 10, 3) := by decide +kernel
theorem dX5_readFrom_41 : decode cX5_readFrom 41 = .ok (.iload 4, 2) := by decide +kernel
theorem dX5_readFrom_43 : decode cX5_readFrom 43 = .ok (.bipush 14, 2) := by decide +kernel
theorem dX5_readFrom_45 : decode cX5_readFrom 45 = .ok (.if_icmp .ne 7, 3) := by decide +kernel
theorem dX5_readFrom_48 : decode cX5_readFrom 48 = .ok (.iconst 1, 1) := by decide +kernel
theorem dX5_readFrom_49 : decode cX5_readFrom 49 = .ok (.goto 4, 3) := by decide +kernel
theorem dX5_readFrom_52 : decode cX5_readFrom 52 = .ok (.iconst 0, 1) := by decide +kernel
theorem dX5_readFrom_53 : decode cX5_readFrom 53 = .ok (.istore 5, 2) := by decide +kernel
theorem dX5_readFrom_55 : decode cX5_readFrom 55 = .ok (.iload 5, 2) := by decide +kernel
theorem dX5_readFrom_57 : decode cX5_readFrom 57 = .ok (.ifCond .ne 17, 3) := by decide +kernel
theorem dX5_readFrom_60 : decode cX5_readFrom 60 = .ok (.iload 4, 2) := by decide +kernel
theorem dX5_readFrom_62 : decode cX5_readFrom 62 = .ok (.bipush 18, 2) := by decide +kernel
theorem dX5_readFrom_64 : decode cX5_readFrom 64 = .ok (.if_icmp .eq 10, 3) := by decide +kernel
theorem dX5_readFrom_67 : decode cX5_readFrom 67 = .ok (.aload_n 0, 1) := by decide +kernel
theorem dX5_readFrom_68 : decode cX5_readFrom 68 = .ok (.iload 4, 2) := by decide +kernel
theorem dX5_readFrom_70 : decode cX5_readFrom 70 = .ok (.iload_n 3, 1) := by decide +kernel
theorem dX5_readFrom_71 : decode cX5_readFrom 71 = .ok (.invokevirtual 40, 3) := by decide +kernel
theorem dX5_readFrom_74 : decode cX5_readFrom 74 = .ok (.iload 4, 2) := by decide +kernel
theorem dX5_readFrom_76 : decode cX5_readFrom 76 = .ok (.bipush 18, 2) := by decide +kernel
theorem dX5_readFrom_78 : decode cX5_readFrom 78 = .ok (.if_icmp .eq 13, 3) := by decide +kernel
theorem dX5_readFrom_81 : decode cX5_readFrom 81 = .ok (.aload_n 0, 1) := by decide +kernel
theorem dX5_readFrom_82 : decode cX5_readFrom 82 = .ok (.aload_n 1, 1) := by decide +kernel
theorem dX5_readFrom_83 : decode cX5_readFrom 83 = .ok (.iload_n 3, 1) := by decide +kernel
theorem dX5_readFrom_84 : decode cX5_readFrom 84 = .ok (.invokevirtual 33, 3) := by decide +kernel
theorem dX5_readFrom_87 : decode cX5_readFrom 87 = .ok (.iload_n 3, 1) := by decide +kernel
theorem dX5_readFrom_88 : decode cX5_readFrom 88 = .ok (.invokevirtual 44, 3) := by decide +kernel
theorem dX5_readFrom_91 : decode cX5_readFrom 91 = .ok (.iload 4, 2) := by decide +kernel
theorem dX5_readFrom_93 : decode cX5_readFrom 93 = .ok (.istore_n 2, 1) := by decide +kernel
theorem dX5_readFrom_94 : decode cX5_readFrom 94 = .ok (.iinc 3 1, 3) := by decide +kernel
theorem dX5_readFrom_97 : decode cX5_readFrom 97 = .ok (.goto (-87), 3) := by decide +kernel
theorem dX5_readFrom_100 : decode cX5_readFrom 100 = .ok (.aload_n 0, 1) := by decide +kernel
theorem dX5_readFrom_101 : decode cX5_readFrom 101 = .ok (.bipush 17, 2) := by decide +kernel
theorem dX5_readFrom_103 : decode cX5_readFrom 103 = .ok (.aload_n 1, 1) := by decide +kernel
theorem dX5_readFrom_104 : decode cX5_readFrom 104 = .ok (.getfield 28, 3) := by decide +kernel
theorem dX5_readFrom_107 : decode cX5_readFrom 107 = .ok (.invokevirtual 40, 3) := by decide +kernel
theorem dX5_readFrom_110 : decode cX5_readFrom 110 = .ok (.aload_n 0, 1) := by decide +kernel
theorem dX5_readFrom_111 : decode cX5_readFrom 111 = .ok (.aload_n 1, 1) := by decide +kernel
theorem dX5_readFrom_112 : decode cX5_readFrom 112 = .ok (.invokevirtual 47, 3) := by decide +kernel
theorem dX5_readFrom_115 : decode cX5_readFrom 115 = .ok (.return_, 1) := by decide +kernel
theorem dX5_sortOf_0 : decode cX5_sortOf 0 = .ok (.iload_n 0, 1) := by decide +kernel
theorem dX5_sortOf_1 : decode cX5_sortOf 1 = .ok (.bipush 97, 2) := by decide +kernel
theorem dX5_sortOf_3 : decode cX5_sortOf 3 = .ok (.if_icmp .lt 12, 3) := by decide +kernel
theorem dX5_sortOf_6 : decode cX5_sortOf 6 = .ok (.iload_n 0, 1) := by decide +kernel
theorem dX5_sortOf_7 : decode cX5_sortOf 7 = .ok (.bipush 122, 2) := by decide +kernel
theorem dX5_sortOf_9 : decode cX5_sortOf 9 = .ok (.if_icmp .gt 6, 3) := by decide +kernel
theorem dX5_sortOf_12 : decode cX5_sortOf 12 = .ok (.bipush 13, 2) := by decide +kernel
theorem dX5_sortOf_14 : decode cX5_sortOf 14 = .ok (.ireturn, 1) := by decide +kernel
theorem dX5_sortOf_15 : decode cX5_sortOf 15 = .ok (.iload_n 0, 1) := by decide +kernel
theorem dX5_sortOf_16 : decode cX5_sortOf 16 = .ok (.bipush 48, 2) := by decide +kernel
theorem dX5_sortOf_18 : decode cX5_sortOf 18 = .ok (.if_icmp .lt 12, 3) := by decide +kernel
theorem dX5_sortOf_21 : decode cX5_sortOf 21 = .ok (.iload_n 0, 1) := by decide +kernel
theorem dX5_sortOf_22 : decode cX5_sortOf 22 = .ok (.bipush 57, 2) := by decide +kernel
theorem dX5_sortOf_24 : decode cX5_sortOf 24 = .ok (.if_icmp .gt 6, 3) := by decide +kernel
theorem dX5_sortOf_27 : decode cX5_sortOf 27 = .ok (.bipush 14, 2) := by decide +kernel
theorem dX5_sortOf_29 : decode cX5_sortOf 29 = .ok (.ireturn, 1) := by decide +kernel
theorem dX5_sortOf_30 : decode cX5_sortOf 30 = .ok (.iload_n 0, 1) := by decide +kernel
theorem dX5_sortOf_31 : decode cX5_sortOf 31 = .ok (.bipush 59, 2) := by decide +kernel
theorem dX5_sortOf_33 : decode cX5_sortOf 33 = .ok (.if_icmp .ne 6, 3) := by decide +kernel
theorem dX5_sortOf_36 : decode cX5_sortOf 36 = .ok (.bipush 15, 2) := by decide +kernel
theorem dX5_sortOf_38 : decode cX5_sortOf 38 = .ok (.ireturn, 1) := by decide +kernel
theorem dX5_sortOf_39 : decode cX5_sortOf 39 = .ok (.iload_n 0, 1) := by decide +kernel
theorem dX5_sortOf_40 : decode cX5_sortOf 40 = .ok (.bipush 32, 2) := by decide +kernel
theorem dX5_sortOf_42 : decode cX5_sortOf 42 = .ok (.if_icmp .ne 8, 3) := by decide +kernel
theorem dX5_sortOf_45 : decode cX5_sortOf 45 = .ok (.bipush 18, 2) := by decide +kernel
theorem dX5_sortOf_47 : decode cX5_sortOf 47 = .ok (.goto 5, 3) := by decide +kernel
theorem dX5_sortOf_50 : decode cX5_sortOf 50 = .ok (.bipush 16, 2) := by decide +kernel
theorem dX5_sortOf_52 : decode cX5_sortOf 52 = .ok (.ireturn, 1) := by decide +kernel
theorem dX5_begin_0 : decode cX5_begin 0 = .ok (.aload_n 0, 1) := by decide +kernel
theorem dX5_begin_1 : decode cX5_begin 1 = .ok (.getfield 24, 3) := by decide +kernel
theorem dX5_begin_4 : decode cX5_begin 4 = .ok (.bipush 121, 2) := by decide +kernel
theorem dX5_begin_6 : decode cX5_begin 6 = .ok (.if_icmp .ge 53, 3) := by decide +kernel
theorem dX5_begin_9 : decode cX5_begin 9 = .ok (.aload_n 0, 1) := by decide +kernel
theorem dX5_begin_10 : decode cX5_begin 10 = .ok (.getfield 11, 3) := by decide +kernel
theorem dX5_begin_13 : decode cX5_begin 13 = .ok (.aload_n 0, 1) := by decide +kernel
theorem dX5_begin_14 : decode cX5_begin 14 = .ok (.getfield 24, 3) := by decide +kernel
theorem dX5_begin_17 : decode cX5_begin 17 = .ok (.iload_n 1, 1) := by decide +kernel
theorem dX5_begin_18 : decode cX5_begin 18 = .ok (.iastore, 1) := by decide +kernel
theorem dX5_begin_19 : decode cX5_begin 19 = .ok (.aload_n 0, 1) := by decide +kernel
theorem dX5_begin_20 : decode cX5_begin 20 = .ok (.getfield 15, 3) := by decide +kernel
theorem dX5_begin_23 : decode cX5_begin 23 = .ok (.aload_n 0, 1) := by decide +kernel
theorem dX5_begin_24 : decode cX5_begin 24 = .ok (.getfield 24, 3) := by decide +kernel
theorem dX5_begin_27 : decode cX5_begin 27 = .ok (.iload_n 2, 1) := by decide +kernel
theorem dX5_begin_28 : decode cX5_begin 28 = .ok (.iastore, 1) := by decide +kernel
theorem dX5_begin_29 : decode cX5_begin 29 = .ok (.aload_n 0, 1) := by decide +kernel
theorem dX5_begin_30 : decode cX5_begin 30 = .ok (.getfield 18, 3) := by decide +kernel
theorem dX5_begin_33 : decode cX5_begin 33 = .ok (.aload_n 0, 1) := by decide +kernel
theorem dX5_begin_34 : decode cX5_begin 34 = .ok (.getfield 24, 3) := by decide +kernel
theorem dX5_begin_37 : decode cX5_begin 37 = .ok (.iload_n 2, 1) := by decide +kernel
theorem dX5_begin_38 : decode cX5_begin 38 = .ok (.iastore, 1) := by decide +kernel
theorem dX5_begin_39 : decode cX5_begin 39 = .ok (.aload_n 0, 1) := by decide +kernel
theorem dX5_begin_40 : decode cX5_begin 40 = .ok (.getfield 21, 3) := by decide +kernel
theorem dX5_begin_43 : decode cX5_begin 43 = .ok (.aload_n 0, 1) := by decide +kernel
theorem dX5_begin_44 : decode cX5_begin 44 = .ok (.getfield 24, 3) := by decide +kernel
theorem dX5_begin_47 : decode cX5_begin 47 = .ok (.iconst 0, 1) := by decide +kernel
theorem dX5_begin_48 : decode cX5_begin 48 = .ok (.iastore, 1) := by decide +kernel
theorem dX5_begin_49 : decode cX5_begin 49 = .ok (.aload_n 0, 1) := by decide +kernel
theorem dX5_begin_50 : decode cX5_begin 50 = .ok (.dup, 1) := by decide +kernel
theorem dX5_begin_51 : decode cX5_begin 51 = .ok (.getfield 24, 3) := by decide +kernel
theorem dX5_begin_54 : decode cX5_begin 54 = .ok (.iconst 1, 1) := by decide +kernel
theorem dX5_begin_55 : decode cX5_begin 55 = .ok (.iadd, 1) := by decide +kernel
theorem dX5_begin_56 : decode cX5_begin 56 = .ok (.putfield 24, 3) := by decide +kernel
theorem dX5_begin_59 : decode cX5_begin 59 = .ok (.return_, 1) := by decide +kernel
theorem dX5_takeUp_0 : decode cX5_takeUp 0 = .ok (.aload_n 0, 1) := by decide +kernel
theorem dX5_takeUp_1 : decode cX5_takeUp 1 = .ok (.getfield 24, 3) := by decide +kernel
theorem dX5_takeUp_4 : decode cX5_takeUp 4 = .ok (.iconst 1, 1) := by decide +kernel
theorem dX5_takeUp_5 : decode cX5_takeUp 5 = .ok (.isub, 1) := by decide +kernel
theorem dX5_takeUp_6 : decode cX5_takeUp 6 = .ok (.istore_n 3, 1) := by decide +kernel
theorem dX5_takeUp_7 : decode cX5_takeUp 7 = .ok (.iload_n 3, 1) := by decide +kernel
theorem dX5_takeUp_8 : decode cX5_takeUp 8 = .ok (.bipush 120, 2) := by decide +kernel
theorem dX5_takeUp_10 : decode cX5_takeUp 10 = .ok (.invokestatic 51, 3) := by decide +kernel
theorem dX5_takeUp_13 : decode cX5_takeUp 13 = .ok (.ifCond .ne 4, 3) := by decide +kernel
theorem dX5_takeUp_16 : decode cX5_takeUp 16 = .ok (.return_, 1) := by decide +kernel
theorem dX5_takeUp_17 : decode cX5_takeUp 17 = .ok (.aload_n 0, 1) := by decide +kernel
theorem dX5_takeUp_18 : decode cX5_takeUp 18 = .ok (.getfield 18, 3) := by decide +kernel
theorem dX5_takeUp_21 : decode cX5_takeUp 21 = .ok (.iload_n 3, 1) := by decide +kernel
theorem dX5_takeUp_22 : decode cX5_takeUp 22 = .ok (.iload_n 2, 1) := by decide +kernel
theorem dX5_takeUp_23 : decode cX5_takeUp 23 = .ok (.iconst 1, 1) := by decide +kernel
theorem dX5_takeUp_24 : decode cX5_takeUp 24 = .ok (.iadd, 1) := by decide +kernel
theorem dX5_takeUp_25 : decode cX5_takeUp 25 = .ok (.iastore, 1) := by decide +kernel
theorem dX5_takeUp_26 : decode cX5_takeUp 26 = .ok (.aload_n 0, 1) := by decide +kernel
theorem dX5_takeUp_27 : decode cX5_takeUp 27 = .ok (.getfield 11, 3) := by decide +kernel
theorem dX5_takeUp_30 : decode cX5_takeUp 30 = .ok (.iload_n 3, 1) := by decide +kernel
theorem dX5_takeUp_31 : decode cX5_takeUp 31 = .ok (.iaload, 1) := by decide +kernel
theorem dX5_takeUp_32 : decode cX5_takeUp 32 = .ok (.bipush 14, 2) := by decide +kernel
theorem dX5_takeUp_34 : decode cX5_takeUp 34 = .ok (.if_icmp .ne 28, 3) := by decide +kernel
theorem dX5_takeUp_37 : decode cX5_takeUp 37 = .ok (.aload_n 0, 1) := by decide +kernel
theorem dX5_takeUp_38 : decode cX5_takeUp 38 = .ok (.getfield 21, 3) := by decide +kernel
theorem dX5_takeUp_41 : decode cX5_takeUp 41 = .ok (.iload_n 3, 1) := by decide +kernel
theorem dX5_takeUp_42 : decode cX5_takeUp 42 = .ok (.ldc 55, 2) := by decide +kernel
theorem dX5_takeUp_44 : decode cX5_takeUp 44 = .ok (.bipush 10, 2) := by decide +kernel
theorem dX5_takeUp_46 : decode cX5_takeUp 46 = .ok (.aload_n 0, 1) := by decide +kernel
theorem dX5_takeUp_47 : decode cX5_takeUp 47 = .ok (.getfield 21, 3) := by decide +kernel
theorem dX5_takeUp_50 : decode cX5_takeUp 50 = .ok (.iload_n 3, 1) := by decide +kernel
theorem dX5_takeUp_51 : decode cX5_takeUp 51 = .ok (.iaload, 1) := by decide +kernel
theorem dX5_takeUp_52 : decode cX5_takeUp 52 = .ok (.imul, 1) := by decide +kernel
theorem dX5_takeUp_53 : decode cX5_takeUp 53 = .ok (.iload_n 1, 1) := by decide +kernel
theorem dX5_takeUp_54 : decode cX5_takeUp 54 = .ok (.iadd, 1) := by decide +kernel
theorem dX5_takeUp_55 : decode cX5_takeUp 55 = .ok (.bipush 48, 2) := by decide +kernel
theorem dX5_takeUp_57 : decode cX5_takeUp 57 = .ok (.isub, 1) := by decide +kernel
theorem dX5_takeUp_58 : decode cX5_takeUp 58 = .ok (.invokestatic 56, 3) := by decide +kernel
theorem dX5_takeUp_61 : decode cX5_takeUp 61 = .ok (.iastore, 1) := by decide +kernel
theorem dX5_takeUp_62 : decode cX5_takeUp 62 = .ok (.return_, 1) := by decide +kernel
theorem dX5_nameWords_0 : decode cX5_nameWords 0 = .ok (.iconst 0, 1) := by decide +kernel
theorem dX5_nameWords_1 : decode cX5_nameWords 1 = .ok (.istore_n 2, 1) := by decide +kernel
theorem dX5_nameWords_2 : decode cX5_nameWords 2 = .ok (.iload_n 2, 1) := by decide +kernel
theorem dX5_nameWords_3 : decode cX5_nameWords 3 = .ok (.aload_n 0, 1) := by decide +kernel
theorem dX5_nameWords_4 : decode cX5_nameWords 4 = .ok (.getfield 24, 3) := by decide +kernel
theorem dX5_nameWords_7 : decode cX5_nameWords 7 = .ok (.if_icmp .ge 64, 3) := by decide +kernel
theorem dX5_nameWords_10 : decode cX5_nameWords 10 = .ok (.iconst 0, 1) := by decide +kernel
theorem dX5_nameWords_11 : decode cX5_nameWords 11 = .ok (.istore_n 3, 1) := by decide +kernel
theorem dX5_nameWords_12 : decode cX5_nameWords 12 = .ok (.iload_n 3, 1) := by decide +kernel
theorem dX5_nameWords_13 : decode cX5_nameWords 13 = .ok (.bipush 13, 2) := by decide +kernel
theorem dX5_nameWords_15 : decode cX5_nameWords 15 = .ok (.if_icmp .ge 50, 3) := by decide +kernel
theorem dX5_nameWords_18 : decode cX5_nameWords 18 = .ok (.aload_n 0, 1) := by decide +kernel
theorem dX5_nameWords_19 : decode cX5_nameWords 19 = .ok (.getfield 11, 3) := by decide +kernel
theorem dX5_nameWords_22 : decode cX5_nameWords 22 = .ok (.iload_n 2, 1) := by decide +kernel
theorem dX5_nameWords_23 : decode cX5_nameWords 23 = .ok (.iaload, 1) := by decide +kernel
theorem dX5_nameWords_24 : decode cX5_nameWords 24 = .ok (.bipush 13, 2) := by decide +kernel
theorem dX5_nameWords_26 : decode cX5_nameWords 26 = .ok (.if_icmp .ne 39, 3) := by decide +kernel
theorem dX5_nameWords_29 : decode cX5_nameWords 29 = .ok (.aload_n 1, 1) := by decide +kernel
theorem dX5_nameWords_30 : decode cX5_nameWords 30 = .ok (.iload_n 3, 1) := by decide +kernel
theorem dX5_nameWords_31 : decode cX5_nameWords 31 = .ok (.invokestatic 62, 3) := by decide +kernel
theorem dX5_nameWords_34 : decode cX5_nameWords 34 = .ok (.aload_n 0, 1) := by decide +kernel
theorem dX5_nameWords_35 : decode cX5_nameWords 35 = .ok (.getfield 15, 3) := by decide +kernel
theorem dX5_nameWords_38 : decode cX5_nameWords 38 = .ok (.iload_n 2, 1) := by decide +kernel
theorem dX5_nameWords_39 : decode cX5_nameWords 39 = .ok (.iaload, 1) := by decide +kernel
theorem dX5_nameWords_40 : decode cX5_nameWords 40 = .ok (.aload_n 0, 1) := by decide +kernel
theorem dX5_nameWords_41 : decode cX5_nameWords 41 = .ok (.getfield 18, 3) := by decide +kernel
theorem dX5_nameWords_44 : decode cX5_nameWords 44 = .ok (.iload_n 2, 1) := by decide +kernel
theorem dX5_nameWords_45 : decode cX5_nameWords 45 = .ok (.iaload, 1) := by decide +kernel
theorem dX5_nameWords_46 : decode cX5_nameWords 46 = .ok (.invokevirtual 66, 3) := by decide +kernel
theorem dX5_nameWords_49 : decode cX5_nameWords 49 = .ok (.ifCond .eq 10, 3) := by decide +kernel
theorem dX5_nameWords_52 : decode cX5_nameWords 52 = .ok (.aload_n 0, 1) := by decide +kernel
theorem dX5_nameWords_53 : decode cX5_nameWords 53 = .ok (.getfield 11, 3) := by decide +kernel
theorem dX5_nameWords_56 : decode cX5_nameWords 56 = .ok (.iload_n 2, 1) := by decide +kernel
theorem dX5_nameWords_57 : decode cX5_nameWords 57 = .ok (.iload_n 3, 1) := by decide +kernel
theorem dX5_nameWords_58 : decode cX5_nameWords 58 = .ok (.iastore, 1) := by decide +kernel
theorem dX5_nameWords_59 : decode cX5_nameWords 59 = .ok (.iinc 3 1, 3) := by decide +kernel
theorem dX5_nameWords_62 : decode cX5_nameWords 62 = .ok (.goto (-50), 3) := by decide +kernel
theorem dX5_nameWords_65 : decode cX5_nameWords 65 = .ok (.iinc 2 1, 3) := by decide +kernel
theorem dX5_nameWords_68 : decode cX5_nameWords 68 = .ok (.goto (-66), 3) := by decide +kernel
theorem dX5_nameWords_71 : decode cX5_nameWords 71 = .ok (.return_, 1) := by decide +kernel
theorem dX5_spellingOf_0 : decode cX5_spellingOf 0 = .ok (.iload_n 0, 1) := by decide +kernel
theorem dX5_spellingOf_1 : decode cX5_spellingOf 1 = .ok (.tableswitch 99 1 12 #[63, 66, 69, 72, 75, 78, 81, 84, 87, 90, 93, 96], 63) := by decide +kernel
theorem dX5_spellingOf_64 : decode cX5_spellingOf 64 = .ok (.ldc 70, 2) := by decide +kernel
theorem dX5_spellingOf_66 : decode cX5_spellingOf 66 = .ok (.areturn, 1) := by decide +kernel
theorem dX5_spellingOf_67 : decode cX5_spellingOf 67 = .ok (.ldc 72, 2) := by decide +kernel
theorem dX5_spellingOf_69 : decode cX5_spellingOf 69 = .ok (.areturn, 1) := by decide +kernel
theorem dX5_spellingOf_70 : decode cX5_spellingOf 70 = .ok (.ldc 74, 2) := by decide +kernel
theorem dX5_spellingOf_72 : decode cX5_spellingOf 72 = .ok (.areturn, 1) := by decide +kernel
theorem dX5_spellingOf_73 : decode cX5_spellingOf 73 = .ok (.ldc 76, 2) := by decide +kernel
theorem dX5_spellingOf_75 : decode cX5_spellingOf 75 = .ok (.areturn, 1) := by decide +kernel
theorem dX5_spellingOf_76 : decode cX5_spellingOf 76 = .ok (.ldc 78, 2) := by decide +kernel
theorem dX5_spellingOf_78 : decode cX5_spellingOf 78 = .ok (.areturn, 1) := by decide +kernel
theorem dX5_spellingOf_79 : decode cX5_spellingOf 79 = .ok (.ldc 80, 2) := by decide +kernel
theorem dX5_spellingOf_81 : decode cX5_spellingOf 81 = .ok (.areturn, 1) := by decide +kernel
theorem dX5_spellingOf_82 : decode cX5_spellingOf 82 = .ok (.ldc 82, 2) := by decide +kernel
theorem dX5_spellingOf_84 : decode cX5_spellingOf 84 = .ok (.areturn, 1) := by decide +kernel
theorem dX5_spellingOf_85 : decode cX5_spellingOf 85 = .ok (.ldc 84, 2) := by decide +kernel
theorem dX5_spellingOf_87 : decode cX5_spellingOf 87 = .ok (.areturn, 1) := by decide +kernel
theorem dX5_spellingOf_88 : decode cX5_spellingOf 88 = .ok (.ldc 86, 2) := by decide +kernel
theorem dX5_spellingOf_90 : decode cX5_spellingOf 90 = .ok (.areturn, 1) := by decide +kernel
theorem dX5_spellingOf_91 : decode cX5_spellingOf 91 = .ok (.ldc 88, 2) := by decide +kernel
theorem dX5_spellingOf_93 : decode cX5_spellingOf 93 = .ok (.areturn, 1) := by decide +kernel
theorem dX5_spellingOf_94 : decode cX5_spellingOf 94 = .ok (.ldc 90, 2) := by decide +kernel
theorem dX5_spellingOf_96 : decode cX5_spellingOf 96 = .ok (.areturn, 1) := by decide +kernel
theorem dX5_spellingOf_97 : decode cX5_spellingOf 97 = .ok (.ldc 92, 2) := by decide +kernel
theorem dX5_spellingOf_99 : decode cX5_spellingOf 99 = .ok (.areturn, 1) := by decide +kernel
theorem dX5_spellingOf_100 : decode cX5_spellingOf 100 = .ok (.ldc 94, 2) := by decide +kernel
theorem dX5_spellingOf_102 : decode cX5_spellingOf 102 = .ok (.areturn, 1) := by decide +kernel
theorem dX6_init_0 : decode cX6_init 0 = .ok (.aload_n 0, 1) := by decide +kernel
theorem dX6_init_1 : decode cX6_init 1 = .ok (.invokespecial 3, 3) := by decide +kernel
theorem dX6_init_4 : decode cX6_init 4 = .ok (.aload_n 0, 1) := by decide +kernel
theorem dX6_init_5 : decode cX6_init 5 = .ok (.new 9, 3) := by decide +kernel
theorem dX6_init_8 : decode cX6_init 8 = .ok (.dup, 1) := by decide +kernel
theorem dX6_init_9 : decode cX6_init 9 = .ok (.invokespecial 11, 3) := by decide +kernel
theorem dX6_init_12 : decode cX6_init 12 = .ok (.putfield 12, 3) := by decide +kernel
theorem dX6_init_15 : decode cX6_init 15 = .ok (.aload_n 0, 1) := by decide +kernel
theorem dX6_init_16 : decode cX6_init 16 = .ok (.new 9, 3) := by decide +kernel
theorem dX6_init_19 : decode cX6_init 19 = .ok (.dup, 1) := by decide +kernel
theorem dX6_init_20 : decode cX6_init 20 = .ok (.invokespecial 11, 3) := by decide +kernel
theorem dX6_init_23 : decode cX6_init 23 = .ok (.putfield 16, 3) := by decide +kernel
theorem dX6_init_26 : decode cX6_init 26 = .ok (.aload_n 0, 1) := by decide +kernel
theorem dX6_init_27 : decode cX6_init 27 = .ok (.new 9, 3) := by decide +kernel
theorem dX6_init_30 : decode cX6_init 30 = .ok (.dup, 1) := by decide +kernel
theorem dX6_init_31 : decode cX6_init 31 = .ok (.invokespecial 11, 3) := by decide +kernel
theorem dX6_init_34 : decode cX6_init 34 = .ok (.putfield 19, 3) := by decide +kernel
theorem dX6_init_37 : decode cX6_init 37 = .ok (.aload_n 0, 1) := by decide +kernel
theorem dX6_init_38 : decode cX6_init 38 = .ok (.iconst 0, 1) := by decide +kernel
theorem dX6_init_39 : decode cX6_init 39 = .ok (.putfield 22, 3) := by decide +kernel
theorem dX6_init_42 : decode cX6_init 42 = .ok (.aload_n 0, 1) := by decide +kernel
theorem dX6_init_43 : decode cX6_init 43 = .ok (.new 26, 3) := by decide +kernel
theorem dX6_init_46 : decode cX6_init 46 = .ok (.dup, 1) := by decide +kernel
theorem dX6_init_47 : decode cX6_init 47 = .ok (.invokespecial 28, 3) := by decide +kernel
theorem dX6_init_50 : decode cX6_init 50 = .ok (.putfield 29, 3) := by decide +kernel
theorem dX6_init_53 : decode cX6_init 53 = .ok (.aload_n 0, 1) := by decide +kernel
theorem dX6_init_54 : decode cX6_init 54 = .ok (.new 33, 3) := by decide +kernel
theorem dX6_init_57 : decode cX6_init 57 = .ok (.dup, 1) := by decide +kernel
theorem dX6_init_58 : decode cX6_init 58 = .ok (.invokespecial 35, 3) := by decide +kernel
theorem dX6_init_61 : decode cX6_init 61 = .ok (.putfield 36, 3) := by decide +kernel
theorem dX6_init_64 : decode cX6_init 64 = .ok (.aload_n 0, 1) := by decide +kernel
theorem dX6_init_65 : decode cX6_init 65 = .ok (.iconst 4, 1) := by decide +kernel
theorem dX6_init_66 : decode cX6_init 66 = .ok (.anewarray 40, 3) := by decide +kernel
theorem dX6_init_69 : decode cX6_init 69 = .ok (.putfield 42, 3) := by decide +kernel
theorem dX6_init_72 : decode cX6_init 72 = .ok (.iconst 0, 1) := by decide +kernel
theorem dX6_init_73 : decode cX6_init 73 = .ok (.istore_n 1, 1) := by decide +kernel
theorem dX6_init_74 : decode cX6_init 74 = .ok (.iload_n 1, 1) := by decide +kernel
theorem dX6_init_75 : decode cX6_init 75 = .ok (.iconst 4, 1) := by decide +kernel
theorem dX6_init_76 : decode cX6_init 76 = .ok (.if_icmp .ge 22, 3) := by decide +kernel
theorem dX6_init_79 : decode cX6_init 79 = .ok (.aload_n 0, 1) := by decide +kernel
theorem dX6_init_80 : decode cX6_init 80 = .ok (.getfield 42, 3) := by decide +kernel
theorem dX6_init_83 : decode cX6_init 83 = .ok (.iload_n 1, 1) := by decide +kernel
theorem dX6_init_84 : decode cX6_init 84 = .ok (.new 40, 3) := by decide +kernel
theorem dX6_init_87 : decode cX6_init 87 = .ok (.dup, 1) := by decide +kernel
theorem dX6_init_88 : decode cX6_init 88 = .ok (.invokespecial 46, 3) := by decide +kernel
theorem dX6_init_91 : decode cX6_init 91 = .ok (.aastore, 1) := by decide +kernel
theorem dX6_init_92 : decode cX6_init 92 = .ok (.iinc 1 1, 3) := by decide +kernel
theorem dX6_init_95 : decode cX6_init 95 = .ok (.goto (-21), 3) := by decide +kernel
theorem dX6_init_98 : decode cX6_init 98 = .ok (.aload_n 0, 1) := by decide +kernel
theorem dX6_init_99 : decode cX6_init 99 = .ok (.bipush 7, 2) := by decide +kernel
theorem dX6_init_101 : decode cX6_init 101 = .ok (.newarray .int, 2) := by decide +kernel
theorem dX6_init_103 : decode cX6_init 103 = .ok (.putfield 47, 3) := by decide +kernel
theorem dX6_init_106 : decode cX6_init 106 = .ok (.return_, 1) := by decide +kernel
theorem dX6_say_0 : decode cX6_say 0 = .ok (.iload_n 1, 1) := by decide +kernel
theorem dX6_say_1 : decode cX6_say 1 = .ok (.iconst 5, 1) := by decide +kernel
theorem dX6_say_2 : decode cX6_say 2 = .ok (.invokestatic 51, 3) := by decide +kernel
theorem dX6_say_5 : decode cX6_say 5 = .ok (.ifCond .eq 10, 3) := by decide +kernel
theorem dX6_say_8 : decode cX6_say 8 = .ok (.iload_n 2, 1) := by decide +kernel
theorem dX6_say_9 : decode cX6_say 9 = .ok (.invokestatic 55, 3) := by decide +kernel
theorem dX6_say_12 : decode cX6_say 12 = .ok (.ifCond .ne 10, 3) := by decide +kernel
theorem dX6_say_15 : decode cX6_say 15 = .ok (.aload_n 0, 1) := by decide +kernel
theorem dX6_say_16 : decode cX6_say 16 = .ok (.ldc 59, 2) := by decide +kernel
theorem dX6_say_18 : decode cX6_say 18 = .ok (.invokevirtual 60, 3) := by decide +kernel
theorem dX6_say_21 : decode cX6_say 21 = .ok (.ireturn, 1) := by decide +kernel
theorem dX6_say_22 : decode cX6_say 22 = .ok (.aload_n 0, 1) := by decide +kernel
theorem dX6_say_23 : decode cX6_say 23 = .ok (.getfield 12, 3) := by decide +kernel
theorem dX6_say_26 : decode cX6_say 26 = .ok (.getfield 64, 3) := by decide +kernel
theorem dX6_say_29 : decode cX6_say 29 = .ok (.iload_n 1, 1) := by decide +kernel
theorem dX6_say_30 : decode cX6_say 30 = .ok (.iaload, 1) := by decide +kernel
theorem dX6_say_31 : decode cX6_say 31 = .ok (.istore_n 3, 1) := by decide +kernel
theorem dX6_say_32 : decode cX6_say 32 = .ok (.aload_n 0, 1) := by decide +kernel
theorem dX6_say_33 : decode cX6_say 33 = .ok (.getfield 12, 3) := by decide +kernel
theorem dX6_say_36 : decode cX6_say 36 = .ok (.getfield 64, 3) := by decide +kernel
theorem dX6_say_39 : decode cX6_say 39 = .ok (.iload_n 1, 1) := by decide +kernel
theorem dX6_say_40 : decode cX6_say 40 = .ok (.iload_n 2, 1) := by decide +kernel
theorem dX6_say_41 : decode cX6_say 41 = .ok (.iastore, 1) := by decide +kernel
theorem dX6_say_42 : decode cX6_say 42 = .ok (.iload_n 3, 1) := by decide +kernel
theorem dX6_say_43 : decode cX6_say 43 = .ok (.ireturn, 1) := by decide +kernel
theorem dX6_said_0 : decode cX6_said 0 = .ok (.iload_n 1, 1) := by decide +kernel
theorem dX6_said_1 : decode cX6_said 1 = .ok (.iconst 5, 1) := by decide +kernel
theorem dX6_said_2 : decode cX6_said 2 = .ok (.invokestatic 51, 3) := by decide +kernel
theorem dX6_said_5 : decode cX6_said 5 = .ok (.ifCond .ne 10, 3) := by decide +kernel
theorem dX6_said_8 : decode cX6_said 8 = .ok (.aload_n 0, 1) := by decide +kernel
theorem dX6_said_9 : decode cX6_said 9 = .ok (.ldc 59, 2) := by decide +kernel
theorem dX6_said_11 : decode cX6_said 11 = .ok (.invokevirtual 60, 3) := by decide +kernel
theorem dX6_said_14 : decode cX6_said 14 = .ok (.ireturn, 1) := by decide +kernel
theorem dX6_said_15 : decode cX6_said 15 = .ok (.aload_n 0, 1) := by decide +kernel
theorem dX6_said_16 : decode cX6_said 16 = .ok (.getfield 12, 3) := by decide +kernel
theorem dX6_said_19 : decode cX6_said 19 = .ok (.getfield 64, 3) := by decide +kernel
theorem dX6_said_22 : decode cX6_said 22 = .ok (.iload_n 1, 1) := by decide +kernel
theorem dX6_said_23 : decode cX6_said 23 = .ok (.iaload, 1) := by decide +kernel
theorem dX6_said_24 : decode cX6_said 24 = .ok (.ireturn, 1) := by decide +kernel
theorem dX6_room_0 : decode cX6_room 0 = .ok (.iload_n 1, 1) := by decide +kernel
theorem dX6_room_1 : decode cX6_room 1 = .ok (.iconst 5, 1) := by decide +kernel
theorem dX6_room_2 : decode cX6_room 2 = .ok (.invokestatic 51, 3) := by decide +kernel
theorem dX6_room_5 : decode cX6_room 5 = .ok (.ifCond .ne 10, 3) := by decide +kernel
theorem dX6_room_8 : decode cX6_room 8 = .ok (.aload_n 0, 1) := by decide +kernel
theorem dX6_room_9 : decode cX6_room 9 = .ok (.ldc 59, 2) := by decide +kernel
theorem dX6_room_11 : decode cX6_room 11 = .ok (.invokevirtual 60, 3) := by decide +kernel
theorem dX6_room_14 : decode cX6_room 14 = .ok (.ireturn, 1) := by decide +kernel
theorem dX6_room_15 : decode cX6_room 15 = .ok (.aload_n 0, 1) := by decide +kernel
theorem dX6_room_16 : decode cX6_room 16 = .ok (.getfield 12, 3) := by decide +kernel
theorem dX6_room_19 : decode cX6_room 19 = .ok (.iload_n 1, 1) := by decide +kernel
theorem dX6_room_20 : decode cX6_room 20 = .ok (.iconst 0, 1) := by decide +kernel
theorem dX6_room_21 : decode cX6_room 21 = .ok (.invokevirtual 67, 3) := by decide +kernel
theorem dX6_room_24 : decode cX6_room 24 = .ok (.istore_n 3, 1) := by decide +kernel
theorem dX6_room_25 : decode cX6_room 25 = .ok (.iload_n 2, 1) := by decide +kernel
theorem dX6_room_26 : decode cX6_room 26 = .ok (.tableswitch 59 0 3 #[30, 32, 41, 50], 30) := by decide +kernel
theorem dX6_room_56 : decode cX6_room 56 = .ok (.iload_n 3, 1) := by decide +kernel
theorem dX6_room_57 : decode cX6_room 57 = .ok (.ireturn, 1) := by decide +kernel
theorem dX6_room_58 : decode cX6_room 58 = .ok (.aload_n 0, 1) := by decide +kernel
theorem dX6_room_59 : decode cX6_room 59 = .ok (.getfield 12, 3) := by decide +kernel
theorem dX6_room_62 : decode cX6_room 62 = .ok (.iload_n 3, 1) := by decide +kernel
theorem dX6_room_63 : decode cX6_room 63 = .ok (.invokevirtual 71, 3) := by decide +kernel
theorem dX6_room_66 : decode cX6_room 66 = .ok (.ireturn, 1) := by decide +kernel
theorem dX6_room_67 : decode cX6_room 67 = .ok (.aload_n 0, 1) := by decide +kernel
theorem dX6_room_68 : decode cX6_room 68 = .ok (.getfield 12, 3) := by decide +kernel
theorem dX6_room_71 : decode cX6_room 71 = .ok (.iload_n 3, 1) := by decide +kernel
theorem dX6_room_72 : decode cX6_room 72 = .ok (.invokevirtual 74, 3) := by decide +kernel
theorem dX6_room_75 : decode cX6_room 75 = .ok (.ireturn, 1) := by decide +kernel
theorem dX6_room_76 : decode cX6_room 76 = .ok (.aload_n 0, 1) := by decide +kernel
theorem dX6_room_77 : decode cX6_room 77 = .ok (.getfield 12, 3) := by decide +kernel
theorem dX6_room_80 : decode cX6_room 80 = .ok (.iload_n 1, 1) := by decide +kernel
theorem dX6_room_81 : decode cX6_room 81 = .ok (.invokevirtual 77, 3) := by decide +kernel
theorem dX6_room_84 : decode cX6_room 84 = .ok (.ireturn, 1) := by decide +kernel
theorem dX6_room_85 : decode cX6_room 85 = .ok (.aload_n 0, 1) := by decide +kernel
theorem dX6_room_86 : decode cX6_room 86 = .ok (.ldc 59, 2) := by decide +kernel
theorem dX6_room_88 : decode cX6_room 88 = .ok (.invokevirtual 60, 3) := by decide +kernel
theorem dX6_room_91 : decode cX6_room 91 = .ok (.ireturn, 1) := by decide +kernel
theorem dX6_glove_0 : decode cX6_glove 0 = .ok (.iload_n 1, 1) := by decide +kernel
theorem dX6_glove_1 : decode cX6_glove 1 = .ok (.bipush 6, 2) := by decide +kernel
theorem dX6_glove_3 : decode cX6_glove 3 = .ok (.invokestatic 51, 3) := by decide +kernel
theorem dX6_glove_6 : decode cX6_glove 6 = .ok (.ifCond .eq 11, 3) := by decide +kernel
theorem dX6_glove_9 : decode cX6_glove 9 = .ok (.iload_n 2, 1) := by decide +kernel
theorem dX6_glove_10 : decode cX6_glove 10 = .ok (.iconst 5, 1) := by decide +kernel
theorem dX6_glove_11 : decode cX6_glove 11 = .ok (.invokestatic 51, 3) := by decide +kernel
theorem dX6_glove_14 : decode cX6_glove 14 = .ok (.ifCond .ne 10, 3) := by decide +kernel
theorem dX6_glove_17 : decode cX6_glove 17 = .ok (.aload_n 0, 1) := by decide +kernel
theorem dX6_glove_18 : decode cX6_glove 18 = .ok (.ldc 59, 2) := by decide +kernel
theorem dX6_glove_20 : decode cX6_glove 20 = .ok (.invokevirtual 60, 3) := by decide +kernel
theorem dX6_glove_23 : decode cX6_glove 23 = .ok (.ireturn, 1) := by decide +kernel
theorem dX6_glove_24 : decode cX6_glove 24 = .ok (.aload_n 0, 1) := by decide +kernel
theorem dX6_glove_25 : decode cX6_glove 25 = .ok (.getfield 12, 3) := by decide +kernel
theorem dX6_glove_28 : decode cX6_glove 28 = .ok (.getfield 80, 3) := by decide +kernel
theorem dX6_glove_31 : decode cX6_glove 31 = .ok (.bipush 8, 2) := by decide +kernel
theorem dX6_glove_33 : decode cX6_glove 33 = .ok (.if_icmp .lt 10, 3) := by decide +kernel
theorem dX6_glove_36 : decode cX6_glove 36 = .ok (.aload_n 0, 1) := by decide +kernel
theorem dX6_glove_37 : decode cX6_glove 37 = .ok (.ldc 84, 2) := by decide +kernel
theorem dX6_glove_39 : decode cX6_glove 39 = .ok (.invokevirtual 60, 3) := by decide +kernel
theorem dX6_glove_42 : decode cX6_glove 42 = .ok (.ireturn, 1) := by decide +kernel
theorem dX6_glove_43 : decode cX6_glove 43 = .ok (.aload_n 0, 1) := by decide +kernel
theorem dX6_glove_44 : decode cX6_glove 44 = .ok (.getfield 12, 3) := by decide +kernel
theorem dX6_glove_47 : decode cX6_glove 47 = .ok (.iload_n 1, 1) := by decide +kernel
theorem dX6_glove_48 : decode cX6_glove 48 = .ok (.iload_n 2, 1) := by decide +kernel
theorem dX6_glove_49 : decode cX6_glove 49 = .ok (.invokevirtual 85, 3) := by decide +kernel
theorem dX6_glove_52 : decode cX6_glove 52 = .ok (.ireturn, 1) := by decide +kernel
theorem dX6_of_0 : decode cX6_of 0 = .ok (.aload_n 0, 1) := by decide +kernel
theorem dX6_of_1 : decode cX6_of 1 = .ok (.getfield 12, 3) := by decide +kernel
theorem dX6_of_4 : decode cX6_of 4 = .ok (.iload_n 1, 1) := by decide +kernel
theorem dX6_of_5 : decode cX6_of 5 = .ok (.invokevirtual 88, 3) := by decide +kernel
theorem dX6_of_8 : decode cX6_of 8 = .ok (.ifCond .eq 12, 3) := by decide +kernel
theorem dX6_of_11 : decode cX6_of 11 = .ok (.iload_n 2, 1) := by decide +kernel
theorem dX6_of_12 : decode cX6_of 12 = .ok (.bipush 10, 2) := by decide +kernel
theorem dX6_of_14 : decode cX6_of 14 = .ok (.invokestatic 51, 3) := by decide +kernel
theorem dX6_of_17 : decode cX6_of 17 = .ok (.ifCond .ne 10, 3) := by decide +kernel
theorem dX6_of_20 : decode cX6_of 20 = .ok (.aload_n 0, 1) := by decide +kernel
theorem dX6_of_21 : decode cX6_of 21 = .ok (.ldc 59, 2) := by decide +kernel
theorem dX6_of_23 : decode cX6_of 23 = .ok (.invokevirtual 60, 3) := by decide +kernel
theorem dX6_of_26 : decode cX6_of 26 = .ok (.ireturn, 1) := by decide +kernel
theorem dX6_of_27 : decode cX6_of 27 = .ok (.iload_n 2, 1) := by decide +kernel
theorem dX6_of_28 : decode cX6_of 28 = .ok (.bipush 7, 2) := by decide +kernel
theorem dX6_of_30 : decode cX6_of 30 = .ok (.if_icmp .ne 14, 3) := by decide +kernel
theorem dX6_of_33 : decode cX6_of 33 = .ok (.aload_n 0, 1) := by decide +kernel
theorem dX6_of_34 : decode cX6_of 34 = .ok (.getfield 12, 3) := by decide +kernel
theorem dX6_of_37 : decode cX6_of 37 = .ok (.iload_n 1, 1) := by decide +kernel
theorem dX6_of_38 : decode cX6_of 38 = .ok (.invokevirtual 93, 3) := by decide +kernel
theorem dX6_of_41 : decode cX6_of 41 = .ok (.goto 16, 3) := by decide +kernel
theorem dX6_of_44 : decode cX6_of 44 = .ok (.aload_n 0, 1) := by decide +kernel
theorem dX6_of_45 : decode cX6_of 45 = .ok (.getfield 12, 3) := by decide +kernel
theorem dX6_of_48 : decode cX6_of 48 = .ok (.getfield 96, 3) := by decide +kernel
theorem dX6_of_51 : decode cX6_of 51 = .ok (.iload_n 1, 1) := by decide +kernel
theorem dX6_of_52 : decode cX6_of 52 = .ok (.aaload, 1) := by decide +kernel
theorem dX6_of_53 : decode cX6_of 53 = .ok (.iload_n 2, 1) := by decide +kernel
theorem dX6_of_54 : decode cX6_of 54 = .ok (.invokevirtual 100, 3) := by decide +kernel
theorem dX6_of_57 : decode cX6_of 57 = .ok (.ireturn, 1) := by decide +kernel
theorem dX6_change_0 : decode cX6_change 0 = .ok (.aload_n 0, 1) := by decide +kernel
theorem dX6_change_1 : decode cX6_change 1 = .ok (.getfield 12, 3) := by decide +kernel
theorem dX6_change_4 : decode cX6_change 4 = .ok (.iload_n 1, 1) := by decide +kernel
theorem dX6_change_5 : decode cX6_change 5 = .ok (.invokevirtual 88, 3) := by decide +kernel
theorem dX6_change_8 : decode cX6_change 8 = .ok (.ifCond .eq 14, 3) := by decide +kernel
theorem dX6_change_11 : decode cX6_change 11 = .ok (.iload_n 3, 1) := by decide +kernel
theorem dX6_change_12 : decode cX6_change 12 = .ok (.iload_n 2, 1) := by decide +kernel
theorem dX6_change_13 : decode cX6_change 13 = .ok (.invokestatic 103, 3) := by decide +kernel
theorem dX6_change_16 : decode cX6_change 16 = .ok (.invokestatic 51, 3) := by decide +kernel
theorem dX6_change_19 : decode cX6_change 19 = .ok (.ifCond .ne 10, 3) := by decide +kernel
theorem dX6_change_22 : decode cX6_change 22 = .ok (.aload_n 0, 1) := by decide +kernel
theorem dX6_change_23 : decode cX6_change 23 = .ok (.ldc 59, 2) := by decide +kernel
theorem dX6_change_25 : decode cX6_change 25 = .ok (.invokevirtual 60, 3) := by decide +kernel
theorem dX6_change_28 : decode cX6_change 28 = .ok (.ireturn, 1) := by decide +kernel
theorem dX6_change_29 : decode cX6_change 29 = .ok (.aload_n 0, 1) := by decide +kernel
theorem dX6_change_30 : decode cX6_change 30 = .ok (.getfield 12, 3) := by decide +kernel
theorem dX6_change_33 : decode cX6_change 33 = .ok (.getfield 96, 3) := by decide +kernel
theorem dX6_change_36 : decode cX6_change 36 = .ok (.iload_n 1, 1) := by decide +kernel
theorem dX6_change_37 : decode cX6_change 37 = .ok (.aaload, 1) := by decide +kernel
theorem dX6_change_38 : decode cX6_change 38 = .ok (.astore 4, 2) := by decide +kernel
theorem dX6_change_40 : decode cX6_change 40 = .ok (.aload 4, 2) := by decide +kernel
theorem dX6_change_42 : decode cX6_change 42 = .ok (.iload_n 2, 1) := by decide +kernel
theorem dX6_change_43 : decode cX6_change 43 = .ok (.invokevirtual 100, 3) := by decide +kernel
theorem dX6_change_46 : decode cX6_change 46 = .ok (.istore 5, 2) := by decide +kernel
theorem dX6_change_48 : decode cX6_change 48 = .ok (.aload 4, 2) := by decide +kernel
theorem dX6_change_50 : decode cX6_change 50 = .ok (.iload_n 2, 1) := by decide +kernel
theorem dX6_change_51 : decode cX6_change 51 = .ok (.iload_n 3, 1) := by decide +kernel
theorem dX6_change_52 : decode cX6_change 52 = .ok (.invokevirtual 106, 3) := by decide +kernel
theorem dX6_change_55 : decode cX6_change 55 = .ok (.iload 5, 2) := by decide +kernel
theorem dX6_change_57 : decode cX6_change 57 = .ok (.ireturn, 1) := by decide +kernel
theorem dX6_draw_0 : decode cX6_draw 0 = .ok (.aload_n 0, 1) := by decide +kernel
theorem dX6_draw_1 : decode cX6_draw 1 = .ok (.getfield 12, 3) := by decide +kernel
theorem dX6_draw_4 : decode cX6_draw 4 = .ok (.iload_n 1, 1) := by decide +kernel
theorem dX6_draw_5 : decode cX6_draw 5 = .ok (.invokevirtual 88, 3) := by decide +kernel
theorem dX6_draw_8 : decode cX6_draw 8 = .ok (.ifCond .ne 10, 3) := by decide +kernel
theorem dX6_draw_11 : decode cX6_draw 11 = .ok (.aload_n 0, 1) := by decide +kernel
theorem dX6_draw_12 : decode cX6_draw 12 = .ok (.ldc 59, 2) := by decide +kernel
theorem dX6_draw_14 : decode cX6_draw 14 = .ok (.invokevirtual 60, 3) := by decide +kernel
theorem dX6_draw_17 : decode cX6_draw 17 = .ok (.ireturn, 1) := by decide +kernel
theorem dX6_draw_18 : decode cX6_draw 18 = .ok (.aload_n 0, 1) := by decide +kernel
theorem dX6_draw_19 : decode cX6_draw 19 = .ok (.getfield 12, 3) := by decide +kernel
theorem dX6_draw_22 : decode cX6_draw 22 = .ok (.getfield 96, 3) := by decide +kernel
theorem dX6_draw_25 : decode cX6_draw 25 = .ok (.iload_n 1, 1) := by decide +kernel
theorem dX6_draw_26 : decode cX6_draw 26 = .ok (.aaload, 1) := by decide +kernel
theorem dX6_draw_27 : decode cX6_draw 27 = .ok (.astore_n 2, 1) := by decide +kernel
theorem dX6_draw_28 : decode cX6_draw 28 = .ok (.aload_n 2, 1) := by decide +kernel
theorem dX6_draw_29 : decode cX6_draw 29 = .ok (.invokevirtual 110, 3) := by decide +kernel
theorem dX6_draw_32 : decode cX6_draw 32 = .ok (.ifCond .ne 10, 3) := by decide +kernel
theorem dX6_draw_35 : decode cX6_draw 35 = .ok (.aload_n 0, 1) := by decide +kernel
theorem dX6_draw_36 : decode cX6_draw 36 = .ok (.ldc 114, 2) := by decide +kernel
theorem dX6_draw_38 : decode cX6_draw 38 = .ok (.invokevirtual 60, 3) := by decide +kernel
theorem dX6_draw_41 : decode cX6_draw 41 = .ok (.ireturn, 1) := by decide +kernel
theorem dX6_draw_42 : decode cX6_draw 42 = .ok (.aload_n 2, 1) := by decide +kernel
theorem dX6_draw_43 : decode cX6_draw 43 = .ok (.invokevirtual 115, 3) := by decide +kernel
theorem dX6_draw_46 : decode cX6_draw 46 = .ok (.aload_n 2, 1) := by decide +kernel
theorem dX6_draw_47 : decode cX6_draw 47 = .ok (.getfield 118, 3) := by decide +kernel
theorem dX6_draw_50 : decode cX6_draw 50 = .ok (.ireturn, 1) := by decide +kernel
theorem dX6_who_0 : decode cX6_who 0 = .ok (.iload_n 1, 1) := by decide +kernel
theorem dX6_who_1 : decode cX6_who 1 = .ok (.bipush 15, 2) := by decide +kernel
theorem dX6_who_3 : decode cX6_who 3 = .ok (.invokestatic 51, 3) := by decide +kernel
theorem dX6_who_6 : decode cX6_who 6 = .ok (.ifCond .eq 11, 3) := by decide +kernel
theorem dX6_who_9 : decode cX6_who 9 = .ok (.iload_n 2, 1) := by decide +kernel
theorem dX6_who_10 : decode cX6_who 10 = .ok (.iconst 1, 1) := by decide +kernel
theorem dX6_who_11 : decode cX6_who 11 = .ok (.invokestatic 51, 3) := by decide +kernel
theorem dX6_who_14 : decode cX6_who 14 = .ok (.ifCond .ne 10, 3) := by decide +kernel
theorem dX6_who_17 : decode cX6_who 17 = .ok (.aload_n 0, 1) := by decide +kernel
theorem dX6_who_18 : decode cX6_who 18 = .ok (.ldc 59, 2) := by decide +kernel
theorem dX6_who_20 : decode cX6_who 20 = .ok (.invokevirtual 60, 3) := by decide +kernel
theorem dX6_who_23 : decode cX6_who 23 = .ok (.ireturn, 1) := by decide +kernel
theorem dX6_who_24 : decode cX6_who 24 = .ok (.aload_n 0, 1) := by decide +kernel
theorem dX6_who_25 : decode cX6_who 25 = .ok (.getfield 12, 3) := by decide +kernel
theorem dX6_who_28 : decode cX6_who 28 = .ok (.iload_n 1, 1) := by decide +kernel
theorem dX6_who_29 : decode cX6_who 29 = .ok (.iload_n 2, 1) := by decide +kernel
theorem dX6_who_30 : decode cX6_who 30 = .ok (.iconst 1, 1) := by decide +kernel
theorem dX6_who_31 : decode cX6_who 31 = .ok (.if_icmp .ne 7, 3) := by decide +kernel
theorem dX6_who_34 : decode cX6_who 34 = .ok (.iconst 1, 1) := by decide +kernel
theorem dX6_who_35 : decode cX6_who 35 = .ok (.goto 4, 3) := by decide +kernel
theorem dX6_who_38 : decode cX6_who 38 = .ok (.iconst 0, 1) := by decide +kernel
theorem dX6_who_39 : decode cX6_who 39 = .ok (.invokevirtual 121, 3) := by decide +kernel
theorem dX6_who_42 : decode cX6_who 42 = .ok (.ireturn, 1) := by decide +kernel
theorem dX6_go_0 : decode cX6_go 0 = .ok (.iload_n 1, 1) := by decide +kernel
theorem dX6_go_1 : decode cX6_go 1 = .ok (.iconst 1, 1) := by decide +kernel
theorem dX6_go_2 : decode cX6_go 2 = .ok (.if_icmp .lt 9, 3) := by decide +kernel
theorem dX6_go_5 : decode cX6_go 5 = .ok (.iload_n 1, 1) := by decide +kernel
theorem dX6_go_6 : decode cX6_go 6 = .ok (.bipush 60, 2) := by decide +kernel
theorem dX6_go_8 : decode cX6_go 8 = .ok (.if_icmp .le 10, 3) := by decide +kernel
theorem dX6_go_11 : decode cX6_go 11 = .ok (.aload_n 0, 1) := by decide +kernel
theorem dX6_go_12 : decode cX6_go 12 = .ok (.ldc 59, 2) := by decide +kernel
theorem dX6_go_14 : decode cX6_go 14 = .ok (.invokevirtual 60, 3) := by decide +kernel
theorem dX6_go_17 : decode cX6_go 17 = .ok (.ireturn, 1) := by decide +kernel
theorem dX6_go_18 : decode cX6_go 18 = .ok (.aload_n 0, 1) := by decide +kernel
theorem dX6_go_19 : decode cX6_go 19 = .ok (.getfield 12, 3) := by decide +kernel
theorem dX6_go_22 : decode cX6_go 22 = .ok (.getfield 125, 3) := by decide +kernel
theorem dX6_go_25 : decode cX6_go 25 = .ok (.iload_n 1, 1) := by decide +kernel
theorem dX6_go_26 : decode cX6_go 26 = .ok (.iadd, 1) := by decide +kernel
theorem dX6_go_27 : decode cX6_go 27 = .ok (.ldc 128, 2) := by decide +kernel
theorem dX6_go_29 : decode cX6_go 29 = .ok (.if_icmp .le 10, 3) := by decide +kernel
theorem dX6_go_32 : decode cX6_go 32 = .ok (.aload_n 0, 1) := by decide +kernel
theorem dX6_go_33 : decode cX6_go 33 = .ok (.ldc 114, 2) := by decide +kernel
end
section
theorem dX6_go_35 : decode cX6_go 35 = .ok (.invokevirtual 60, 3) := by decide +kernel
theorem dX6_go_38 : decode cX6_go 38 = .ok (.ireturn, 1) := by decide +kernel
theorem dX6_go_39 : decode cX6_go 39 = .ok (.aload_n 0, 1) := by decide +kernel
theorem dX6_go_40 : decode cX6_go 40 = .ok (.getfield 12, 3) := by decide +kernel
theorem dX6_go_43 : decode cX6_go 43 = .ok (.iload_n 1, 1) := by decide +kernel
theorem dX6_go_44 : decode cX6_go 44 = .ok (.iconst 0, 1) := by decide +kernel
theorem dX6_go_45 : decode cX6_go 45 = .ok (.invokevirtual 129, 3) := by decide +kernel
theorem dX6_go_48 : decode cX6_go 48 = .ok (.aload_n 0, 1) := by decide +kernel
theorem dX6_go_49 : decode cX6_go 49 = .ok (.getfield 12, 3) := by decide +kernel
theorem dX6_go_52 : decode cX6_go 52 = .ok (.invokevirtual 132, 3) := by decide +kernel
theorem dX6_go_55 : decode cX6_go 55 = .ok (.ireturn, 1) := by decide +kernel
theorem dX6_now_0 : decode cX6_now 0 = .ok (.iload_n 1, 1) := by decide +kernel
theorem dX6_now_1 : decode cX6_now 1 = .ok (.tableswitch 120 0 6 #[43, 51, 59, 67, 80, 88, 96], 43) := by decide +kernel
theorem dX6_now_44 : decode cX6_now 44 = .ok (.aload_n 0, 1) := by decide +kernel
theorem dX6_now_45 : decode cX6_now 45 = .ok (.getfield 12, 3) := by decide +kernel
theorem dX6_now_48 : decode cX6_now 48 = .ok (.getfield 125, 3) := by decide +kernel
theorem dX6_now_51 : decode cX6_now 51 = .ok (.ireturn, 1) := by decide +kernel
theorem dX6_now_52 : decode cX6_now 52 = .ok (.aload_n 0, 1) := by decide +kernel
theorem dX6_now_53 : decode cX6_now 53 = .ok (.getfield 12, 3) := by decide +kernel
theorem dX6_now_56 : decode cX6_now 56 = .ok (.invokevirtual 132, 3) := by decide +kernel
theorem dX6_now_59 : decode cX6_now 59 = .ok (.ireturn, 1) := by decide +kernel
theorem dX6_now_60 : decode cX6_now 60 = .ok (.aload_n 0, 1) := by decide +kernel
theorem dX6_now_61 : decode cX6_now 61 = .ok (.getfield 12, 3) := by decide +kernel
theorem dX6_now_64 : decode cX6_now 64 = .ok (.invokevirtual 135, 3) := by decide +kernel
theorem dX6_now_67 : decode cX6_now 67 = .ok (.ireturn, 1) := by decide +kernel
theorem dX6_now_68 : decode cX6_now 68 = .ok (.ldc 138, 2) := by decide +kernel
theorem dX6_now_70 : decode cX6_now 70 = .ok (.aload_n 0, 1) := by decide +kernel
theorem dX6_now_71 : decode cX6_now 71 = .ok (.getfield 12, 3) := by decide +kernel
theorem dX6_now_74 : decode cX6_now 74 = .ok (.invokevirtual 139, 3) := by decide +kernel
theorem dX6_now_77 : decode cX6_now 77 = .ok (.iconst (-1), 1) := by decide +kernel
theorem dX6_now_78 : decode cX6_now 78 = .ok (.ixor, 1) := by decide +kernel
theorem dX6_now_79 : decode cX6_now 79 = .ok (.iand, 1) := by decide +kernel
theorem dX6_now_80 : decode cX6_now 80 = .ok (.ireturn, 1) := by decide +kernel
theorem dX6_now_81 : decode cX6_now 81 = .ok (.aload_n 0, 1) := by decide +kernel
theorem dX6_now_82 : decode cX6_now 82 = .ok (.getfield 12, 3) := by decide +kernel
theorem dX6_now_85 : decode cX6_now 85 = .ok (.invokevirtual 142, 3) := by decide +kernel
theorem dX6_now_88 : decode cX6_now 88 = .ok (.ireturn, 1) := by decide +kernel
theorem dX6_now_89 : decode cX6_now 89 = .ok (.aload_n 0, 1) := by decide +kernel
theorem dX6_now_90 : decode cX6_now 90 = .ok (.getfield 12, 3) := by decide +kernel
theorem dX6_now_93 : decode cX6_now 93 = .ok (.invokevirtual 145, 3) := by decide +kernel
theorem dX6_now_96 : decode cX6_now 96 = .ok (.ireturn, 1) := by decide +kernel
theorem dX6_now_97 : decode cX6_now 97 = .ok (.aload_n 0, 1) := by decide +kernel
theorem dX6_now_98 : decode cX6_now 98 = .ok (.getfield 12, 3) := by decide +kernel
theorem dX6_now_101 : decode cX6_now 101 = .ok (.aload_n 0, 1) := by decide +kernel
theorem dX6_now_102 : decode cX6_now 102 = .ok (.getfield 12, 3) := by decide +kernel
theorem dX6_now_105 : decode cX6_now 105 = .ok (.getfield 64, 3) := by decide +kernel
theorem dX6_now_108 : decode cX6_now 108 = .ok (.aload_n 0, 1) := by decide +kernel
theorem dX6_now_109 : decode cX6_now 109 = .ok (.getfield 12, 3) := by decide +kernel
theorem dX6_now_112 : decode cX6_now 112 = .ok (.invokevirtual 148, 3) := by decide +kernel
theorem dX6_now_115 : decode cX6_now 115 = .ok (.iaload, 1) := by decide +kernel
theorem dX6_now_116 : decode cX6_now 116 = .ok (.iconst 0, 1) := by decide +kernel
theorem dX6_now_117 : decode cX6_now 117 = .ok (.invokevirtual 151, 3) := by decide +kernel
theorem dX6_now_120 : decode cX6_now 120 = .ok (.ireturn, 1) := by decide +kernel
theorem dX6_now_121 : decode cX6_now 121 = .ok (.aload_n 0, 1) := by decide +kernel
theorem dX6_now_122 : decode cX6_now 122 = .ok (.ldc 59, 2) := by decide +kernel
theorem dX6_now_124 : decode cX6_now 124 = .ok (.invokevirtual 60, 3) := by decide +kernel
theorem dX6_now_127 : decode cX6_now 127 = .ok (.ireturn, 1) := by decide +kernel
theorem dX6_ahead_0 : decode cX6_ahead 0 = .ok (.aload_n 0, 1) := by decide +kernel
theorem dX6_ahead_1 : decode cX6_ahead 1 = .ok (.getfield 12, 3) := by decide +kernel
theorem dX6_ahead_4 : decode cX6_ahead 4 = .ok (.iload_n 1, 1) := by decide +kernel
theorem dX6_ahead_5 : decode cX6_ahead 5 = .ok (.invokevirtual 88, 3) := by decide +kernel
theorem dX6_ahead_8 : decode cX6_ahead 8 = .ok (.ifCond .eq 19, 3) := by decide +kernel
theorem dX6_ahead_11 : decode cX6_ahead 11 = .ok (.iload_n 2, 1) := by decide +kernel
theorem dX6_ahead_12 : decode cX6_ahead 12 = .ok (.invokestatic 154, 3) := by decide +kernel
theorem dX6_ahead_15 : decode cX6_ahead 15 = .ok (.ifCond .eq 12, 3) := by decide +kernel
theorem dX6_ahead_18 : decode cX6_ahead 18 = .ok (.iload_n 3, 1) := by decide +kernel
theorem dX6_ahead_19 : decode cX6_ahead 19 = .ok (.bipush 100, 2) := by decide +kernel
theorem dX6_ahead_21 : decode cX6_ahead 21 = .ok (.invokestatic 51, 3) := by decide +kernel
theorem dX6_ahead_24 : decode cX6_ahead 24 = .ok (.ifCond .ne 10, 3) := by decide +kernel
theorem dX6_ahead_27 : decode cX6_ahead 27 = .ok (.aload_n 0, 1) := by decide +kernel
theorem dX6_ahead_28 : decode cX6_ahead 28 = .ok (.ldc 59, 2) := by decide +kernel
theorem dX6_ahead_30 : decode cX6_ahead 30 = .ok (.invokevirtual 60, 3) := by decide +kernel
theorem dX6_ahead_33 : decode cX6_ahead 33 = .ok (.ireturn, 1) := by decide +kernel
theorem dX6_ahead_34 : decode cX6_ahead 34 = .ok (.aload_n 0, 1) := by decide +kernel
theorem dX6_ahead_35 : decode cX6_ahead 35 = .ok (.getfield 19, 3) := by decide +kernel
theorem dX6_ahead_38 : decode cX6_ahead 38 = .ok (.aload_n 0, 1) := by decide +kernel
theorem dX6_ahead_39 : decode cX6_ahead 39 = .ok (.getfield 12, 3) := by decide +kernel
theorem dX6_ahead_42 : decode cX6_ahead 42 = .ok (.invokevirtual 157, 3) := by decide +kernel
theorem dX6_ahead_45 : decode cX6_ahead 45 = .ok (.aload_n 0, 1) := by decide +kernel
theorem dX6_ahead_46 : decode cX6_ahead 46 = .ok (.getfield 19, 3) := by decide +kernel
theorem dX6_ahead_49 : decode cX6_ahead 49 = .ok (.iload_n 3, 1) := by decide +kernel
theorem dX6_ahead_50 : decode cX6_ahead 50 = .ok (.iconst 0, 1) := by decide +kernel
theorem dX6_ahead_51 : decode cX6_ahead 51 = .ok (.invokevirtual 129, 3) := by decide +kernel
theorem dX6_ahead_54 : decode cX6_ahead 54 = .ok (.aload_n 0, 1) := by decide +kernel
theorem dX6_ahead_55 : decode cX6_ahead 55 = .ok (.getfield 19, 3) := by decide +kernel
theorem dX6_ahead_58 : decode cX6_ahead 58 = .ok (.getfield 96, 3) := by decide +kernel
theorem dX6_ahead_61 : decode cX6_ahead 61 = .ok (.iload_n 1, 1) := by decide +kernel
theorem dX6_ahead_62 : decode cX6_ahead 62 = .ok (.aaload, 1) := by decide +kernel
theorem dX6_ahead_63 : decode cX6_ahead 63 = .ok (.iload_n 2, 1) := by decide +kernel
theorem dX6_ahead_64 : decode cX6_ahead 64 = .ok (.invokevirtual 100, 3) := by decide +kernel
theorem dX6_ahead_67 : decode cX6_ahead 67 = .ok (.ireturn, 1) := by decide +kernel
theorem dX6_hears_0 : decode cX6_hears 0 = .ok (.aload_n 0, 1) := by decide +kernel
theorem dX6_hears_1 : decode cX6_hears 1 = .ok (.getfield 12, 3) := by decide +kernel
theorem dX6_hears_4 : decode cX6_hears 4 = .ok (.iload_n 1, 1) := by decide +kernel
theorem dX6_hears_5 : decode cX6_hears 5 = .ok (.invokevirtual 88, 3) := by decide +kernel
theorem dX6_hears_8 : decode cX6_hears 8 = .ok (.ifCond .eq 12, 3) := by decide +kernel
theorem dX6_hears_11 : decode cX6_hears 11 = .ok (.iload_n 2, 1) := by decide +kernel
theorem dX6_hears_12 : decode cX6_hears 12 = .ok (.bipush 15, 2) := by decide +kernel
theorem dX6_hears_14 : decode cX6_hears 14 = .ok (.invokestatic 51, 3) := by decide +kernel
theorem dX6_hears_17 : decode cX6_hears 17 = .ok (.ifCond .ne 10, 3) := by decide +kernel
theorem dX6_hears_20 : decode cX6_hears 20 = .ok (.aload_n 0, 1) := by decide +kernel
theorem dX6_hears_21 : decode cX6_hears 21 = .ok (.ldc 59, 2) := by decide +kernel
theorem dX6_hears_23 : decode cX6_hears 23 = .ok (.invokevirtual 60, 3) := by decide +kernel
theorem dX6_hears_26 : decode cX6_hears 26 = .ok (.ireturn, 1) := by decide +kernel
theorem dX6_hears_27 : decode cX6_hears 27 = .ok (.aload_n 0, 1) := by decide +kernel
theorem dX6_hears_28 : decode cX6_hears 28 = .ok (.iconst 0, 1) := by decide +kernel
theorem dX6_hears_29 : decode cX6_hears 29 = .ok (.iload_n 1, 1) := by decide +kernel
theorem dX6_hears_30 : decode cX6_hears 30 = .ok (.iload_n 2, 1) := by decide +kernel
theorem dX6_hears_31 : decode cX6_hears 31 = .ok (.invokevirtual 161, 3) := by decide +kernel
theorem dX6_hears_34 : decode cX6_hears 34 = .ok (.ireturn, 1) := by decide +kernel
theorem dX6_wise_0 : decode cX6_wise 0 = .ok (.aload_n 0, 1) := by decide +kernel
theorem dX6_wise_1 : decode cX6_wise 1 = .ok (.getfield 12, 3) := by decide +kernel
theorem dX6_wise_4 : decode cX6_wise 4 = .ok (.iload_n 1, 1) := by decide +kernel
theorem dX6_wise_5 : decode cX6_wise 5 = .ok (.invokevirtual 88, 3) := by decide +kernel
theorem dX6_wise_8 : decode cX6_wise 8 = .ok (.ifCond .eq 12, 3) := by decide +kernel
theorem dX6_wise_11 : decode cX6_wise 11 = .ok (.iload_n 2, 1) := by decide +kernel
theorem dX6_wise_12 : decode cX6_wise 12 = .ok (.bipush 16, 2) := by decide +kernel
theorem dX6_wise_14 : decode cX6_wise 14 = .ok (.invokestatic 51, 3) := by decide +kernel
theorem dX6_wise_17 : decode cX6_wise 17 = .ok (.ifCond .ne 10, 3) := by decide +kernel
theorem dX6_wise_20 : decode cX6_wise 20 = .ok (.aload_n 0, 1) := by decide +kernel
theorem dX6_wise_21 : decode cX6_wise 21 = .ok (.ldc 59, 2) := by decide +kernel
theorem dX6_wise_23 : decode cX6_wise 23 = .ok (.invokevirtual 60, 3) := by decide +kernel
theorem dX6_wise_26 : decode cX6_wise 26 = .ok (.ireturn, 1) := by decide +kernel
theorem dX6_wise_27 : decode cX6_wise 27 = .ok (.aload_n 0, 1) := by decide +kernel
theorem dX6_wise_28 : decode cX6_wise 28 = .ok (.iconst 1, 1) := by decide +kernel
theorem dX6_wise_29 : decode cX6_wise 29 = .ok (.iload_n 1, 1) := by decide +kernel
theorem dX6_wise_30 : decode cX6_wise 30 = .ok (.iload_n 2, 1) := by decide +kernel
theorem dX6_wise_31 : decode cX6_wise 31 = .ok (.invokevirtual 161, 3) := by decide +kernel
theorem dX6_wise_34 : decode cX6_wise 34 = .ok (.ireturn, 1) := by decide +kernel
theorem dX6_out_0 : decode cX6_out 0 = .ok (.iload_n 1, 1) := by decide +kernel
theorem dX6_out_1 : decode cX6_out 1 = .ok (.ldc 138, 2) := by decide +kernel
theorem dX6_out_3 : decode cX6_out 3 = .ok (.invokestatic 51, 3) := by decide +kernel
theorem dX6_out_6 : decode cX6_out 6 = .ok (.ifCond .ne 10, 3) := by decide +kernel
theorem dX6_out_9 : decode cX6_out 9 = .ok (.aload_n 0, 1) := by decide +kernel
theorem dX6_out_10 : decode cX6_out 10 = .ok (.ldc 59, 2) := by decide +kernel
theorem dX6_out_12 : decode cX6_out 12 = .ok (.invokevirtual 60, 3) := by decide +kernel
theorem dX6_out_15 : decode cX6_out 15 = .ok (.ireturn, 1) := by decide +kernel
theorem dX6_out_16 : decode cX6_out 16 = .ok (.aload_n 0, 1) := by decide +kernel
theorem dX6_out_17 : decode cX6_out 17 = .ok (.iconst 2, 1) := by decide +kernel
theorem dX6_out_18 : decode cX6_out 18 = .ok (.iconst 0, 1) := by decide +kernel
theorem dX6_out_19 : decode cX6_out 19 = .ok (.iload_n 1, 1) := by decide +kernel
theorem dX6_out_20 : decode cX6_out 20 = .ok (.invokevirtual 161, 3) := by decide +kernel
theorem dX6_out_23 : decode cX6_out 23 = .ok (.ireturn, 1) := by decide +kernel
theorem dX6_canBeAskedAhead_0 : decode cX6_canBeAskedAhead 0 = .ok (.iload_n 0, 1) := by decide +kernel
theorem dX6_canBeAskedAhead_1 : decode cX6_canBeAskedAhead 1 = .ok (.iconst 1, 1) := by decide +kernel
theorem dX6_canBeAskedAhead_2 : decode cX6_canBeAskedAhead 2 = .ok (.if_icmp .eq 17, 3) := by decide +kernel
theorem dX6_canBeAskedAhead_5 : decode cX6_canBeAskedAhead 5 = .ok (.iload_n 0, 1) := by decide +kernel
theorem dX6_canBeAskedAhead_6 : decode cX6_canBeAskedAhead 6 = .ok (.bipush 6, 2) := by decide +kernel
theorem dX6_canBeAskedAhead_8 : decode cX6_canBeAskedAhead 8 = .ok (.invokestatic 51, 3) := by decide +kernel
theorem dX6_canBeAskedAhead_11 : decode cX6_canBeAskedAhead 11 = .ok (.ifCond .eq 12, 3) := by decide +kernel
theorem dX6_canBeAskedAhead_14 : decode cX6_canBeAskedAhead 14 = .ok (.iload_n 0, 1) := by decide +kernel
theorem dX6_canBeAskedAhead_15 : decode cX6_canBeAskedAhead 15 = .ok (.iconst 3, 1) := by decide +kernel
theorem dX6_canBeAskedAhead_16 : decode cX6_canBeAskedAhead 16 = .ok (.if_icmp .lt 7, 3) := by decide +kernel
theorem dX6_canBeAskedAhead_19 : decode cX6_canBeAskedAhead 19 = .ok (.iconst 1, 1) := by decide +kernel
theorem dX6_canBeAskedAhead_20 : decode cX6_canBeAskedAhead 20 = .ok (.goto 4, 3) := by decide +kernel
theorem dX6_canBeAskedAhead_23 : decode cX6_canBeAskedAhead 23 = .ok (.iconst 0, 1) := by decide +kernel
theorem dX6_canBeAskedAhead_24 : decode cX6_canBeAskedAhead 24 = .ok (.ireturn, 1) := by decide +kernel
theorem dX6_daysUntil_0 : decode cX6_daysUntil 0 = .ok (.aload_n 0, 1) := by decide +kernel
theorem dX6_daysUntil_1 : decode cX6_daysUntil 1 = .ok (.getfield 19, 3) := by decide +kernel
theorem dX6_daysUntil_4 : decode cX6_daysUntil 4 = .ok (.aload_n 0, 1) := by decide +kernel
theorem dX6_daysUntil_5 : decode cX6_daysUntil 5 = .ok (.getfield 12, 3) := by decide +kernel
theorem dX6_daysUntil_8 : decode cX6_daysUntil 8 = .ok (.invokevirtual 157, 3) := by decide +kernel
theorem dX6_daysUntil_11 : decode cX6_daysUntil 11 = .ok (.iconst 0, 1) := by decide +kernel
theorem dX6_daysUntil_12 : decode cX6_daysUntil 12 = .ok (.istore 4, 2) := by decide +kernel
theorem dX6_daysUntil_14 : decode cX6_daysUntil 14 = .ok (.iload 4, 2) := by decide +kernel
theorem dX6_daysUntil_16 : decode cX6_daysUntil 16 = .ok (.sipush 200, 3) := by decide +kernel
theorem dX6_daysUntil_19 : decode cX6_daysUntil 19 = .ok (.if_icmp .gt 30, 3) := by decide +kernel
theorem dX6_daysUntil_22 : decode cX6_daysUntil 22 = .ok (.aload_n 0, 1) := by decide +kernel
theorem dX6_daysUntil_23 : decode cX6_daysUntil 23 = .ok (.iload_n 1, 1) := by decide +kernel
theorem dX6_daysUntil_24 : decode cX6_daysUntil 24 = .ok (.iload_n 2, 1) := by decide +kernel
theorem dX6_daysUntil_25 : decode cX6_daysUntil 25 = .ok (.iload_n 3, 1) := by decide +kernel
theorem dX6_daysUntil_26 : decode cX6_daysUntil 26 = .ok (.invokevirtual 165, 3) := by decide +kernel
theorem dX6_daysUntil_29 : decode cX6_daysUntil 29 = .ok (.ifCond .eq 6, 3) := by decide +kernel
theorem dX6_daysUntil_32 : decode cX6_daysUntil 32 = .ok (.iload 4, 2) := by decide +kernel
theorem dX6_daysUntil_34 : decode cX6_daysUntil 34 = .ok (.ireturn, 1) := by decide +kernel
theorem dX6_daysUntil_35 : decode cX6_daysUntil 35 = .ok (.aload_n 0, 1) := by decide +kernel
theorem dX6_daysUntil_36 : decode cX6_daysUntil 36 = .ok (.getfield 19, 3) := by decide +kernel
theorem dX6_daysUntil_39 : decode cX6_daysUntil 39 = .ok (.iconst 0, 1) := by decide +kernel
theorem dX6_daysUntil_40 : decode cX6_daysUntil 40 = .ok (.invokevirtual 169, 3) := by decide +kernel
theorem dX6_daysUntil_43 : decode cX6_daysUntil 43 = .ok (.iinc 4 1, 3) := by decide +kernel
theorem dX6_daysUntil_46 : decode cX6_daysUntil 46 = .ok (.goto (-32), 3) := by decide +kernel
theorem dX6_daysUntil_49 : decode cX6_daysUntil 49 = .ok (.aload_n 0, 1) := by decide +kernel
theorem dX6_daysUntil_50 : decode cX6_daysUntil 50 = .ok (.ldc 173, 2) := by decide +kernel
theorem dX6_daysUntil_52 : decode cX6_daysUntil 52 = .ok (.invokevirtual 60, 3) := by decide +kernel
theorem dX6_daysUntil_55 : decode cX6_daysUntil 55 = .ok (.ireturn, 1) := by decide +kernel
theorem dX6_isSoInTrial_0 : decode cX6_isSoInTrial 0 = .ok (.iload_n 1, 1) := by decide +kernel
theorem dX6_isSoInTrial_1 : decode cX6_isSoInTrial 1 = .ok (.lookupswitch 62 #[(0, 27), (1, 44)], 27) := by decide +kernel
theorem dX6_isSoInTrial_28 : decode cX6_isSoInTrial 28 = .ok (.iload_n 3, 1) := by decide +kernel
theorem dX6_isSoInTrial_29 : decode cX6_isSoInTrial 29 = .ok (.aload_n 0, 1) := by decide +kernel
theorem dX6_isSoInTrial_30 : decode cX6_isSoInTrial 30 = .ok (.getfield 19, 3) := by decide +kernel
theorem dX6_isSoInTrial_33 : decode cX6_isSoInTrial 33 = .ok (.getfield 96, 3) := by decide +kernel
theorem dX6_isSoInTrial_36 : decode cX6_isSoInTrial 36 = .ok (.iload_n 2, 1) := by decide +kernel
theorem dX6_isSoInTrial_37 : decode cX6_isSoInTrial 37 = .ok (.aaload, 1) := by decide +kernel
theorem dX6_isSoInTrial_38 : decode cX6_isSoInTrial 38 = .ok (.getfield 174, 3) := by decide +kernel
theorem dX6_isSoInTrial_41 : decode cX6_isSoInTrial 41 = .ok (.invokestatic 177, 3) := by decide +kernel
theorem dX6_isSoInTrial_44 : decode cX6_isSoInTrial 44 = .ok (.ireturn, 1) := by decide +kernel
theorem dX6_isSoInTrial_45 : decode cX6_isSoInTrial 45 = .ok (.aload_n 0, 1) := by decide +kernel
theorem dX6_isSoInTrial_46 : decode cX6_isSoInTrial 46 = .ok (.getfield 19, 3) := by decide +kernel
theorem dX6_isSoInTrial_49 : decode cX6_isSoInTrial 49 = .ok (.iload_n 2, 1) := by decide +kernel
theorem dX6_isSoInTrial_50 : decode cX6_isSoInTrial 50 = .ok (.invokevirtual 180, 3) := by decide +kernel
theorem dX6_isSoInTrial_53 : decode cX6_isSoInTrial 53 = .ok (.iload_n 3, 1) := by decide +kernel
theorem dX6_isSoInTrial_54 : decode cX6_isSoInTrial 54 = .ok (.if_icmp .lt 7, 3) := by decide +kernel
theorem dX6_isSoInTrial_57 : decode cX6_isSoInTrial 57 = .ok (.iconst 1, 1) := by decide +kernel
theorem dX6_isSoInTrial_58 : decode cX6_isSoInTrial 58 = .ok (.goto 4, 3) := by decide +kernel
theorem dX6_isSoInTrial_61 : decode cX6_isSoInTrial 61 = .ok (.iconst 0, 1) := by decide +kernel
theorem dX6_isSoInTrial_62 : decode cX6_isSoInTrial 62 = .ok (.ireturn, 1) := by decide +kernel
theorem dX6_isSoInTrial_63 : decode cX6_isSoInTrial 63 = .ok (.iload_n 3, 1) := by decide +kernel
theorem dX6_isSoInTrial_64 : decode cX6_isSoInTrial 64 = .ok (.aload_n 0, 1) := by decide +kernel
theorem dX6_isSoInTrial_65 : decode cX6_isSoInTrial 65 = .ok (.getfield 19, 3) := by decide +kernel
theorem dX6_isSoInTrial_68 : decode cX6_isSoInTrial 68 = .ok (.invokevirtual 139, 3) := by decide +kernel
theorem dX6_isSoInTrial_71 : decode cX6_isSoInTrial 71 = .ok (.iconst (-1), 1) := by decide +kernel
theorem dX6_isSoInTrial_72 : decode cX6_isSoInTrial 72 = .ok (.ixor, 1) := by decide +kernel
theorem dX6_isSoInTrial_73 : decode cX6_isSoInTrial 73 = .ok (.iand, 1) := by decide +kernel
theorem dX6_isSoInTrial_74 : decode cX6_isSoInTrial 74 = .ok (.ifCond .ne 7, 3) := by decide +kernel
theorem dX6_isSoInTrial_77 : decode cX6_isSoInTrial 77 = .ok (.iconst 1, 1) := by decide +kernel
theorem dX6_isSoInTrial_78 : decode cX6_isSoInTrial 78 = .ok (.goto 4, 3) := by decide +kernel
theorem dX6_isSoInTrial_81 : decode cX6_isSoInTrial 81 = .ok (.iconst 0, 1) := by decide +kernel
theorem dX6_isSoInTrial_82 : decode cX6_isSoInTrial 82 = .ok (.ireturn, 1) := by decide +kernel
theorem dX6_leave_0 : decode cX6_leave 0 = .ok (.aload_n 0, 1) := by decide +kernel
theorem dX6_leave_1 : decode cX6_leave 1 = .ok (.getfield 12, 3) := by decide +kernel
theorem dX6_leave_4 : decode cX6_leave 4 = .ok (.iload_n 1, 1) := by decide +kernel
theorem dX6_leave_5 : decode cX6_leave 5 = .ok (.invokevirtual 88, 3) := by decide +kernel
theorem dX6_leave_8 : decode cX6_leave 8 = .ok (.ifCond .eq 12, 3) := by decide +kernel
theorem dX6_leave_11 : decode cX6_leave 11 = .ok (.iload_n 2, 1) := by decide +kernel
theorem dX6_leave_12 : decode cX6_leave 12 = .ok (.bipush 60, 2) := by decide +kernel
theorem dX6_leave_14 : decode cX6_leave 14 = .ok (.invokestatic 51, 3) := by decide +kernel
theorem dX6_leave_17 : decode cX6_leave 17 = .ok (.ifCond .ne 10, 3) := by decide +kernel
theorem dX6_leave_20 : decode cX6_leave 20 = .ok (.aload_n 0, 1) := by decide +kernel
theorem dX6_leave_21 : decode cX6_leave 21 = .ok (.ldc 59, 2) := by decide +kernel
theorem dX6_leave_23 : decode cX6_leave 23 = .ok (.invokevirtual 60, 3) := by decide +kernel
theorem dX6_leave_26 : decode cX6_leave 26 = .ok (.ireturn, 1) := by decide +kernel
theorem dX6_leave_27 : decode cX6_leave 27 = .ok (.aload_n 0, 1) := by decide +kernel
theorem dX6_leave_28 : decode cX6_leave 28 = .ok (.iload_n 1, 1) := by decide +kernel
theorem dX6_leave_29 : decode cX6_leave 29 = .ok (.iconst 1, 1) := by decide +kernel
theorem dX6_leave_30 : decode cX6_leave 30 = .ok (.iconst 5, 1) := by decide +kernel
theorem dX6_leave_31 : decode cX6_leave 31 = .ok (.iload_n 2, 1) := by decide +kernel
theorem dX6_leave_32 : decode cX6_leave 32 = .ok (.invokevirtual 183, 3) := by decide +kernel
theorem dX6_leave_35 : decode cX6_leave 35 = .ok (.ireturn, 1) := by decide +kernel
theorem dX6_openFor_0 : decode cX6_openFor 0 = .ok (.aload_n 0, 1) := by decide +kernel
theorem dX6_openFor_1 : decode cX6_openFor 1 = .ok (.getfield 12, 3) := by decide +kernel
theorem dX6_openFor_4 : decode cX6_openFor 4 = .ok (.iload_n 1, 1) := by decide +kernel
theorem dX6_openFor_5 : decode cX6_openFor 5 = .ok (.invokevirtual 88, 3) := by decide +kernel
theorem dX6_openFor_8 : decode cX6_openFor 8 = .ok (.ifCond .eq 21, 3) := by decide +kernel
theorem dX6_openFor_11 : decode cX6_openFor 11 = .ok (.iload_n 2, 1) := by decide +kernel
theorem dX6_openFor_12 : decode cX6_openFor 12 = .ok (.bipush 16, 2) := by decide +kernel
theorem dX6_openFor_14 : decode cX6_openFor 14 = .ok (.invokestatic 51, 3) := by decide +kernel
theorem dX6_openFor_17 : decode cX6_openFor 17 = .ok (.ifCond .eq 12, 3) := by decide +kernel
theorem dX6_openFor_20 : decode cX6_openFor 20 = .ok (.iload_n 3, 1) := by decide +kernel
theorem dX6_openFor_21 : decode cX6_openFor 21 = .ok (.bipush 60, 2) := by decide +kernel
theorem dX6_openFor_23 : decode cX6_openFor 23 = .ok (.invokestatic 51, 3) := by decide +kernel
theorem dX6_openFor_26 : decode cX6_openFor 26 = .ok (.ifCond .ne 10, 3) := by decide +kernel
theorem dX6_openFor_29 : decode cX6_openFor 29 = .ok (.aload_n 0, 1) := by decide +kernel
theorem dX6_openFor_30 : decode cX6_openFor 30 = .ok (.ldc 59, 2) := by decide +kernel
theorem dX6_openFor_32 : decode cX6_openFor 32 = .ok (.invokevirtual 60, 3) := by decide +kernel
theorem dX6_openFor_35 : decode cX6_openFor 35 = .ok (.ireturn, 1) := by decide +kernel
theorem dX6_openFor_36 : decode cX6_openFor 36 = .ok (.iconst 0, 1) := by decide +kernel
theorem dX6_openFor_37 : decode cX6_openFor 37 = .ok (.istore 4, 2) := by decide +kernel
theorem dX6_openFor_39 : decode cX6_openFor 39 = .ok (.iload 4, 2) := by decide +kernel
theorem dX6_openFor_41 : decode cX6_openFor 41 = .ok (.bipush 9, 2) := by decide +kernel
theorem dX6_openFor_43 : decode cX6_openFor 43 = .ok (.if_icmp .gt 41, 3) := by decide +kernel
theorem dX6_openFor_46 : decode cX6_openFor 46 = .ok (.aload_n 0, 1) := by decide +kernel
theorem dX6_openFor_47 : decode cX6_openFor 47 = .ok (.iload_n 1, 1) := by decide +kernel
theorem dX6_openFor_48 : decode cX6_openFor 48 = .ok (.iconst 2, 1) := by decide +kernel
theorem dX6_openFor_49 : decode cX6_openFor 49 = .ok (.iload 4, 2) := by decide +kernel
theorem dX6_openFor_51 : decode cX6_openFor 51 = .ok (.invokevirtual 187, 3) := by decide +kernel
theorem dX6_openFor_54 : decode cX6_openFor 54 = .ok (.aload_n 0, 1) := by decide +kernel
theorem dX6_openFor_55 : decode cX6_openFor 55 = .ok (.getfield 19, 3) := by decide +kernel
theorem dX6_openFor_58 : decode cX6_openFor 58 = .ok (.iload_n 3, 1) := by decide +kernel
theorem dX6_openFor_59 : decode cX6_openFor 59 = .ok (.iconst 0, 1) := by decide +kernel
theorem dX6_openFor_60 : decode cX6_openFor 60 = .ok (.invokevirtual 129, 3) := by decide +kernel
theorem dX6_openFor_63 : decode cX6_openFor 63 = .ok (.aload_n 0, 1) := by decide +kernel
theorem dX6_openFor_64 : decode cX6_openFor 64 = .ok (.getfield 19, 3) := by decide +kernel
theorem dX6_openFor_67 : decode cX6_openFor 67 = .ok (.iload_n 1, 1) := by decide +kernel
theorem dX6_openFor_68 : decode cX6_openFor 68 = .ok (.invokevirtual 180, 3) := by decide +kernel
theorem dX6_openFor_71 : decode cX6_openFor 71 = .ok (.iload_n 2, 1) := by decide +kernel
theorem dX6_openFor_72 : decode cX6_openFor 72 = .ok (.if_icmp .lt 6, 3) := by decide +kernel
theorem dX6_openFor_75 : decode cX6_openFor 75 = .ok (.iload 4, 2) := by decide +kernel
theorem dX6_openFor_77 : decode cX6_openFor 77 = .ok (.ireturn, 1) := by decide +kernel
theorem dX6_openFor_78 : decode cX6_openFor 78 = .ok (.iinc 4 1, 3) := by decide +kernel
theorem dX6_openFor_81 : decode cX6_openFor 81 = .ok (.goto (-42), 3) := by decide +kernel
theorem dX6_openFor_84 : decode cX6_openFor 84 = .ok (.aload_n 0, 1) := by decide +kernel
theorem dX6_openFor_85 : decode cX6_openFor 85 = .ok (.ldc 173, 2) := by decide +kernel
theorem dX6_openFor_87 : decode cX6_openFor 87 = .ok (.invokevirtual 60, 3) := by decide +kernel
theorem dX6_openFor_90 : decode cX6_openFor 90 = .ok (.ireturn, 1) := by decide +kernel
theorem dX6_kindFor_0 : decode cX6_kindFor 0 = .ok (.aload_n 0, 1) := by decide +kernel
theorem dX6_kindFor_1 : decode cX6_kindFor 1 = .ok (.getfield 12, 3) := by decide +kernel
theorem dX6_kindFor_4 : decode cX6_kindFor 4 = .ok (.iload_n 1, 1) := by decide +kernel
theorem dX6_kindFor_5 : decode cX6_kindFor 5 = .ok (.invokevirtual 88, 3) := by decide +kernel
theorem dX6_kindFor_8 : decode cX6_kindFor 8 = .ok (.ifCond .eq 12, 3) := by decide +kernel
theorem dX6_kindFor_11 : decode cX6_kindFor 11 = .ok (.iload_n 2, 1) := by decide +kernel
theorem dX6_kindFor_12 : decode cX6_kindFor 12 = .ok (.bipush 60, 2) := by decide +kernel
theorem dX6_kindFor_14 : decode cX6_kindFor 14 = .ok (.invokestatic 51, 3) := by decide +kernel
theorem dX6_kindFor_17 : decode cX6_kindFor 17 = .ok (.ifCond .ne 10, 3) := by decide +kernel
theorem dX6_kindFor_20 : decode cX6_kindFor 20 = .ok (.aload_n 0, 1) := by decide +kernel
theorem dX6_kindFor_21 : decode cX6_kindFor 21 = .ok (.ldc 59, 2) := by decide +kernel
theorem dX6_kindFor_23 : decode cX6_kindFor 23 = .ok (.invokevirtual 60, 3) := by decide +kernel
theorem dX6_kindFor_26 : decode cX6_kindFor 26 = .ok (.ireturn, 1) := by decide +kernel
theorem dX6_kindFor_27 : decode cX6_kindFor 27 = .ok (.aload_n 0, 1) := by decide +kernel
theorem dX6_kindFor_28 : decode cX6_kindFor 28 = .ok (.iload_n 1, 1) := by decide +kernel
theorem dX6_kindFor_29 : decode cX6_kindFor 29 = .ok (.iconst 0, 1) := by decide +kernel
theorem dX6_kindFor_30 : decode cX6_kindFor 30 = .ok (.bipush 6, 2) := by decide +kernel
theorem dX6_kindFor_32 : decode cX6_kindFor 32 = .ok (.iload_n 2, 1) := by decide +kernel
theorem dX6_kindFor_33 : decode cX6_kindFor 33 = .ok (.invokevirtual 183, 3) := by decide +kernel
theorem dX6_kindFor_36 : decode cX6_kindFor 36 = .ok (.ireturn, 1) := by decide +kernel
theorem dX6_lower_0 : decode cX6_lower 0 = .ok (.iload_n 1, 1) := by decide +kernel
theorem dX6_lower_1 : decode cX6_lower 1 = .ok (.iconst 5, 1) := by decide +kernel
theorem dX6_lower_2 : decode cX6_lower 2 = .ok (.invokestatic 51, 3) := by decide +kernel
theorem dX6_lower_5 : decode cX6_lower 5 = .ok (.ifCond .ne 10, 3) := by decide +kernel
theorem dX6_lower_8 : decode cX6_lower 8 = .ok (.aload_n 0, 1) := by decide +kernel
theorem dX6_lower_9 : decode cX6_lower 9 = .ok (.ldc 59, 2) := by decide +kernel
theorem dX6_lower_11 : decode cX6_lower 11 = .ok (.invokevirtual 60, 3) := by decide +kernel
theorem dX6_lower_14 : decode cX6_lower 14 = .ok (.ireturn, 1) := by decide +kernel
theorem dX6_lower_15 : decode cX6_lower 15 = .ok (.aload_n 0, 1) := by decide +kernel
theorem dX6_lower_16 : decode cX6_lower 16 = .ok (.getfield 12, 3) := by decide +kernel
theorem dX6_lower_19 : decode cX6_lower 19 = .ok (.getfield 64, 3) := by decide +kernel
theorem dX6_lower_22 : decode cX6_lower 22 = .ok (.iload_n 1, 1) := by decide +kernel
theorem dX6_lower_23 : decode cX6_lower 23 = .ok (.iaload, 1) := by decide +kernel
theorem dX6_lower_24 : decode cX6_lower 24 = .ok (.aload_n 0, 1) := by decide +kernel
theorem dX6_lower_25 : decode cX6_lower 25 = .ok (.getfield 12, 3) := by decide +kernel
theorem dX6_lower_28 : decode cX6_lower 28 = .ok (.getfield 64, 3) := by decide +kernel
theorem dX6_lower_31 : decode cX6_lower 31 = .ok (.iload_n 1, 1) := by decide +kernel
theorem dX6_lower_32 : decode cX6_lower 32 = .ok (.iaload, 1) := by decide +kernel
theorem dX6_lower_33 : decode cX6_lower 33 = .ok (.invokestatic 191, 3) := by decide +kernel
theorem dX6_lower_36 : decode cX6_lower 36 = .ok (.isub, 1) := by decide +kernel
theorem dX6_lower_37 : decode cX6_lower 37 = .ok (.istore_n 2, 1) := by decide +kernel
theorem dX6_lower_38 : decode cX6_lower 38 = .ok (.bipush 9, 2) := by decide +kernel
theorem dX6_lower_40 : decode cX6_lower 40 = .ok (.istore_n 3, 1) := by decide +kernel
theorem dX6_lower_41 : decode cX6_lower 41 = .ok (.iload_n 3, 1) := by decide +kernel
theorem dX6_lower_42 : decode cX6_lower 42 = .ok (.ifCond .lt 25, 3) := by decide +kernel
theorem dX6_lower_45 : decode cX6_lower 45 = .ok (.aload_n 0, 1) := by decide +kernel
theorem dX6_lower_46 : decode cX6_lower 46 = .ok (.getfield 12, 3) := by decide +kernel
theorem dX6_lower_49 : decode cX6_lower 49 = .ok (.iload_n 2, 1) := by decide +kernel
theorem dX6_lower_50 : decode cX6_lower 50 = .ok (.iload_n 3, 1) := by decide +kernel
theorem dX6_lower_51 : decode cX6_lower 51 = .ok (.iadd, 1) := by decide +kernel
theorem dX6_lower_52 : decode cX6_lower 52 = .ok (.iconst 0, 1) := by decide +kernel
theorem dX6_lower_53 : decode cX6_lower 53 = .ok (.invokevirtual 151, 3) := by decide +kernel
theorem dX6_lower_56 : decode cX6_lower 56 = .ok (.ifCond .ne 5, 3) := by decide +kernel
theorem dX6_lower_59 : decode cX6_lower 59 = .ok (.iload_n 3, 1) := by decide +kernel
theorem dX6_lower_60 : decode cX6_lower 60 = .ok (.ireturn, 1) := by decide +kernel
theorem dX6_lower_61 : decode cX6_lower 61 = .ok (.iinc 3 (-1), 3) := by decide +kernel
theorem dX6_lower_64 : decode cX6_lower 64 = .ok (.goto (-23), 3) := by decide +kernel
theorem dX6_lower_67 : decode cX6_lower 67 = .ok (.aload_n 0, 1) := by decide +kernel
theorem dX6_lower_68 : decode cX6_lower 68 = .ok (.ldc 173, 2) := by decide +kernel
theorem dX6_lower_70 : decode cX6_lower 70 = .ok (.invokevirtual 60, 3) := by decide +kernel
theorem dX6_lower_73 : decode cX6_lower 73 = .ok (.ireturn, 1) := by decide +kernel
theorem dX6_cover_0 : decode cX6_cover 0 = .ok (.iload_n 1, 1) := by decide +kernel
theorem dX6_cover_1 : decode cX6_cover 1 = .ok (.ldc 138, 2) := by decide +kernel
theorem dX6_cover_3 : decode cX6_cover 3 = .ok (.invokestatic 51, 3) := by decide +kernel
theorem dX6_cover_6 : decode cX6_cover 6 = .ok (.ifCond .ne 10, 3) := by decide +kernel
theorem dX6_cover_9 : decode cX6_cover 9 = .ok (.aload_n 0, 1) := by decide +kernel
theorem dX6_cover_10 : decode cX6_cover 10 = .ok (.ldc 59, 2) := by decide +kernel
theorem dX6_cover_12 : decode cX6_cover 12 = .ok (.invokevirtual 60, 3) := by decide +kernel
theorem dX6_cover_15 : decode cX6_cover 15 = .ok (.ireturn, 1) := by decide +kernel
theorem dX6_cover_16 : decode cX6_cover 16 = .ok (.iconst (-1), 1) := by decide +kernel
theorem dX6_cover_17 : decode cX6_cover 17 = .ok (.istore_n 2, 1) := by decide +kernel
theorem dX6_cover_18 : decode cX6_cover 18 = .ok (.iconst 0, 1) := by decide +kernel
theorem dX6_cover_19 : decode cX6_cover 19 = .ok (.istore_n 3, 1) := by decide +kernel
theorem dX6_cover_20 : decode cX6_cover 20 = .ok (.iload_n 3, 1) := by decide +kernel
theorem dX6_cover_21 : decode cX6_cover 21 = .ok (.iconst 1, 1) := by decide +kernel
theorem dX6_cover_22 : decode cX6_cover 22 = .ok (.aload_n 0, 1) := by decide +kernel
theorem dX6_cover_23 : decode cX6_cover 23 = .ok (.getfield 12, 3) := by decide +kernel
theorem dX6_cover_26 : decode cX6_cover 26 = .ok (.getfield 80, 3) := by decide +kernel
theorem dX6_cover_29 : decode cX6_cover 29 = .ok (.ishl, 1) := by decide +kernel
theorem dX6_cover_30 : decode cX6_cover 30 = .ok (.if_icmp .ge 43, 3) := by decide +kernel
theorem dX6_cover_33 : decode cX6_cover 33 = .ok (.iload_n 3, 1) := by decide +kernel
theorem dX6_cover_34 : decode cX6_cover 34 = .ok (.iload_n 2, 1) := by decide +kernel
theorem dX6_cover_35 : decode cX6_cover 35 = .ok (.invokestatic 194, 3) := by decide +kernel
theorem dX6_cover_38 : decode cX6_cover 38 = .ok (.ifCond .eq 29, 3) := by decide +kernel
theorem dX6_cover_41 : decode cX6_cover 41 = .ok (.iload_n 1, 1) := by decide +kernel
theorem dX6_cover_42 : decode cX6_cover 42 = .ok (.aload_n 0, 1) := by decide +kernel
theorem dX6_cover_43 : decode cX6_cover 43 = .ok (.getfield 12, 3) := by decide +kernel
theorem dX6_cover_46 : decode cX6_cover 46 = .ok (.iload_n 3, 1) := by decide +kernel
theorem dX6_cover_47 : decode cX6_cover 47 = .ok (.invokevirtual 74, 3) := by decide +kernel
theorem dX6_cover_50 : decode cX6_cover 50 = .ok (.aload_n 0, 1) := by decide +kernel
theorem dX6_cover_51 : decode cX6_cover 51 = .ok (.getfield 12, 3) := by decide +kernel
theorem dX6_cover_54 : decode cX6_cover 54 = .ok (.iload_n 3, 1) := by decide +kernel
theorem dX6_cover_55 : decode cX6_cover 55 = .ok (.invokevirtual 197, 3) := by decide +kernel
theorem dX6_cover_58 : decode cX6_cover 58 = .ok (.ior, 1) := by decide +kernel
theorem dX6_cover_59 : decode cX6_cover 59 = .ok (.iconst (-1), 1) := by decide +kernel
theorem dX6_cover_60 : decode cX6_cover 60 = .ok (.ixor, 1) := by decide +kernel
theorem dX6_cover_61 : decode cX6_cover 61 = .ok (.iand, 1) := by decide +kernel
theorem dX6_cover_62 : decode cX6_cover 62 = .ok (.ifCond .ne 5, 3) := by decide +kernel
theorem dX6_cover_65 : decode cX6_cover 65 = .ok (.iload_n 3, 1) := by decide +kernel
theorem dX6_cover_66 : decode cX6_cover 66 = .ok (.istore_n 2, 1) := by decide +kernel
theorem dX6_cover_67 : decode cX6_cover 67 = .ok (.iinc 3 1, 3) := by decide +kernel
theorem dX6_cover_70 : decode cX6_cover 70 = .ok (.goto (-50), 3) := by decide +kernel
theorem dX6_cover_73 : decode cX6_cover 73 = .ok (.iload_n 2, 1) := by decide +kernel
theorem dX6_cover_74 : decode cX6_cover 74 = .ok (.iconst (-1), 1) := by decide +kernel
theorem dX6_cover_75 : decode cX6_cover 75 = .ok (.if_icmp .ne 12, 3) := by decide +kernel
theorem dX6_cover_78 : decode cX6_cover 78 = .ok (.aload_n 0, 1) := by decide +kernel
theorem dX6_cover_79 : decode cX6_cover 79 = .ok (.ldc 173, 2) := by decide +kernel
theorem dX6_cover_81 : decode cX6_cover 81 = .ok (.invokevirtual 60, 3) := by decide +kernel
theorem dX6_cover_84 : decode cX6_cover 84 = .ok (.goto 4, 3) := by decide +kernel
theorem dX6_cover_87 : decode cX6_cover 87 = .ok (.iload_n 2, 1) := by decide +kernel
theorem dX6_cover_88 : decode cX6_cover 88 = .ok (.ireturn, 1) := by decide +kernel
theorem dX6_away_0 : decode cX6_away 0 = .ok (.aload_n 0, 1) := by decide +kernel
theorem dX6_away_1 : decode cX6_away 1 = .ok (.getfield 12, 3) := by decide +kernel
theorem dX6_away_4 : decode cX6_away 4 = .ok (.iload_n 1, 1) := by decide +kernel
theorem dX6_away_5 : decode cX6_away 5 = .ok (.invokevirtual 88, 3) := by decide +kernel
theorem dX6_away_8 : decode cX6_away 8 = .ok (.ifCond .eq 21, 3) := by decide +kernel
theorem dX6_away_11 : decode cX6_away 11 = .ok (.iload_n 2, 1) := by decide +kernel
theorem dX6_away_12 : decode cX6_away 12 = .ok (.bipush 15, 2) := by decide +kernel
theorem dX6_away_14 : decode cX6_away 14 = .ok (.invokestatic 51, 3) := by decide +kernel
theorem dX6_away_17 : decode cX6_away 17 = .ok (.ifCond .eq 12, 3) := by decide +kernel
theorem dX6_away_20 : decode cX6_away 20 = .ok (.iload_n 3, 1) := by decide +kernel
theorem dX6_away_21 : decode cX6_away 21 = .ok (.bipush 20, 2) := by decide +kernel
theorem dX6_away_23 : decode cX6_away 23 = .ok (.invokestatic 51, 3) := by decide +kernel
theorem dX6_away_26 : decode cX6_away 26 = .ok (.ifCond .ne 10, 3) := by decide +kernel
theorem dX6_away_29 : decode cX6_away 29 = .ok (.aload_n 0, 1) := by decide +kernel
theorem dX6_away_30 : decode cX6_away 30 = .ok (.ldc 59, 2) := by decide +kernel
theorem dX6_away_32 : decode cX6_away 32 = .ok (.invokevirtual 60, 3) := by decide +kernel
theorem dX6_away_35 : decode cX6_away 35 = .ok (.ireturn, 1) := by decide +kernel
theorem dX6_away_36 : decode cX6_away 36 = .ok (.iconst (-1), 1) := by decide +kernel
theorem dX6_away_37 : decode cX6_away 37 = .ok (.istore 4, 2) := by decide +kernel
theorem dX6_away_39 : decode cX6_away 39 = .ok (.iconst 0, 1) := by decide +kernel
theorem dX6_away_40 : decode cX6_away 40 = .ok (.istore 5, 2) := by decide +kernel
theorem dX6_away_42 : decode cX6_away 42 = .ok (.iload 5, 2) := by decide +kernel
theorem dX6_away_44 : decode cX6_away 44 = .ok (.iconst 1, 1) := by decide +kernel
theorem dX6_away_45 : decode cX6_away 45 = .ok (.aload_n 0, 1) := by decide +kernel
theorem dX6_away_46 : decode cX6_away 46 = .ok (.getfield 12, 3) := by decide +kernel
theorem dX6_away_49 : decode cX6_away 49 = .ok (.getfield 80, 3) := by decide +kernel
theorem dX6_away_52 : decode cX6_away 52 = .ok (.ishl, 1) := by decide +kernel
theorem dX6_away_53 : decode cX6_away 53 = .ok (.if_icmp .ge 44, 3) := by decide +kernel
theorem dX6_away_56 : decode cX6_away 56 = .ok (.iload 5, 2) := by decide +kernel
theorem dX6_away_58 : decode cX6_away 58 = .ok (.iload 4, 2) := by decide +kernel
theorem dX6_away_60 : decode cX6_away 60 = .ok (.invokestatic 194, 3) := by decide +kernel
theorem dX6_away_63 : decode cX6_away 63 = .ok (.ifCond .eq 28, 3) := by decide +kernel
theorem dX6_away_66 : decode cX6_away 66 = .ok (.iload_n 1, 1) := by decide +kernel
theorem dX6_away_67 : decode cX6_away 67 = .ok (.iload 5, 2) := by decide +kernel
theorem dX6_away_69 : decode cX6_away 69 = .ok (.invokestatic 177, 3) := by decide +kernel
theorem dX6_away_72 : decode cX6_away 72 = .ok (.ifCond .ne 19, 3) := by decide +kernel
theorem dX6_away_75 : decode cX6_away 75 = .ok (.aload_n 0, 1) := by decide +kernel
theorem dX6_away_76 : decode cX6_away 76 = .ok (.iload 5, 2) := by decide +kernel
theorem dX6_away_78 : decode cX6_away 78 = .ok (.iload_n 1, 1) := by decide +kernel
theorem dX6_away_79 : decode cX6_away 79 = .ok (.iload_n 2, 1) := by decide +kernel
theorem dX6_away_80 : decode cX6_away 80 = .ok (.iload_n 3, 1) := by decide +kernel
theorem dX6_away_81 : decode cX6_away 81 = .ok (.invokevirtual 200, 3) := by decide +kernel
theorem dX6_away_84 : decode cX6_away 84 = .ok (.ifCond .eq 7, 3) := by decide +kernel
theorem dX6_away_87 : decode cX6_away 87 = .ok (.iload 5, 2) := by decide +kernel
theorem dX6_away_89 : decode cX6_away 89 = .ok (.istore 4, 2) := by decide +kernel
theorem dX6_away_91 : decode cX6_away 91 = .ok (.iinc 5 1, 3) := by decide +kernel
theorem dX6_away_94 : decode cX6_away 94 = .ok (.goto (-52), 3) := by decide +kernel
theorem dX6_away_97 : decode cX6_away 97 = .ok (.iload 4, 2) := by decide +kernel
theorem dX6_away_99 : decode cX6_away 99 = .ok (.iconst (-1), 1) := by decide +kernel
theorem dX6_away_100 : decode cX6_away 100 = .ok (.if_icmp .ne 12, 3) := by decide +kernel
theorem dX6_away_103 : decode cX6_away 103 = .ok (.aload_n 0, 1) := by decide +kernel
theorem dX6_away_104 : decode cX6_away 104 = .ok (.ldc 173, 2) := by decide +kernel
theorem dX6_away_106 : decode cX6_away 106 = .ok (.invokevirtual 60, 3) := by decide +kernel
theorem dX6_away_109 : decode cX6_away 109 = .ok (.goto 5, 3) := by decide +kernel
theorem dX6_away_112 : decode cX6_away 112 = .ok (.iload 4, 2) := by decide +kernel
theorem dX6_away_114 : decode cX6_away 114 = .ok (.ireturn, 1) := by decide +kernel
theorem dX6_isFewer_0 : decode cX6_isFewer 0 = .ok (.iload_n 1, 1) := by decide +kernel
theorem dX6_isFewer_1 : decode cX6_isFewer 1 = .ok (.iconst (-1), 1) := by decide +kernel
theorem dX6_isFewer_2 : decode cX6_isFewer 2 = .ok (.if_icmp .eq 14, 3) := by decide +kernel
theorem dX6_isFewer_5 : decode cX6_isFewer 5 = .ok (.iload_n 0, 1) := by decide +kernel
theorem dX6_isFewer_6 : decode cX6_isFewer 6 = .ok (.invokestatic 204, 3) := by decide +kernel
theorem dX6_isFewer_9 : decode cX6_isFewer 9 = .ok (.iload_n 1, 1) := by decide +kernel
theorem dX6_isFewer_10 : decode cX6_isFewer 10 = .ok (.invokestatic 204, 3) := by decide +kernel
theorem dX6_isFewer_13 : decode cX6_isFewer 13 = .ok (.if_icmp .ge 7, 3) := by decide +kernel
theorem dX6_isFewer_16 : decode cX6_isFewer 16 = .ok (.iconst 1, 1) := by decide +kernel
theorem dX6_isFewer_17 : decode cX6_isFewer 17 = .ok (.goto 4, 3) := by decide +kernel
theorem dX6_isFewer_20 : decode cX6_isFewer 20 = .ok (.iconst 0, 1) := by decide +kernel
theorem dX6_isFewer_21 : decode cX6_isFewer 21 = .ok (.ireturn, 1) := by decide +kernel
theorem dX6_bestFor_0 : decode cX6_bestFor 0 = .ok (.iconst 0, 1) := by decide +kernel
theorem dX6_bestFor_1 : decode cX6_bestFor 1 = .ok (.istore 5, 2) := by decide +kernel
theorem dX6_bestFor_3 : decode cX6_bestFor 3 = .ok (.iconst (-1), 1) := by decide +kernel
theorem dX6_bestFor_4 : decode cX6_bestFor 4 = .ok (.istore 6, 2) := by decide +kernel
theorem dX6_bestFor_6 : decode cX6_bestFor 6 = .ok (.iconst 0, 1) := by decide +kernel
theorem dX6_bestFor_7 : decode cX6_bestFor 7 = .ok (.istore 7, 2) := by decide +kernel
theorem dX6_bestFor_9 : decode cX6_bestFor 9 = .ok (.iload 7, 2) := by decide +kernel
theorem dX6_bestFor_11 : decode cX6_bestFor 11 = .ok (.iload_n 3, 1) := by decide +kernel
theorem dX6_bestFor_12 : decode cX6_bestFor 12 = .ok (.if_icmp .gt 52, 3) := by decide +kernel
theorem dX6_bestFor_15 : decode cX6_bestFor 15 = .ok (.aload_n 0, 1) := by decide +kernel
theorem dX6_bestFor_16 : decode cX6_bestFor 16 = .ok (.iload_n 1, 1) := by decide +kernel
theorem dX6_bestFor_17 : decode cX6_bestFor 17 = .ok (.iload_n 2, 1) := by decide +kernel
theorem dX6_bestFor_18 : decode cX6_bestFor 18 = .ok (.iload 7, 2) := by decide +kernel
theorem dX6_bestFor_20 : decode cX6_bestFor 20 = .ok (.invokevirtual 187, 3) := by decide +kernel
theorem dX6_bestFor_23 : decode cX6_bestFor 23 = .ok (.aload_n 0, 1) := by decide +kernel
theorem dX6_bestFor_24 : decode cX6_bestFor 24 = .ok (.getfield 19, 3) := by decide +kernel
theorem dX6_bestFor_27 : decode cX6_bestFor 27 = .ok (.iload 4, 2) := by decide +kernel
theorem dX6_bestFor_29 : decode cX6_bestFor 29 = .ok (.iconst 0, 1) := by decide +kernel
theorem dX6_bestFor_30 : decode cX6_bestFor 30 = .ok (.invokevirtual 129, 3) := by decide +kernel
theorem dX6_bestFor_33 : decode cX6_bestFor 33 = .ok (.aload_n 0, 1) := by decide +kernel
theorem dX6_bestFor_34 : decode cX6_bestFor 34 = .ok (.getfield 19, 3) := by decide +kernel
theorem dX6_bestFor_37 : decode cX6_bestFor 37 = .ok (.iload_n 1, 1) := by decide +kernel
theorem dX6_bestFor_38 : decode cX6_bestFor 38 = .ok (.invokevirtual 180, 3) := by decide +kernel
theorem dX6_bestFor_41 : decode cX6_bestFor 41 = .ok (.istore 8, 2) := by decide +kernel
theorem dX6_bestFor_43 : decode cX6_bestFor 43 = .ok (.iload 8, 2) := by decide +kernel
theorem dX6_bestFor_45 : decode cX6_bestFor 45 = .ok (.iload 6, 2) := by decide +kernel
theorem dX6_bestFor_47 : decode cX6_bestFor 47 = .ok (.if_icmp .le 11, 3) := by decide +kernel
theorem dX6_bestFor_50 : decode cX6_bestFor 50 = .ok (.iload 7, 2) := by decide +kernel
theorem dX6_bestFor_52 : decode cX6_bestFor 52 = .ok (.istore 5, 2) := by decide +kernel
theorem dX6_bestFor_54 : decode cX6_bestFor 54 = .ok (.iload 8, 2) := by decide +kernel
theorem dX6_bestFor_56 : decode cX6_bestFor 56 = .ok (.istore 6, 2) := by decide +kernel
theorem dX6_bestFor_58 : decode cX6_bestFor 58 = .ok (.iinc 7 1, 3) := by decide +kernel
theorem dX6_bestFor_61 : decode cX6_bestFor 61 = .ok (.goto (-52), 3) := by decide +kernel
theorem dX6_bestFor_64 : decode cX6_bestFor 64 = .ok (.iload 5, 2) := by decide +kernel
theorem dX6_bestFor_66 : decode cX6_bestFor 66 = .ok (.ireturn, 1) := by decide +kernel
theorem dX6_tryOut_0 : decode cX6_tryOut 0 = .ok (.aload_n 0, 1) := by decide +kernel
theorem dX6_tryOut_1 : decode cX6_tryOut 1 = .ok (.getfield 19, 3) := by decide +kernel
theorem dX6_tryOut_4 : decode cX6_tryOut 4 = .ok (.aload_n 0, 1) := by decide +kernel
theorem dX6_tryOut_5 : decode cX6_tryOut 5 = .ok (.getfield 12, 3) := by decide +kernel
theorem dX6_tryOut_8 : decode cX6_tryOut 8 = .ok (.invokevirtual 157, 3) := by decide +kernel
theorem dX6_tryOut_11 : decode cX6_tryOut 11 = .ok (.aload_n 0, 1) := by decide +kernel
theorem dX6_tryOut_12 : decode cX6_tryOut 12 = .ok (.getfield 19, 3) := by decide +kernel
theorem dX6_tryOut_15 : decode cX6_tryOut 15 = .ok (.getfield 96, 3) := by decide +kernel
theorem dX6_tryOut_18 : decode cX6_tryOut 18 = .ok (.iload_n 1, 1) := by decide +kernel
theorem dX6_tryOut_19 : decode cX6_tryOut 19 = .ok (.aaload, 1) := by decide +kernel
theorem dX6_tryOut_20 : decode cX6_tryOut 20 = .ok (.iload_n 2, 1) := by decide +kernel
theorem dX6_tryOut_21 : decode cX6_tryOut 21 = .ok (.iload_n 3, 1) := by decide +kernel
theorem dX6_tryOut_22 : decode cX6_tryOut 22 = .ok (.invokevirtual 106, 3) := by decide +kernel
theorem dX6_tryOut_25 : decode cX6_tryOut 25 = .ok (.return_, 1) := by decide +kernel
theorem dX6_comesToKnowWithout_0 : decode cX6_comesToKnowWithout 0 = .ok (.aload_n 0, 1) := by decide +kernel
theorem dX6_comesToKnowWithout_1 : decode cX6_comesToKnowWithout 1 = .ok (.getfield 19, 3) := by decide +kernel
theorem dX6_comesToKnowWithout_4 : decode cX6_comesToKnowWithout 4 = .ok (.aload_n 0, 1) := by decide +kernel
theorem dX6_comesToKnowWithout_5 : decode cX6_comesToKnowWithout 5 = .ok (.getfield 12, 3) := by decide +kernel
theorem dX6_comesToKnowWithout_8 : decode cX6_comesToKnowWithout 8 = .ok (.invokevirtual 157, 3) := by decide +kernel
theorem dX6_comesToKnowWithout_11 : decode cX6_comesToKnowWithout 11 = .ok (.aload_n 0, 1) := by decide +kernel
theorem dX6_comesToKnowWithout_12 : decode cX6_comesToKnowWithout 12 = .ok (.getfield 19, 3) := by decide +kernel
theorem dX6_comesToKnowWithout_15 : decode cX6_comesToKnowWithout 15 = .ok (.iload 4, 2) := by decide +kernel
theorem dX6_comesToKnowWithout_17 : decode cX6_comesToKnowWithout 17 = .ok (.iload_n 1, 1) := by decide +kernel
theorem dX6_comesToKnowWithout_18 : decode cX6_comesToKnowWithout 18 = .ok (.invokevirtual 129, 3) := by decide +kernel
theorem dX6_comesToKnowWithout_21 : decode cX6_comesToKnowWithout 21 = .ok (.aload_n 0, 1) := by decide +kernel
theorem dX6_comesToKnowWithout_22 : decode cX6_comesToKnowWithout 22 = .ok (.getfield 19, 3) := by decide +kernel
theorem dX6_comesToKnowWithout_25 : decode cX6_comesToKnowWithout 25 = .ok (.getfield 96, 3) := by decide +kernel
theorem dX6_comesToKnowWithout_28 : decode cX6_comesToKnowWithout 28 = .ok (.iload_n 2, 1) := by decide +kernel
theorem dX6_comesToKnowWithout_29 : decode cX6_comesToKnowWithout 29 = .ok (.aaload, 1) := by decide +kernel
theorem dX6_comesToKnowWithout_30 : decode cX6_comesToKnowWithout 30 = .ok (.astore 5, 2) := by decide +kernel
theorem dX6_comesToKnowWithout_32 : decode cX6_comesToKnowWithout 32 = .ok (.iload_n 3, 1) := by decide +kernel
theorem dX6_comesToKnowWithout_33 : decode cX6_comesToKnowWithout 33 = .ok (.aload 5, 2) := by decide +kernel
theorem dX6_comesToKnowWithout_35 : decode cX6_comesToKnowWithout 35 = .ok (.getfield 174, 3) := by decide +kernel
theorem dX6_comesToKnowWithout_38 : decode cX6_comesToKnowWithout 38 = .ok (.aload 5, 2) := by decide +kernel
theorem dX6_comesToKnowWithout_40 : decode cX6_comesToKnowWithout 40 = .ok (.getfield 118, 3) := by decide +kernel
theorem dX6_comesToKnowWithout_43 : decode cX6_comesToKnowWithout 43 = .ok (.ior, 1) := by decide +kernel
theorem dX6_comesToKnowWithout_44 : decode cX6_comesToKnowWithout 44 = .ok (.invokestatic 177, 3) := by decide +kernel
theorem dX6_comesToKnowWithout_47 : decode cX6_comesToKnowWithout 47 = .ok (.ireturn, 1) := by decide +kernel
theorem dX6_fits_0 : decode cX6_fits 0 = .ok (.aload_n 0, 1) := by decide +kernel
theorem dX6_fits_1 : decode cX6_fits 1 = .ok (.iload_n 1, 1) := by decide +kernel
theorem dX6_fits_2 : decode cX6_fits 2 = .ok (.iload_n 2, 1) := by decide +kernel
theorem dX6_fits_3 : decode cX6_fits 3 = .ok (.iconst 1, 1) := by decide +kernel
theorem dX6_fits_4 : decode cX6_fits 4 = .ok (.iconst 5, 1) := by decide +kernel
theorem dX6_fits_5 : decode cX6_fits 5 = .ok (.invokevirtual 209, 3) := by decide +kernel
theorem dX6_fits_8 : decode cX6_fits 8 = .ok (.ireturn, 1) := by decide +kernel
theorem dX6_kinds_0 : decode cX6_kinds 0 = .ok (.aload_n 0, 1) := by decide +kernel
theorem dX6_kinds_1 : decode cX6_kinds 1 = .ok (.iload_n 1, 1) := by decide +kernel
theorem dX6_kinds_2 : decode cX6_kinds 2 = .ok (.iload_n 2, 1) := by decide +kernel
theorem dX6_kinds_3 : decode cX6_kinds 3 = .ok (.iconst 0, 1) := by decide +kernel
theorem dX6_kinds_4 : decode cX6_kinds 4 = .ok (.bipush 6, 2) := by decide +kernel
theorem dX6_kinds_6 : decode cX6_kinds 6 = .ok (.invokevirtual 209, 3) := by decide +kernel
theorem dX6_kinds_9 : decode cX6_kinds 9 = .ok (.ireturn, 1) := by decide +kernel
theorem dX6_choicesAsTold_0 : decode cX6_choicesAsTold 0 = .ok (.aload_n 0, 1) := by decide +kernel
theorem dX6_choicesAsTold_1 : decode cX6_choicesAsTold 1 = .ok (.iload_n 1, 1) := by decide +kernel
theorem dX6_choicesAsTold_2 : decode cX6_choicesAsTold 2 = .ok (.invokevirtual 212, 3) := by decide +kernel
theorem dX6_choicesAsTold_5 : decode cX6_choicesAsTold 5 = .ok (.istore 5, 2) := by decide +kernel
theorem dX6_choicesAsTold_7 : decode cX6_choicesAsTold 7 = .ok (.iload 5, 2) := by decide +kernel
theorem dX6_choicesAsTold_9 : decode cX6_choicesAsTold 9 = .ok (.ifCond .eq 10, 3) := by decide +kernel
theorem dX6_choicesAsTold_12 : decode cX6_choicesAsTold 12 = .ok (.aload_n 0, 1) := by decide +kernel
theorem dX6_choicesAsTold_13 : decode cX6_choicesAsTold 13 = .ok (.iload 5, 2) := by decide +kernel
theorem dX6_choicesAsTold_15 : decode cX6_choicesAsTold 15 = .ok (.invokevirtual 60, 3) := by decide +kernel
theorem dX6_choicesAsTold_18 : decode cX6_choicesAsTold 18 = .ok (.ireturn, 1) := by decide +kernel
theorem dX6_choicesAsTold_19 : decode cX6_choicesAsTold 19 = .ok (.aload_n 0, 1) := by decide +kernel
theorem dX6_choicesAsTold_20 : decode cX6_choicesAsTold 20 = .ok (.getfield 12, 3) := by decide +kernel
theorem dX6_choicesAsTold_23 : decode cX6_choicesAsTold 23 = .ok (.iload_n 2, 1) := by decide +kernel
theorem dX6_choicesAsTold_24 : decode cX6_choicesAsTold 24 = .ok (.invokevirtual 88, 3) := by decide +kernel
theorem dX6_choicesAsTold_27 : decode cX6_choicesAsTold 27 = .ok (.ifCond .ne 10, 3) := by decide +kernel
theorem dX6_choicesAsTold_30 : decode cX6_choicesAsTold 30 = .ok (.aload_n 0, 1) := by decide +kernel
theorem dX6_choicesAsTold_31 : decode cX6_choicesAsTold 31 = .ok (.ldc 59, 2) := by decide +kernel
theorem dX6_choicesAsTold_33 : decode cX6_choicesAsTold 33 = .ok (.invokevirtual 60, 3) := by decide +kernel
theorem dX6_choicesAsTold_36 : decode cX6_choicesAsTold 36 = .ok (.ireturn, 1) := by decide +kernel
theorem dX6_choicesAsTold_37 : decode cX6_choicesAsTold 37 = .ok (.iconst 0, 1) := by decide +kernel
theorem dX6_choicesAsTold_38 : decode cX6_choicesAsTold 38 = .ok (.istore 6, 2) := by decide +kernel
theorem dX6_choicesAsTold_40 : decode cX6_choicesAsTold 40 = .ok (.iconst 0, 1) := by decide +kernel
theorem dX6_choicesAsTold_41 : decode cX6_choicesAsTold 41 = .ok (.istore 7, 2) := by decide +kernel
theorem dX6_choicesAsTold_43 : decode cX6_choicesAsTold 43 = .ok (.iload 7, 2) := by decide +kernel
theorem dX6_choicesAsTold_45 : decode cX6_choicesAsTold 45 = .ok (.iload 4, 2) := by decide +kernel
theorem dX6_choicesAsTold_47 : decode cX6_choicesAsTold 47 = .ok (.if_icmp .gt 40, 3) := by decide +kernel
theorem dX6_choicesAsTold_50 : decode cX6_choicesAsTold 50 = .ok (.aload_n 0, 1) := by decide +kernel
theorem dX6_choicesAsTold_51 : decode cX6_choicesAsTold 51 = .ok (.iload_n 2, 1) := by decide +kernel
theorem dX6_choicesAsTold_52 : decode cX6_choicesAsTold 52 = .ok (.iload_n 3, 1) := by decide +kernel
theorem dX6_choicesAsTold_53 : decode cX6_choicesAsTold 53 = .ok (.iload 7, 2) := by decide +kernel
theorem dX6_choicesAsTold_55 : decode cX6_choicesAsTold 55 = .ok (.invokevirtual 187, 3) := by decide +kernel
theorem dX6_choicesAsTold_58 : decode cX6_choicesAsTold 58 = .ok (.aload_n 0, 1) := by decide +kernel
theorem dX6_choicesAsTold_59 : decode cX6_choicesAsTold 59 = .ok (.aload_n 0, 1) := by decide +kernel
theorem dX6_choicesAsTold_60 : decode cX6_choicesAsTold 60 = .ok (.getfield 42, 3) := by decide +kernel
theorem dX6_choicesAsTold_63 : decode cX6_choicesAsTold 63 = .ok (.iload_n 1, 1) := by decide +kernel
theorem dX6_choicesAsTold_64 : decode cX6_choicesAsTold 64 = .ok (.aaload, 1) := by decide +kernel
theorem dX6_choicesAsTold_65 : decode cX6_choicesAsTold 65 = .ok (.iload_n 2, 1) := by decide +kernel
theorem dX6_choicesAsTold_66 : decode cX6_choicesAsTold 66 = .ok (.invokevirtual 215, 3) := by decide +kernel
theorem dX6_choicesAsTold_69 : decode cX6_choicesAsTold 69 = .ok (.ifCond .eq 12, 3) := by decide +kernel
theorem dX6_choicesAsTold_72 : decode cX6_choicesAsTold 72 = .ok (.iload 6, 2) := by decide +kernel
theorem dX6_choicesAsTold_74 : decode cX6_choicesAsTold 74 = .ok (.iconst 1, 1) := by decide +kernel
theorem dX6_choicesAsTold_75 : decode cX6_choicesAsTold 75 = .ok (.iload 7, 2) := by decide +kernel
theorem dX6_choicesAsTold_77 : decode cX6_choicesAsTold 77 = .ok (.ishl, 1) := by decide +kernel
theorem dX6_choicesAsTold_78 : decode cX6_choicesAsTold 78 = .ok (.ior, 1) := by decide +kernel
theorem dX6_choicesAsTold_79 : decode cX6_choicesAsTold 79 = .ok (.istore 6, 2) := by decide +kernel
theorem dX6_choicesAsTold_81 : decode cX6_choicesAsTold 81 = .ok (.iinc 7 1, 3) := by decide +kernel
theorem dX6_choicesAsTold_84 : decode cX6_choicesAsTold 84 = .ok (.goto (-41), 3) := by decide +kernel
theorem dX6_choicesAsTold_87 : decode cX6_choicesAsTold 87 = .ok (.iload 6, 2) := by decide +kernel
theorem dX6_choicesAsTold_89 : decode cX6_choicesAsTold 89 = .ok (.ireturn, 1) := by decide +kernel
theorem dX6_trialGoesAsTold_0 : decode cX6_trialGoesAsTold 0 = .ok (.iconst 0, 1) := by decide +kernel
theorem dX6_trialGoesAsTold_1 : decode cX6_trialGoesAsTold 1 = .ok (.istore_n 3, 1) := by decide +kernel
theorem dX6_trialGoesAsTold_2 : decode cX6_trialGoesAsTold 2 = .ok (.iload_n 3, 1) := by decide +kernel
theorem dX6_trialGoesAsTold_3 : decode cX6_trialGoesAsTold 3 = .ok (.aload_n 1, 1) := by decide +kernel
theorem dX6_trialGoesAsTold_4 : decode cX6_trialGoesAsTold 4 = .ok (.getfield 219, 3) := by decide +kernel
theorem dX6_trialGoesAsTold_7 : decode cX6_trialGoesAsTold 7 = .ok (.if_icmp .ge 50, 3) := by decide +kernel
theorem dX6_trialGoesAsTold_10 : decode cX6_trialGoesAsTold 10 = .ok (.aload_n 1, 1) := by decide +kernel
theorem dX6_trialGoesAsTold_11 : decode cX6_trialGoesAsTold 11 = .ok (.getfield 220, 3) := by decide +kernel
theorem dX6_trialGoesAsTold_14 : decode cX6_trialGoesAsTold 14 = .ok (.iload_n 3, 1) := by decide +kernel
theorem dX6_trialGoesAsTold_15 : decode cX6_trialGoesAsTold 15 = .ok (.iaload, 1) := by decide +kernel
theorem dX6_trialGoesAsTold_16 : decode cX6_trialGoesAsTold 16 = .ok (.istore 4, 2) := by decide +kernel
theorem dX6_trialGoesAsTold_18 : decode cX6_trialGoesAsTold 18 = .ok (.iload 4, 2) := by decide +kernel
theorem dX6_trialGoesAsTold_20 : decode cX6_trialGoesAsTold 20 = .ok (.iconst (-1), 1) := by decide +kernel
theorem dX6_trialGoesAsTold_21 : decode cX6_trialGoesAsTold 21 = .ok (.if_icmp .eq 22, 3) := by decide +kernel
theorem dX6_trialGoesAsTold_24 : decode cX6_trialGoesAsTold 24 = .ok (.iload 4, 2) := by decide +kernel
theorem dX6_trialGoesAsTold_26 : decode cX6_trialGoesAsTold 26 = .ok (.aload_n 0, 1) := by decide +kernel
theorem dX6_trialGoesAsTold_27 : decode cX6_trialGoesAsTold 27 = .ok (.getfield 19, 3) := by decide +kernel
theorem dX6_trialGoesAsTold_30 : decode cX6_trialGoesAsTold 30 = .ok (.getfield 96, 3) := by decide +kernel
theorem dX6_trialGoesAsTold_33 : decode cX6_trialGoesAsTold 33 = .ok (.iload_n 2, 1) := by decide +kernel
theorem dX6_trialGoesAsTold_34 : decode cX6_trialGoesAsTold 34 = .ok (.aaload, 1) := by decide +kernel
theorem dX6_trialGoesAsTold_35 : decode cX6_trialGoesAsTold 35 = .ok (.getfield 174, 3) := by decide +kernel
theorem dX6_trialGoesAsTold_38 : decode cX6_trialGoesAsTold 38 = .ok (.if_icmp .eq 5, 3) := by decide +kernel
theorem dX6_trialGoesAsTold_41 : decode cX6_trialGoesAsTold 41 = .ok (.iconst 0, 1) := by decide +kernel
theorem dX6_trialGoesAsTold_42 : decode cX6_trialGoesAsTold 42 = .ok (.ireturn, 1) := by decide +kernel
theorem dX6_trialGoesAsTold_43 : decode cX6_trialGoesAsTold 43 = .ok (.aload_n 0, 1) := by decide +kernel
theorem dX6_trialGoesAsTold_44 : decode cX6_trialGoesAsTold 44 = .ok (.getfield 19, 3) := by decide +kernel
theorem dX6_trialGoesAsTold_47 : decode cX6_trialGoesAsTold 47 = .ok (.iconst 0, 1) := by decide +kernel
theorem dX6_trialGoesAsTold_48 : decode cX6_trialGoesAsTold 48 = .ok (.invokevirtual 169, 3) := by decide +kernel
theorem dX6_trialGoesAsTold_51 : decode cX6_trialGoesAsTold 51 = .ok (.iinc 3 1, 3) := by decide +kernel
theorem dX6_trialGoesAsTold_54 : decode cX6_trialGoesAsTold 54 = .ok (.goto (-52), 3) := by decide +kernel
theorem dX6_trialGoesAsTold_57 : decode cX6_trialGoesAsTold 57 = .ok (.iconst 1, 1) := by decide +kernel
theorem dX6_trialGoesAsTold_58 : decode cX6_trialGoesAsTold 58 = .ok (.ireturn, 1) := by decide +kernel
theorem dX6_talk_0 : decode cX6_talk 0 = .ok (.iload_n 1, 1) := by decide +kernel
theorem dX6_talk_1 : decode cX6_talk 1 = .ok (.iconst 1, 1) := by decide +kernel
theorem dX6_talk_2 : decode cX6_talk 2 = .ok (.if_icmp .lt 9, 3) := by decide +kernel
theorem dX6_talk_5 : decode cX6_talk 5 = .ok (.iload_n 1, 1) := by decide +kernel
theorem dX6_talk_6 : decode cX6_talk 6 = .ok (.bipush 20, 2) := by decide +kernel
theorem dX6_talk_8 : decode cX6_talk 8 = .ok (.if_icmp .le 10, 3) := by decide +kernel
theorem dX6_talk_11 : decode cX6_talk 11 = .ok (.aload_n 0, 1) := by decide +kernel
theorem dX6_talk_12 : decode cX6_talk 12 = .ok (.ldc 59, 2) := by decide +kernel
theorem dX6_talk_14 : decode cX6_talk 14 = .ok (.invokevirtual 60, 3) := by decide +kernel
theorem dX6_talk_17 : decode cX6_talk 17 = .ok (.ireturn, 1) := by decide +kernel
theorem dX6_talk_18 : decode cX6_talk 18 = .ok (.aload_n 0, 1) := by decide +kernel
theorem dX6_talk_19 : decode cX6_talk 19 = .ok (.getfield 12, 3) := by decide +kernel
theorem dX6_talk_22 : decode cX6_talk 22 = .ok (.getfield 125, 3) := by decide +kernel
theorem dX6_talk_25 : decode cX6_talk 25 = .ok (.iload_n 1, 1) := by decide +kernel
theorem dX6_talk_26 : decode cX6_talk 26 = .ok (.iadd, 1) := by decide +kernel
theorem dX6_talk_27 : decode cX6_talk 27 = .ok (.ldc 128, 2) := by decide +kernel
theorem dX6_talk_29 : decode cX6_talk 29 = .ok (.if_icmp .le 10, 3) := by decide +kernel
theorem dX6_talk_32 : decode cX6_talk 32 = .ok (.aload_n 0, 1) := by decide +kernel
theorem dX6_talk_33 : decode cX6_talk 33 = .ok (.ldc 114, 2) := by decide +kernel
theorem dX6_talk_35 : decode cX6_talk 35 = .ok (.invokevirtual 60, 3) := by decide +kernel
theorem dX6_talk_38 : decode cX6_talk 38 = .ok (.ireturn, 1) := by decide +kernel
theorem dX6_talk_39 : decode cX6_talk 39 = .ok (.iconst 0, 1) := by decide +kernel
theorem dX6_talk_40 : decode cX6_talk 40 = .ok (.istore_n 2, 1) := by decide +kernel
theorem dX6_talk_41 : decode cX6_talk 41 = .ok (.iload_n 2, 1) := by decide +kernel
theorem dX6_talk_42 : decode cX6_talk 42 = .ok (.iload_n 1, 1) := by decide +kernel
theorem dX6_talk_43 : decode cX6_talk 43 = .ok (.if_icmp .ge 24, 3) := by decide +kernel
theorem dX6_talk_46 : decode cX6_talk 46 = .ok (.aload_n 0, 1) := by decide +kernel
theorem dX6_talk_47 : decode cX6_talk 47 = .ok (.getfield 12, 3) := by decide +kernel
theorem dX6_talk_50 : decode cX6_talk 50 = .ok (.invokevirtual 223, 3) := by decide +kernel
theorem dX6_talk_53 : decode cX6_talk 53 = .ok (.aload_n 0, 1) := by decide +kernel
theorem dX6_talk_54 : decode cX6_talk 54 = .ok (.getfield 12, 3) := by decide +kernel
theorem dX6_talk_57 : decode cX6_talk 57 = .ok (.iconst 0, 1) := by decide +kernel
theorem dX6_talk_58 : decode cX6_talk 58 = .ok (.invokevirtual 169, 3) := by decide +kernel
theorem dX6_talk_61 : decode cX6_talk 61 = .ok (.iinc 2 1, 3) := by decide +kernel
theorem dX6_talk_64 : decode cX6_talk 64 = .ok (.goto (-23), 3) := by decide +kernel
theorem dX6_talk_67 : decode cX6_talk 67 = .ok (.aload_n 0, 1) := by decide +kernel
theorem dX6_talk_68 : decode cX6_talk 68 = .ok (.getfield 12, 3) := by decide +kernel
theorem dX6_talk_71 : decode cX6_talk 71 = .ok (.invokevirtual 132, 3) := by decide +kernel
theorem dX6_talk_74 : decode cX6_talk 74 = .ok (.ireturn, 1) := by decide +kernel
theorem dX6_odds_0 : decode cX6_odds 0 = .ok (.aload_n 0, 1) := by decide +kernel
theorem dX6_odds_1 : decode cX6_odds 1 = .ok (.getfield 12, 3) := by decide +kernel
theorem dX6_odds_4 : decode cX6_odds 4 = .ok (.iload_n 1, 1) := by decide +kernel
theorem dX6_odds_5 : decode cX6_odds 5 = .ok (.invokevirtual 88, 3) := by decide +kernel
theorem dX6_odds_8 : decode cX6_odds 8 = .ok (.ifCond .eq 20, 3) := by decide +kernel
theorem dX6_odds_11 : decode cX6_odds 11 = .ok (.iload_n 2, 1) := by decide +kernel
theorem dX6_odds_12 : decode cX6_odds 12 = .ok (.bipush 15, 2) := by decide +kernel
theorem dX6_odds_14 : decode cX6_odds 14 = .ok (.invokestatic 51, 3) := by decide +kernel
theorem dX6_odds_17 : decode cX6_odds 17 = .ok (.ifCond .eq 11, 3) := by decide +kernel
theorem dX6_odds_20 : decode cX6_odds 20 = .ok (.iload_n 3, 1) := by decide +kernel
theorem dX6_odds_21 : decode cX6_odds 21 = .ok (.iconst 1, 1) := by decide +kernel
theorem dX6_odds_22 : decode cX6_odds 22 = .ok (.invokestatic 51, 3) := by decide +kernel
theorem dX6_odds_25 : decode cX6_odds 25 = .ok (.ifCond .ne 11, 3) := by decide +kernel
theorem dX6_odds_28 : decode cX6_odds 28 = .ok (.aload_n 0, 1) := by decide +kernel
theorem dX6_odds_29 : decode cX6_odds 29 = .ok (.ldc 59, 2) := by decide +kernel
theorem dX6_odds_31 : decode cX6_odds 31 = .ok (.invokevirtual 60, 3) := by decide +kernel
theorem dX6_odds_34 : decode cX6_odds 34 = .ok (.i2l, 1) := by decide +kernel
theorem dX6_odds_35 : decode cX6_odds 35 = .ok (.lreturn, 1) := by decide +kernel
theorem dX6_odds_36 : decode cX6_odds 36 = .ok (.aload_n 0, 1) := by decide +kernel
theorem dX6_odds_37 : decode cX6_odds 37 = .ok (.getfield 12, 3) := by decide +kernel
theorem dX6_odds_40 : decode cX6_odds 40 = .ok (.iload_n 1, 1) := by decide +kernel
theorem dX6_odds_41 : decode cX6_odds 41 = .ok (.invokevirtual 180, 3) := by decide +kernel
theorem dX6_odds_44 : decode cX6_odds 44 = .ok (.istore 4, 2) := by decide +kernel
theorem dX6_odds_46 : decode cX6_odds 46 = .ok (.bipush 16, 2) := by decide +kernel
theorem dX6_odds_48 : decode cX6_odds 48 = .ok (.istore 5, 2) := by decide +kernel
theorem dX6_odds_50 : decode cX6_odds 50 = .ok (.iload 5, 2) := by decide +kernel
theorem dX6_odds_52 : decode cX6_odds 52 = .ok (.iconst 1, 1) := by decide +kernel
theorem dX6_odds_53 : decode cX6_odds 53 = .ok (.if_icmp .le 25, 3) := by decide +kernel
theorem dX6_odds_56 : decode cX6_odds 56 = .ok (.iload 4, 2) := by decide +kernel
theorem dX6_odds_58 : decode cX6_odds 58 = .ok (.iconst 2, 1) := by decide +kernel
theorem dX6_odds_59 : decode cX6_odds 59 = .ok (.irem, 1) := by decide +kernel
theorem dX6_odds_60 : decode cX6_odds 60 = .ok (.ifCond .ne 18, 3) := by decide +kernel
theorem dX6_odds_63 : decode cX6_odds 63 = .ok (.iload 4, 2) := by decide +kernel
theorem dX6_odds_65 : decode cX6_odds 65 = .ok (.iconst 2, 1) := by decide +kernel
theorem dX6_odds_66 : decode cX6_odds 66 = .ok (.idiv, 1) := by decide +kernel
theorem dX6_odds_67 : decode cX6_odds 67 = .ok (.istore 4, 2) := by decide +kernel
theorem dX6_odds_69 : decode cX6_odds 69 = .ok (.iload 5, 2) := by decide +kernel
theorem dX6_odds_71 : decode cX6_odds 71 = .ok (.iconst 2, 1) := by decide +kernel
theorem dX6_odds_72 : decode cX6_odds 72 = .ok (.idiv, 1) := by decide +kernel
theorem dX6_odds_73 : decode cX6_odds 73 = .ok (.istore 5, 2) := by decide +kernel
theorem dX6_odds_75 : decode cX6_odds 75 = .ok (.goto (-25), 3) := by decide +kernel
theorem dX6_odds_78 : decode cX6_odds 78 = .ok (.iload_n 3, 1) := by decide +kernel
theorem dX6_odds_79 : decode cX6_odds 79 = .ok (.ifCond .ne 8, 3) := by decide +kernel
theorem dX6_odds_82 : decode cX6_odds 82 = .ok (.iload 4, 2) := by decide +kernel
theorem dX6_odds_84 : decode cX6_odds 84 = .ok (.goto 5, 3) := by decide +kernel
theorem dX6_odds_87 : decode cX6_odds 87 = .ok (.iload 5, 2) := by decide +kernel
theorem dX6_odds_89 : decode cX6_odds 89 = .ok (.iload_n 2, 1) := by decide +kernel
theorem dX6_odds_90 : decode cX6_odds 90 = .ok (.invokestatic 226, 3) := by decide +kernel
theorem dX6_odds_93 : decode cX6_odds 93 = .ok (.lreturn, 1) := by decide +kernel
theorem dX6_seed_0 : decode cX6_seed 0 = .ok (.aload_n 0, 1) := by decide +kernel
theorem dX6_seed_1 : decode cX6_seed 1 = .ok (.getfield 12, 3) := by decide +kernel
theorem dX6_seed_4 : decode cX6_seed 4 = .ok (.getfield 230, 3) := by decide +kernel
theorem dX6_seed_7 : decode cX6_seed 7 = .ok (.istore_n 2, 1) := by decide +kernel
theorem dX6_seed_8 : decode cX6_seed 8 = .ok (.aload_n 0, 1) := by decide +kernel
theorem dX6_seed_9 : decode cX6_seed 9 = .ok (.getfield 12, 3) := by decide +kernel
theorem dX6_seed_12 : decode cX6_seed 12 = .ok (.iload_n 1, 1) := by decide +kernel
theorem dX6_seed_13 : decode cX6_seed 13 = .ok (.putfield 230, 3) := by decide +kernel
theorem dX6_seed_16 : decode cX6_seed 16 = .ok (.iload_n 2, 1) := by decide +kernel
theorem dX6_seed_17 : decode cX6_seed 17 = .ok (.ireturn, 1) := by decide +kernel
theorem dX6_power_0 : decode cX6_power 0 = .ok (.lconst 1, 1) := by decide +kernel
theorem dX6_power_1 : decode cX6_power 1 = .ok (.lstore_n 2, 1) := by decide +kernel
theorem dX6_power_2 : decode cX6_power 2 = .ok (.iconst 0, 1) := by decide +kernel
theorem dX6_power_3 : decode cX6_power 3 = .ok (.istore 4, 2) := by decide +kernel
theorem dX6_power_5 : decode cX6_power 5 = .ok (.iload 4, 2) := by decide +kernel
theorem dX6_power_7 : decode cX6_power 7 = .ok (.iload_n 1, 1) := by decide +kernel
theorem dX6_power_8 : decode cX6_power 8 = .ok (.if_icmp .ge 14, 3) := by decide +kernel
theorem dX6_power_11 : decode cX6_power 11 = .ok (.lload_n 2, 1) := by decide +kernel
theorem dX6_power_12 : decode cX6_power 12 = .ok (.iload_n 0, 1) := by decide +kernel
theorem dX6_power_13 : decode cX6_power 13 = .ok (.i2l, 1) := by decide +kernel
theorem dX6_power_14 : decode cX6_power 14 = .ok (.lmul, 1) := by decide +kernel
theorem dX6_power_15 : decode cX6_power 15 = .ok (.lstore_n 2, 1) := by decide +kernel
theorem dX6_power_16 : decode cX6_power 16 = .ok (.iinc 4 1, 3) := by decide +kernel
theorem dX6_power_19 : decode cX6_power 19 = .ok (.goto (-14), 3) := by decide +kernel
theorem dX6_power_22 : decode cX6_power 22 = .ok (.lload_n 2, 1) := by decide +kernel
theorem dX6_power_23 : decode cX6_power 23 = .ok (.lreturn, 1) := by decide +kernel
theorem dX6_feed_0 : decode cX6_feed 0 = .ok (.iload_n 2, 1) := by decide +kernel
theorem dX6_feed_1 : decode cX6_feed 1 = .ok (.iconst 1, 1) := by decide +kernel
theorem dX6_feed_2 : decode cX6_feed 2 = .ok (.if_icmp .lt 8, 3) := by decide +kernel
theorem dX6_feed_5 : decode cX6_feed 5 = .ok (.iload_n 2, 1) := by decide +kernel
theorem dX6_feed_6 : decode cX6_feed 6 = .ok (.iconst 4, 1) := by decide +kernel
theorem dX6_feed_7 : decode cX6_feed 7 = .ok (.if_icmp .le 10, 3) := by decide +kernel
theorem dX6_feed_10 : decode cX6_feed 10 = .ok (.aload_n 0, 1) := by decide +kernel
theorem dX6_feed_11 : decode cX6_feed 11 = .ok (.ldc 59, 2) := by decide +kernel
theorem dX6_feed_13 : decode cX6_feed 13 = .ok (.invokevirtual 60, 3) := by decide +kernel
theorem dX6_feed_16 : decode cX6_feed 16 = .ok (.ireturn, 1) := by decide +kernel
theorem dX6_feed_17 : decode cX6_feed 17 = .ok (.aload_n 0, 1) := by decide +kernel
theorem dX6_feed_18 : decode cX6_feed 18 = .ok (.getfield 29, 3) := by decide +kernel
theorem dX6_feed_21 : decode cX6_feed 21 = .ok (.getfield 233, 3) := by decide +kernel
theorem dX6_feed_24 : decode cX6_feed 24 = .ok (.iload_n 2, 1) := by decide +kernel
theorem dX6_feed_25 : decode cX6_feed 25 = .ok (.iadd, 1) := by decide +kernel
theorem dX6_feed_26 : decode cX6_feed 26 = .ok (.bipush 120, 2) := by decide +kernel
theorem dX6_feed_28 : decode cX6_feed 28 = .ok (.if_icmp .le 10, 3) := by decide +kernel
theorem dX6_feed_31 : decode cX6_feed 31 = .ok (.aload_n 0, 1) := by decide +kernel
theorem dX6_feed_32 : decode cX6_feed 32 = .ok (.ldc 84, 2) := by decide +kernel
theorem dX6_feed_34 : decode cX6_feed 34 = .ok (.invokevirtual 60, 3) := by decide +kernel
theorem dX6_feed_37 : decode cX6_feed 37 = .ok (.ireturn, 1) := by decide +kernel
theorem dX6_feed_38 : decode cX6_feed 38 = .ok (.iload_n 2, 1) := by decide +kernel
theorem dX6_feed_39 : decode cX6_feed 39 = .ok (.iconst 1, 1) := by decide +kernel
theorem dX6_feed_40 : decode cX6_feed 40 = .ok (.isub, 1) := by decide +kernel
theorem dX6_feed_41 : decode cX6_feed 41 = .ok (.istore_n 3, 1) := by decide +kernel
theorem dX6_feed_42 : decode cX6_feed 42 = .ok (.iload_n 3, 1) := by decide +kernel
theorem dX6_feed_43 : decode cX6_feed 43 = .ok (.ifCond .lt 23, 3) := by decide +kernel
theorem dX6_feed_46 : decode cX6_feed 46 = .ok (.aload_n 0, 1) := by decide +kernel
theorem dX6_feed_47 : decode cX6_feed 47 = .ok (.getfield 29, 3) := by decide +kernel
theorem dX6_feed_50 : decode cX6_feed 50 = .ok (.iload_n 1, 1) := by decide +kernel
theorem dX6_feed_51 : decode cX6_feed 51 = .ok (.bipush 8, 2) := by decide +kernel
theorem dX6_feed_53 : decode cX6_feed 53 = .ok (.iload_n 3, 1) := by decide +kernel
theorem dX6_feed_54 : decode cX6_feed 54 = .ok (.imul, 1) := by decide +kernel
theorem dX6_feed_55 : decode cX6_feed 55 = .ok (.iushr, 1) := by decide +kernel
theorem dX6_feed_56 : decode cX6_feed 56 = .ok (.i2b, 1) := by decide +kernel
theorem dX6_feed_57 : decode cX6_feed 57 = .ok (.invokevirtual 236, 3) := by decide +kernel
theorem dX6_feed_60 : decode cX6_feed 60 = .ok (.iinc 3 (-1), 3) := by decide +kernel
theorem dX6_feed_63 : decode cX6_feed 63 = .ok (.goto (-21), 3) := by decide +kernel
theorem dX6_feed_66 : decode cX6_feed 66 = .ok (.aload_n 0, 1) := by decide +kernel
theorem dX6_feed_67 : decode cX6_feed 67 = .ok (.getfield 29, 3) := by decide +kernel
theorem dX6_feed_70 : decode cX6_feed 70 = .ok (.getfield 233, 3) := by decide +kernel
theorem dX6_feed_73 : decode cX6_feed 73 = .ok (.ireturn, 1) := by decide +kernel
theorem dX6_wipe_0 : decode cX6_wipe 0 = .ok (.aload_n 0, 1) := by decide +kernel
theorem dX6_wipe_1 : decode cX6_wipe 1 = .ok (.getfield 29, 3) := by decide +kernel
theorem dX6_wipe_4 : decode cX6_wipe 4 = .ok (.getfield 233, 3) := by decide +kernel
theorem dX6_wipe_7 : decode cX6_wipe 7 = .ok (.istore_n 1, 1) := by decide +kernel
theorem dX6_wipe_8 : decode cX6_wipe 8 = .ok (.aload_n 0, 1) := by decide +kernel
theorem dX6_wipe_9 : decode cX6_wipe 9 = .ok (.getfield 29, 3) := by decide +kernel
theorem dX6_wipe_12 : decode cX6_wipe 12 = .ok (.iconst 0, 1) := by decide +kernel
theorem dX6_wipe_13 : decode cX6_wipe 13 = .ok (.putfield 233, 3) := by decide +kernel
theorem dX6_wipe_16 : decode cX6_wipe 16 = .ok (.iload_n 1, 1) := by decide +kernel
theorem dX6_wipe_17 : decode cX6_wipe 17 = .ok (.ireturn, 1) := by decide +kernel
theorem dX6_text_0 : decode cX6_text 0 = .ok (.aload_n 0, 1) := by decide +kernel
theorem dX6_text_1 : decode cX6_text 1 = .ok (.getfield 19, 3) := by decide +kernel
theorem dX6_text_4 : decode cX6_text 4 = .ok (.aload_n 0, 1) := by decide +kernel
theorem dX6_text_5 : decode cX6_text 5 = .ok (.getfield 12, 3) := by decide +kernel
theorem dX6_text_8 : decode cX6_text 8 = .ok (.invokevirtual 157, 3) := by decide +kernel
theorem dX6_text_11 : decode cX6_text 11 = .ok (.aload_n 0, 1) := by decide +kernel
theorem dX6_text_12 : decode cX6_text 12 = .ok (.getfield 36, 3) := by decide +kernel
theorem dX6_text_15 : decode cX6_text 15 = .ok (.aload_n 0, 1) := by decide +kernel
theorem dX6_text_16 : decode cX6_text 16 = .ok (.getfield 29, 3) := by decide +kernel
theorem dX6_text_19 : decode cX6_text 19 = .ok (.aload_n 0, 1) := by decide +kernel
theorem dX6_text_20 : decode cX6_text 20 = .ok (.getfield 19, 3) := by decide +kernel
theorem dX6_text_23 : decode cX6_text 23 = .ok (.invokevirtual 240, 3) := by decide +kernel
theorem dX6_text_26 : decode cX6_text 26 = .ok (.istore_n 1, 1) := by decide +kernel
theorem dX6_text_27 : decode cX6_text 27 = .ok (.iload_n 1, 1) := by decide +kernel
theorem dX6_text_28 : decode cX6_text 28 = .ok (.ifCond .lt 14, 3) := by decide +kernel
theorem dX6_text_31 : decode cX6_text 31 = .ok (.aload_n 0, 1) := by decide +kernel
theorem dX6_text_32 : decode cX6_text 32 = .ok (.getfield 12, 3) := by decide +kernel
theorem dX6_text_35 : decode cX6_text 35 = .ok (.aload_n 0, 1) := by decide +kernel
theorem dX6_text_36 : decode cX6_text 36 = .ok (.getfield 19, 3) := by decide +kernel
theorem dX6_text_39 : decode cX6_text 39 = .ok (.invokevirtual 157, 3) := by decide +kernel
theorem dX6_text_42 : decode cX6_text 42 = .ok (.aload_n 0, 1) := by decide +kernel
theorem dX6_text_43 : decode cX6_text 43 = .ok (.getfield 29, 3) := by decide +kernel
theorem dX6_text_46 : decode cX6_text 46 = .ok (.iconst 0, 1) := by decide +kernel
theorem dX6_text_47 : decode cX6_text 47 = .ok (.putfield 233, 3) := by decide +kernel
theorem dX6_text_50 : decode cX6_text 50 = .ok (.iload_n 1, 1) := by decide +kernel
theorem dX6_text_51 : decode cX6_text 51 = .ok (.ireturn, 1) := by decide +kernel
theorem dX6_hold_0 : decode cX6_hold 0 = .ok (.iload_n 1, 1) := by decide +kernel
theorem dX6_hold_1 : decode cX6_hold 1 = .ok (.bipush 9, 2) := by decide +kernel
theorem dX6_hold_3 : decode cX6_hold 3 = .ok (.invokestatic 51, 3) := by decide +kernel
theorem dX6_hold_6 : decode cX6_hold 6 = .ok (.ifCond .eq 19, 3) := by decide +kernel
theorem dX6_hold_9 : decode cX6_hold 9 = .ok (.iload_n 2, 1) := by decide +kernel
theorem dX6_hold_10 : decode cX6_hold 10 = .ok (.iconst (-1), 1) := by decide +kernel
theorem dX6_hold_11 : decode cX6_hold 11 = .ok (.if_icmp .eq 21, 3) := by decide +kernel
theorem dX6_hold_14 : decode cX6_hold 14 = .ok (.aload_n 0, 1) := by decide +kernel
theorem dX6_hold_15 : decode cX6_hold 15 = .ok (.getfield 12, 3) := by decide +kernel
theorem dX6_hold_18 : decode cX6_hold 18 = .ok (.iload_n 2, 1) := by decide +kernel
theorem dX6_hold_19 : decode cX6_hold 19 = .ok (.invokevirtual 88, 3) := by decide +kernel
theorem dX6_hold_22 : decode cX6_hold 22 = .ok (.ifCond .ne 10, 3) := by decide +kernel
theorem dX6_hold_25 : decode cX6_hold 25 = .ok (.aload_n 0, 1) := by decide +kernel
theorem dX6_hold_26 : decode cX6_hold 26 = .ok (.ldc 59, 2) := by decide +kernel
theorem dX6_hold_28 : decode cX6_hold 28 = .ok (.invokevirtual 60, 3) := by decide +kernel
theorem dX6_hold_31 : decode cX6_hold 31 = .ok (.ireturn, 1) := by decide +kernel
theorem dX6_hold_32 : decode cX6_hold 32 = .ok (.aload_n 0, 1) := by decide +kernel
theorem dX6_hold_33 : decode cX6_hold 33 = .ok (.getfield 12, 3) := by decide +kernel
theorem dX6_hold_36 : decode cX6_hold 36 = .ok (.getfield 244, 3) := by decide +kernel
theorem dX6_hold_39 : decode cX6_hold 39 = .ok (.iload_n 1, 1) := by decide +kernel
theorem dX6_hold_40 : decode cX6_hold 40 = .ok (.iload_n 2, 1) := by decide +kernel
theorem dX6_hold_41 : decode cX6_hold 41 = .ok (.iastore, 1) := by decide +kernel
theorem dX6_hold_42 : decode cX6_hold 42 = .ok (.iconst 1, 1) := by decide +kernel
theorem dX6_hold_43 : decode cX6_hold 43 = .ok (.ireturn, 1) := by decide +kernel
theorem dX6_as_0 : decode cX6_as 0 = .ok (.iload_n 1, 1) := by decide +kernel
theorem dX6_as_1 : decode cX6_as 1 = .ok (.bipush 9, 2) := by decide +kernel
theorem dX6_as_3 : decode cX6_as 3 = .ok (.invokestatic 51, 3) := by decide +kernel
theorem dX6_as_6 : decode cX6_as 6 = .ok (.ifCond .eq 12, 3) := by decide +kernel
theorem dX6_as_9 : decode cX6_as 9 = .ok (.iload_n 2, 1) := by decide +kernel
theorem dX6_as_10 : decode cX6_as 10 = .ok (.bipush 6, 2) := by decide +kernel
theorem dX6_as_12 : decode cX6_as 12 = .ok (.invokestatic 51, 3) := by decide +kernel
theorem dX6_as_15 : decode cX6_as 15 = .ok (.ifCond .ne 10, 3) := by decide +kernel
theorem dX6_as_18 : decode cX6_as 18 = .ok (.aload_n 0, 1) := by decide +kernel
theorem dX6_as_19 : decode cX6_as 19 = .ok (.ldc 59, 2) := by decide +kernel
theorem dX6_as_21 : decode cX6_as 21 = .ok (.invokevirtual 60, 3) := by decide +kernel
theorem dX6_as_24 : decode cX6_as 24 = .ok (.ireturn, 1) := by decide +kernel
theorem dX6_as_25 : decode cX6_as 25 = .ok (.aload_n 0, 1) := by decide +kernel
theorem dX6_as_26 : decode cX6_as 26 = .ok (.getfield 12, 3) := by decide +kernel
theorem dX6_as_29 : decode cX6_as 29 = .ok (.getfield 244, 3) := by decide +kernel
theorem dX6_as_32 : decode cX6_as 32 = .ok (.iload_n 1, 1) := by decide +kernel
theorem dX6_as_33 : decode cX6_as 33 = .ok (.iaload, 1) := by decide +kernel
theorem dX6_as_34 : decode cX6_as 34 = .ok (.istore_n 3, 1) := by decide +kernel
theorem dX6_as_35 : decode cX6_as 35 = .ok (.aload_n 0, 1) := by decide +kernel
theorem dX6_as_36 : decode cX6_as 36 = .ok (.getfield 12, 3) := by decide +kernel
theorem dX6_as_39 : decode cX6_as 39 = .ok (.iload_n 3, 1) := by decide +kernel
theorem dX6_as_40 : decode cX6_as 40 = .ok (.invokevirtual 88, 3) := by decide +kernel
theorem dX6_as_43 : decode cX6_as 43 = .ok (.ifCond .ne 10, 3) := by decide +kernel
theorem dX6_as_46 : decode cX6_as 46 = .ok (.aload_n 0, 1) := by decide +kernel
theorem dX6_as_47 : decode cX6_as 47 = .ok (.ldc 247, 2) := by decide +kernel
theorem dX6_as_49 : decode cX6_as 49 = .ok (.invokevirtual 60, 3) := by decide +kernel
theorem dX6_as_52 : decode cX6_as 52 = .ok (.ireturn, 1) := by decide +kernel
theorem dX6_as_53 : decode cX6_as 53 = .ok (.aload_n 0, 1) := by decide +kernel
theorem dX6_as_54 : decode cX6_as 54 = .ok (.getfield 12, 3) := by decide +kernel
theorem dX6_as_57 : decode cX6_as 57 = .ok (.getfield 96, 3) := by decide +kernel
theorem dX6_as_60 : decode cX6_as 60 = .ok (.iload_n 3, 1) := by decide +kernel
theorem dX6_as_61 : decode cX6_as 61 = .ok (.aaload, 1) := by decide +kernel
theorem dX6_as_62 : decode cX6_as 62 = .ok (.iload_n 2, 1) := by decide +kernel
theorem dX6_as_63 : decode cX6_as 63 = .ok (.invokevirtual 248, 3) := by decide +kernel
theorem dX6_as_66 : decode cX6_as 66 = .ok (.ifCond .eq 7, 3) := by decide +kernel
theorem dX6_as_69 : decode cX6_as 69 = .ok (.iload_n 3, 1) := by decide +kernel
theorem dX6_as_70 : decode cX6_as 70 = .ok (.goto 9, 3) := by decide +kernel
theorem dX6_as_73 : decode cX6_as 73 = .ok (.aload_n 0, 1) := by decide +kernel
theorem dX6_as_74 : decode cX6_as 74 = .ok (.ldc 251, 2) := by decide +kernel
theorem dX6_as_76 : decode cX6_as 76 = .ok (.invokevirtual 60, 3) := by decide +kernel
theorem dX6_as_79 : decode cX6_as 79 = .ok (.ireturn, 1) := by decide +kernel
theorem dX6_sheet_0 : decode cX6_sheet 0 = .ok (.iload_n 1, 1) := by decide +kernel
theorem dX6_sheet_1 : decode cX6_sheet 1 = .ok (.invokestatic 252, 3) := by decide +kernel
theorem dX6_sheet_4 : decode cX6_sheet 4 = .ok (.ifCond .eq 25, 3) := by decide +kernel
theorem dX6_sheet_7 : decode cX6_sheet 7 = .ok (.iload_n 2, 1) := by decide +kernel
theorem dX6_sheet_8 : decode cX6_sheet 8 = .ok (.ifCond .eq 28, 3) := by decide +kernel
theorem dX6_sheet_11 : decode cX6_sheet 11 = .ok (.iload_n 2, 1) := by decide +kernel
theorem dX6_sheet_12 : decode cX6_sheet 12 = .ok (.bipush 8, 2) := by decide +kernel
theorem dX6_sheet_14 : decode cX6_sheet 14 = .ok (.if_icmp .eq 22, 3) := by decide +kernel
theorem dX6_sheet_17 : decode cX6_sheet 17 = .ok (.iload_n 2, 1) := by decide +kernel
theorem dX6_sheet_18 : decode cX6_sheet 18 = .ok (.bipush 16, 2) := by decide +kernel
theorem dX6_sheet_20 : decode cX6_sheet 20 = .ok (.if_icmp .eq 16, 3) := by decide +kernel
theorem dX6_sheet_23 : decode cX6_sheet 23 = .ok (.iload_n 2, 1) := by decide +kernel
theorem dX6_sheet_24 : decode cX6_sheet 24 = .ok (.bipush 32, 2) := by decide +kernel
theorem dX6_sheet_26 : decode cX6_sheet 26 = .ok (.if_icmp .eq 10, 3) := by decide +kernel
theorem dX6_sheet_29 : decode cX6_sheet 29 = .ok (.aload_n 0, 1) := by decide +kernel
theorem dX6_sheet_30 : decode cX6_sheet 30 = .ok (.ldc 59, 2) := by decide +kernel
theorem dX6_sheet_32 : decode cX6_sheet 32 = .ok (.invokevirtual 60, 3) := by decide +kernel
theorem dX6_sheet_35 : decode cX6_sheet 35 = .ok (.ireturn, 1) := by decide +kernel
theorem dX6_sheet_36 : decode cX6_sheet 36 = .ok (.iload_n 3, 1) := by decide +kernel
theorem dX6_sheet_37 : decode cX6_sheet 37 = .ok (.ifCond .ge 10, 3) := by decide +kernel
theorem dX6_sheet_40 : decode cX6_sheet 40 = .ok (.aload_n 0, 1) := by decide +kernel
theorem dX6_sheet_41 : decode cX6_sheet 41 = .ok (.ldc 255, 2) := by decide +kernel
theorem dX6_sheet_43 : decode cX6_sheet 43 = .ok (.invokevirtual 60, 3) := by decide +kernel
theorem dX6_sheet_46 : decode cX6_sheet 46 = .ok (.ireturn, 1) := by decide +kernel
theorem dX6_sheet_47 : decode cX6_sheet 47 = .ok (.iload_n 3, 1) := by decide +kernel
theorem dX6_sheet_48 : decode cX6_sheet 48 = .ok (.bipush 40, 2) := by decide +kernel
theorem dX6_sheet_50 : decode cX6_sheet 50 = .ok (.if_icmp .le 10, 3) := by decide +kernel
theorem dX6_sheet_53 : decode cX6_sheet 53 = .ok (.aload_n 0, 1) := by decide +kernel
theorem dX6_sheet_54 : decode cX6_sheet 54 = .ok (.ldc 59, 2) := by decide +kernel
theorem dX6_sheet_56 : decode cX6_sheet 56 = .ok (.invokevirtual 60, 3) := by decide +kernel
theorem dX6_sheet_59 : decode cX6_sheet 59 = .ok (.ireturn, 1) := by decide +kernel
theorem dX6_sheet_60 : decode cX6_sheet 60 = .ok (.aload_n 0, 1) := by decide +kernel
theorem dX6_sheet_61 : decode cX6_sheet 61 = .ok (.getfield 42, 3) := by decide +kernel
theorem dX6_sheet_64 : decode cX6_sheet 64 = .ok (.iload_n 1, 1) := by decide +kernel
theorem dX6_sheet_65 : decode cX6_sheet 65 = .ok (.aaload, 1) := by decide +kernel
theorem dX6_sheet_66 : decode cX6_sheet 66 = .ok (.iload_n 2, 1) := by decide +kernel
theorem dX6_sheet_67 : decode cX6_sheet 67 = .ok (.iload_n 2, 1) := by decide +kernel
theorem dX6_sheet_68 : decode cX6_sheet 68 = .ok (.ifCond .ne 7, 3) := by decide +kernel
theorem dX6_sheet_71 : decode cX6_sheet 71 = .ok (.iconst 0, 1) := by decide +kernel
theorem dX6_sheet_72 : decode cX6_sheet 72 = .ok (.goto 4, 3) := by decide +kernel
theorem dX6_sheet_75 : decode cX6_sheet 75 = .ok (.iload_n 3, 1) := by decide +kernel
theorem dX6_sheet_76 : decode cX6_sheet 76 = .ok (.invokevirtual 256, 3) := by decide +kernel
theorem dX6_sheet_79 : decode cX6_sheet 79 = .ok (.aload_n 0, 1) := by decide +kernel
theorem dX6_sheet_80 : decode cX6_sheet 80 = .ok (.getfield 42, 3) := by decide +kernel
theorem dX6_sheet_83 : decode cX6_sheet 83 = .ok (.iload_n 1, 1) := by decide +kernel
theorem dX6_sheet_84 : decode cX6_sheet 84 = .ok (.aaload, 1) := by decide +kernel
theorem dX6_sheet_85 : decode cX6_sheet 85 = .ok (.getfield 219, 3) := by decide +kernel
theorem dX6_sheet_88 : decode cX6_sheet 88 = .ok (.ireturn, 1) := by decide +kernel
theorem dX6_write_0 : decode cX6_write 0 = .ok (.aload_n 0, 1) := by decide +kernel
theorem dX6_write_1 : decode cX6_write 1 = .ok (.iload_n 1, 1) := by decide +kernel
theorem dX6_write_2 : decode cX6_write 2 = .ok (.invokevirtual 212, 3) := by decide +kernel
theorem dX6_write_5 : decode cX6_write 5 = .ok (.istore 4, 2) := by decide +kernel
theorem dX6_write_7 : decode cX6_write 7 = .ok (.iload 4, 2) := by decide +kernel
theorem dX6_write_9 : decode cX6_write 9 = .ok (.ifCond .eq 10, 3) := by decide +kernel
theorem dX6_write_12 : decode cX6_write 12 = .ok (.aload_n 0, 1) := by decide +kernel
theorem dX6_write_13 : decode cX6_write 13 = .ok (.iload 4, 2) := by decide +kernel
theorem dX6_write_15 : decode cX6_write 15 = .ok (.invokevirtual 60, 3) := by decide +kernel
theorem dX6_write_18 : decode cX6_write 18 = .ok (.ireturn, 1) := by decide +kernel
theorem dX6_write_19 : decode cX6_write 19 = .ok (.iload_n 2, 1) := by decide +kernel
theorem dX6_write_20 : decode cX6_write 20 = .ok (.aload_n 0, 1) := by decide +kernel
theorem dX6_write_21 : decode cX6_write 21 = .ok (.getfield 42, 3) := by decide +kernel
theorem dX6_write_24 : decode cX6_write 24 = .ok (.iload_n 1, 1) := by decide +kernel
theorem dX6_write_25 : decode cX6_write 25 = .ok (.aaload, 1) := by decide +kernel
theorem dX6_write_26 : decode cX6_write 26 = .ok (.getfield 219, 3) := by decide +kernel
theorem dX6_write_29 : decode cX6_write 29 = .ok (.iconst 1, 1) := by decide +kernel
theorem dX6_write_30 : decode cX6_write 30 = .ok (.isub, 1) := by decide +kernel
theorem dX6_write_31 : decode cX6_write 31 = .ok (.invokestatic 51, 3) := by decide +kernel
theorem dX6_write_34 : decode cX6_write 34 = .ok (.ifCond .ne 10, 3) := by decide +kernel
theorem dX6_write_37 : decode cX6_write 37 = .ok (.aload_n 0, 1) := by decide +kernel
theorem dX6_write_38 : decode cX6_write 38 = .ok (.ldc 59, 2) := by decide +kernel
theorem dX6_write_40 : decode cX6_write 40 = .ok (.invokevirtual 60, 3) := by decide +kernel
theorem dX6_write_43 : decode cX6_write 43 = .ok (.ireturn, 1) := by decide +kernel
theorem dX6_write_44 : decode cX6_write 44 = .ok (.aload_n 0, 1) := by decide +kernel
theorem dX6_write_45 : decode cX6_write 45 = .ok (.getfield 42, 3) := by decide +kernel
theorem dX6_write_48 : decode cX6_write 48 = .ok (.iload_n 1, 1) := by decide +kernel
theorem dX6_write_49 : decode cX6_write 49 = .ok (.aaload, 1) := by decide +kernel
theorem dX6_write_50 : decode cX6_write 50 = .ok (.iload_n 2, 1) := by decide +kernel
theorem dX6_write_51 : decode cX6_write 51 = .ok (.iload_n 3, 1) := by decide +kernel
theorem dX6_write_52 : decode cX6_write 52 = .ok (.invokevirtual 259, 3) := by decide +kernel
theorem dX6_write_55 : decode cX6_write 55 = .ok (.iconst 1, 1) := by decide +kernel
theorem dX6_write_56 : decode cX6_write 56 = .ok (.ireturn, 1) := by decide +kernel
theorem dX6_copy_0 : decode cX6_copy 0 = .ok (.iload_n 1, 1) := by decide +kernel
theorem dX6_copy_1 : decode cX6_copy 1 = .ok (.invokestatic 252, 3) := by decide +kernel
theorem dX6_copy_4 : decode cX6_copy 4 = .ok (.ifCond .eq 10, 3) := by decide +kernel
theorem dX6_copy_7 : decode cX6_copy 7 = .ok (.iload_n 3, 1) := by decide +kernel
theorem dX6_copy_8 : decode cX6_copy 8 = .ok (.invokestatic 252, 3) := by decide +kernel
theorem dX6_copy_11 : decode cX6_copy 11 = .ok (.ifCond .ne 10, 3) := by decide +kernel
theorem dX6_copy_14 : decode cX6_copy 14 = .ok (.aload_n 0, 1) := by decide +kernel
theorem dX6_copy_15 : decode cX6_copy 15 = .ok (.ldc 59, 2) := by decide +kernel
theorem dX6_copy_17 : decode cX6_copy 17 = .ok (.invokevirtual 60, 3) := by decide +kernel
theorem dX6_copy_20 : decode cX6_copy 20 = .ok (.ireturn, 1) := by decide +kernel
theorem dX6_copy_21 : decode cX6_copy 21 = .ok (.aload_n 0, 1) := by decide +kernel
theorem dX6_copy_22 : decode cX6_copy 22 = .ok (.getfield 42, 3) := by decide +kernel
theorem dX6_copy_25 : decode cX6_copy 25 = .ok (.iload_n 1, 1) := by decide +kernel
theorem dX6_copy_26 : decode cX6_copy 26 = .ok (.aaload, 1) := by decide +kernel
theorem dX6_copy_27 : decode cX6_copy 27 = .ok (.astore 6, 2) := by decide +kernel
theorem dX6_copy_29 : decode cX6_copy 29 = .ok (.aload_n 0, 1) := by decide +kernel
theorem dX6_copy_30 : decode cX6_copy 30 = .ok (.getfield 42, 3) := by decide +kernel
theorem dX6_copy_33 : decode cX6_copy 33 = .ok (.iload_n 3, 1) := by decide +kernel
theorem dX6_copy_34 : decode cX6_copy 34 = .ok (.aaload, 1) := by decide +kernel
theorem dX6_copy_35 : decode cX6_copy 35 = .ok (.astore 7, 2) := by decide +kernel
theorem dX6_copy_37 : decode cX6_copy 37 = .ok (.aload 6, 2) := by decide +kernel
theorem dX6_copy_39 : decode cX6_copy 39 = .ok (.invokevirtual 262, 3) := by decide +kernel
theorem dX6_copy_42 : decode cX6_copy 42 = .ok (.ifCond .ne 11, 3) := by decide +kernel
theorem dX6_copy_45 : decode cX6_copy 45 = .ok (.aload 7, 2) := by decide +kernel
theorem dX6_copy_47 : decode cX6_copy 47 = .ok (.invokevirtual 262, 3) := by decide +kernel
theorem dX6_copy_50 : decode cX6_copy 50 = .ok (.ifCond .eq 10, 3) := by decide +kernel
theorem dX6_copy_53 : decode cX6_copy 53 = .ok (.aload_n 0, 1) := by decide +kernel
theorem dX6_copy_54 : decode cX6_copy 54 = .ok (.ldc 247, 2) := by decide +kernel
theorem dX6_copy_56 : decode cX6_copy 56 = .ok (.invokevirtual 60, 3) := by decide +kernel
theorem dX6_copy_59 : decode cX6_copy 59 = .ok (.ireturn, 1) := by decide +kernel
theorem dX6_copy_60 : decode cX6_copy 60 = .ok (.aload 6, 2) := by decide +kernel
theorem dX6_copy_62 : decode cX6_copy 62 = .ok (.getfield 266, 3) := by decide +kernel
theorem dX6_copy_65 : decode cX6_copy 65 = .ok (.aload 7, 2) := by decide +kernel
theorem dX6_copy_67 : decode cX6_copy 67 = .ok (.getfield 266, 3) := by decide +kernel
theorem dX6_copy_70 : decode cX6_copy 70 = .ok (.if_icmp .eq 10, 3) := by decide +kernel
theorem dX6_copy_73 : decode cX6_copy 73 = .ok (.aload_n 0, 1) := by decide +kernel
theorem dX6_copy_74 : decode cX6_copy 74 = .ok (.ldc 251, 2) := by decide +kernel
theorem dX6_copy_76 : decode cX6_copy 76 = .ok (.invokevirtual 60, 3) := by decide +kernel
theorem dX6_copy_79 : decode cX6_copy 79 = .ok (.ireturn, 1) := by decide +kernel
theorem dX6_copy_80 : decode cX6_copy 80 = .ok (.aload 6, 2) := by decide +kernel
theorem dX6_copy_82 : decode cX6_copy 82 = .ok (.iload_n 2, 1) := by decide +kernel
theorem dX6_copy_83 : decode cX6_copy 83 = .ok (.iload 5, 2) := by decide +kernel
theorem dX6_copy_85 : decode cX6_copy 85 = .ok (.invokevirtual 269, 3) := by decide +kernel
theorem dX6_copy_88 : decode cX6_copy 88 = .ok (.ifCond .eq 15, 3) := by decide +kernel
theorem dX6_copy_91 : decode cX6_copy 91 = .ok (.aload 7, 2) := by decide +kernel
theorem dX6_copy_93 : decode cX6_copy 93 = .ok (.iload 4, 2) := by decide +kernel
theorem dX6_copy_95 : decode cX6_copy 95 = .ok (.iload 5, 2) := by decide +kernel
theorem dX6_copy_97 : decode cX6_copy 97 = .ok (.invokevirtual 269, 3) := by decide +kernel
theorem dX6_copy_100 : decode cX6_copy 100 = .ok (.ifCond .ne 10, 3) := by decide +kernel
theorem dX6_copy_103 : decode cX6_copy 103 = .ok (.aload_n 0, 1) := by decide +kernel
theorem dX6_copy_104 : decode cX6_copy 104 = .ok (.ldc 59, 2) := by decide +kernel
theorem dX6_copy_106 : decode cX6_copy 106 = .ok (.invokevirtual 60, 3) := by decide +kernel
theorem dX6_copy_109 : decode cX6_copy 109 = .ok (.ireturn, 1) := by decide +kernel
theorem dX6_copy_110 : decode cX6_copy 110 = .ok (.aload 6, 2) := by decide +kernel
theorem dX6_copy_112 : decode cX6_copy 112 = .ok (.getfield 220, 3) := by decide +kernel
theorem dX6_copy_115 : decode cX6_copy 115 = .ok (.iload_n 2, 1) := by decide +kernel
theorem dX6_copy_116 : decode cX6_copy 116 = .ok (.aload 7, 2) := by decide +kernel
theorem dX6_copy_118 : decode cX6_copy 118 = .ok (.getfield 220, 3) := by decide +kernel
theorem dX6_copy_121 : decode cX6_copy 121 = .ok (.iload 4, 2) := by decide +kernel
theorem dX6_copy_123 : decode cX6_copy 123 = .ok (.iload 5, 2) := by decide +kernel
theorem dX6_copy_125 : decode cX6_copy 125 = .ok (.invokestatic 272, 3) := by decide +kernel
theorem dX6_copy_128 : decode cX6_copy 128 = .ok (.iload 5, 2) := by decide +kernel
theorem dX6_copy_130 : decode cX6_copy 130 = .ok (.ireturn, 1) := by decide +kernel
theorem dX6_load_0 : decode cX6_load 0 = .ok (.aload_n 0, 1) := by decide +kernel
theorem dX6_load_1 : decode cX6_load 1 = .ok (.iload_n 1, 1) := by decide +kernel
theorem dX6_load_2 : decode cX6_load 2 = .ok (.invokevirtual 212, 3) := by decide +kernel
theorem dX6_load_5 : decode cX6_load 5 = .ok (.istore_n 2, 1) := by decide +kernel
theorem dX6_load_6 : decode cX6_load 6 = .ok (.iload_n 2, 1) := by decide +kernel
theorem dX6_load_7 : decode cX6_load 7 = .ok (.ifCond .eq 9, 3) := by decide +kernel
theorem dX6_load_10 : decode cX6_load 10 = .ok (.aload_n 0, 1) := by decide +kernel
theorem dX6_load_11 : decode cX6_load 11 = .ok (.iload_n 2, 1) := by decide +kernel
theorem dX6_load_12 : decode cX6_load 12 = .ok (.invokevirtual 60, 3) := by decide +kernel
theorem dX6_load_15 : decode cX6_load 15 = .ok (.ireturn, 1) := by decide +kernel
theorem dX6_load_16 : decode cX6_load 16 = .ok (.iconst 0, 1) := by decide +kernel
theorem dX6_load_17 : decode cX6_load 17 = .ok (.istore_n 3, 1) := by decide +kernel
theorem dX6_load_18 : decode cX6_load 18 = .ok (.iload_n 3, 1) := by decide +kernel
theorem dX6_load_19 : decode cX6_load 19 = .ok (.bipush 6, 2) := by decide +kernel
theorem dX6_load_21 : decode cX6_load 21 = .ok (.if_icmp .ge 59, 3) := by decide +kernel
theorem dX6_load_24 : decode cX6_load 24 = .ok (.iload_n 3, 1) := by decide +kernel
theorem dX6_load_25 : decode cX6_load 25 = .ok (.aload_n 0, 1) := by decide +kernel
theorem dX6_load_26 : decode cX6_load 26 = .ok (.getfield 42, 3) := by decide +kernel
theorem dX6_load_29 : decode cX6_load 29 = .ok (.iload_n 1, 1) := by decide +kernel
theorem dX6_load_30 : decode cX6_load 30 = .ok (.aaload, 1) := by decide +kernel
theorem dX6_load_31 : decode cX6_load 31 = .ok (.getfield 219, 3) := by decide +kernel
theorem dX6_load_34 : decode cX6_load 34 = .ok (.if_icmp .ge 46, 3) := by decide +kernel
theorem dX6_load_37 : decode cX6_load 37 = .ok (.aload_n 0, 1) := by decide +kernel
theorem dX6_load_38 : decode cX6_load 38 = .ok (.getfield 42, 3) := by decide +kernel
theorem dX6_load_41 : decode cX6_load 41 = .ok (.iload_n 1, 1) := by decide +kernel
theorem dX6_load_42 : decode cX6_load 42 = .ok (.aaload, 1) := by decide +kernel
theorem dX6_load_43 : decode cX6_load 43 = .ok (.getfield 220, 3) := by decide +kernel
theorem dX6_load_46 : decode cX6_load 46 = .ok (.iload_n 3, 1) := by decide +kernel
theorem dX6_load_47 : decode cX6_load 47 = .ok (.iaload, 1) := by decide +kernel
theorem dX6_load_48 : decode cX6_load 48 = .ok (.invokestatic 55, 3) := by decide +kernel
theorem dX6_load_51 : decode cX6_load 51 = .ok (.ifCond .eq 29, 3) := by decide +kernel
theorem dX6_load_54 : decode cX6_load 54 = .ok (.aload_n 0, 1) := by decide +kernel
theorem dX6_load_55 : decode cX6_load 55 = .ok (.getfield 12, 3) := by decide +kernel
theorem dX6_load_58 : decode cX6_load 58 = .ok (.getfield 64, 3) := by decide +kernel
theorem dX6_load_61 : decode cX6_load 61 = .ok (.iload_n 3, 1) := by decide +kernel
theorem dX6_load_62 : decode cX6_load 62 = .ok (.aload_n 0, 1) := by decide +kernel
theorem dX6_load_63 : decode cX6_load 63 = .ok (.getfield 42, 3) := by decide +kernel
theorem dX6_load_66 : decode cX6_load 66 = .ok (.iload_n 1, 1) := by decide +kernel
theorem dX6_load_67 : decode cX6_load 67 = .ok (.aaload, 1) := by decide +kernel
theorem dX6_load_68 : decode cX6_load 68 = .ok (.getfield 220, 3) := by decide +kernel
theorem dX6_load_71 : decode cX6_load 71 = .ok (.iload_n 3, 1) := by decide +kernel
theorem dX6_load_72 : decode cX6_load 72 = .ok (.iaload, 1) := by decide +kernel
theorem dX6_load_73 : decode cX6_load 73 = .ok (.iastore, 1) := by decide +kernel
theorem dX6_load_74 : decode cX6_load 74 = .ok (.iinc 3 1, 3) := by decide +kernel
theorem dX6_load_77 : decode cX6_load 77 = .ok (.goto (-59), 3) := by decide +kernel
theorem dX6_load_80 : decode cX6_load 80 = .ok (.iload_n 3, 1) := by decide +kernel
theorem dX6_load_81 : decode cX6_load 81 = .ok (.ireturn, 1) := by decide +kernel
theorem dX6_judge_0 : decode cX6_judge 0 = .ok (.aload_n 0, 1) := by decide +kernel
theorem dX6_judge_1 : decode cX6_judge 1 = .ok (.iload_n 1, 1) := by decide +kernel
theorem dX6_judge_2 : decode cX6_judge 2 = .ok (.invokevirtual 212, 3) := by decide +kernel
theorem dX6_judge_5 : decode cX6_judge 5 = .ok (.istore_n 2, 1) := by decide +kernel
theorem dX6_judge_6 : decode cX6_judge 6 = .ok (.iload_n 2, 1) := by decide +kernel
theorem dX6_judge_7 : decode cX6_judge 7 = .ok (.ifCond .eq 9, 3) := by decide +kernel
theorem dX6_judge_10 : decode cX6_judge 10 = .ok (.aload_n 0, 1) := by decide +kernel
theorem dX6_judge_11 : decode cX6_judge 11 = .ok (.iload_n 2, 1) := by decide +kernel
theorem dX6_judge_12 : decode cX6_judge 12 = .ok (.invokevirtual 60, 3) := by decide +kernel
theorem dX6_judge_15 : decode cX6_judge 15 = .ok (.ireturn, 1) := by decide +kernel
theorem dX6_judge_16 : decode cX6_judge 16 = .ok (.iconst 0, 1) := by decide +kernel
theorem dX6_judge_17 : decode cX6_judge 17 = .ok (.istore_n 3, 1) := by decide +kernel
theorem dX6_judge_18 : decode cX6_judge 18 = .ok (.iload_n 3, 1) := by decide +kernel
theorem dX6_judge_19 : decode cX6_judge 19 = .ok (.aload_n 0, 1) := by decide +kernel
theorem dX6_judge_20 : decode cX6_judge 20 = .ok (.getfield 42, 3) := by decide +kernel
theorem dX6_judge_23 : decode cX6_judge 23 = .ok (.iload_n 1, 1) := by decide +kernel
theorem dX6_judge_24 : decode cX6_judge 24 = .ok (.aaload, 1) := by decide +kernel
theorem dX6_judge_25 : decode cX6_judge 25 = .ok (.getfield 219, 3) := by decide +kernel
theorem dX6_judge_28 : decode cX6_judge 28 = .ok (.if_icmp .ge 50, 3) := by decide +kernel
theorem dX6_judge_31 : decode cX6_judge 31 = .ok (.aload_n 0, 1) := by decide +kernel
theorem dX6_judge_32 : decode cX6_judge 32 = .ok (.getfield 12, 3) := by decide +kernel
theorem dX6_judge_35 : decode cX6_judge 35 = .ok (.iload_n 3, 1) := by decide +kernel
theorem dX6_judge_36 : decode cX6_judge 36 = .ok (.invokevirtual 88, 3) := by decide +kernel
theorem dX6_judge_39 : decode cX6_judge 39 = .ok (.ifCond .eq 29, 3) := by decide +kernel
theorem dX6_judge_42 : decode cX6_judge 42 = .ok (.aload_n 0, 1) := by decide +kernel
theorem dX6_judge_43 : decode cX6_judge 43 = .ok (.getfield 12, 3) := by decide +kernel
theorem dX6_judge_46 : decode cX6_judge 46 = .ok (.getfield 96, 3) := by decide +kernel
theorem dX6_judge_49 : decode cX6_judge 49 = .ok (.iload_n 3, 1) := by decide +kernel
theorem dX6_judge_50 : decode cX6_judge 50 = .ok (.aaload, 1) := by decide +kernel
theorem dX6_judge_51 : decode cX6_judge 51 = .ok (.getfield 118, 3) := by decide +kernel
theorem dX6_judge_54 : decode cX6_judge 54 = .ok (.aload_n 0, 1) := by decide +kernel
theorem dX6_judge_55 : decode cX6_judge 55 = .ok (.getfield 42, 3) := by decide +kernel
theorem dX6_judge_58 : decode cX6_judge 58 = .ok (.iload_n 1, 1) := by decide +kernel
theorem dX6_judge_59 : decode cX6_judge 59 = .ok (.aaload, 1) := by decide +kernel
theorem dX6_judge_60 : decode cX6_judge 60 = .ok (.getfield 220, 3) := by decide +kernel
theorem dX6_judge_63 : decode cX6_judge 63 = .ok (.iload_n 3, 1) := by decide +kernel
theorem dX6_judge_64 : decode cX6_judge 64 = .ok (.iaload, 1) := by decide +kernel
theorem dX6_judge_65 : decode cX6_judge 65 = .ok (.if_icmp .eq 7, 3) := by decide +kernel
theorem dX6_judge_68 : decode cX6_judge 68 = .ok (.iconst 1, 1) := by decide +kernel
theorem dX6_judge_69 : decode cX6_judge 69 = .ok (.iload_n 3, 1) := by decide +kernel
theorem dX6_judge_70 : decode cX6_judge 70 = .ok (.iadd, 1) := by decide +kernel
theorem dX6_judge_71 : decode cX6_judge 71 = .ok (.ireturn, 1) := by decide +kernel
theorem dX6_judge_72 : decode cX6_judge 72 = .ok (.iinc 3 1, 3) := by decide +kernel
theorem dX6_judge_75 : decode cX6_judge 75 = .ok (.goto (-57), 3) := by decide +kernel
theorem dX6_judge_78 : decode cX6_judge 78 = .ok (.iconst 0, 1) := by decide +kernel
theorem dX6_judge_79 : decode cX6_judge 79 = .ok (.ireturn, 1) := by decide +kernel
theorem dX6_image_0 : decode cX6_image 0 = .ok (.aload_n 0, 1) := by decide +kernel
theorem dX6_image_1 : decode cX6_image 1 = .ok (.getfield 16, 3) := by decide +kernel
theorem dX6_image_4 : decode cX6_image 4 = .ok (.aload_n 0, 1) := by decide +kernel
theorem dX6_image_5 : decode cX6_image 5 = .ok (.getfield 12, 3) := by decide +kernel
theorem dX6_image_8 : decode cX6_image 8 = .ok (.invokevirtual 157, 3) := by decide +kernel
theorem dX6_image_11 : decode cX6_image 11 = .ok (.aload_n 0, 1) := by decide +kernel
theorem dX6_image_12 : decode cX6_image 12 = .ok (.iconst 1, 1) := by decide +kernel
theorem dX6_image_13 : decode cX6_image 13 = .ok (.putfield 22, 3) := by decide +kernel
theorem dX6_image_16 : decode cX6_image 16 = .ok (.iconst 1, 1) := by decide +kernel
theorem dX6_image_17 : decode cX6_image 17 = .ok (.ireturn, 1) := by decide +kernel
theorem dX6_undo_0 : decode cX6_undo 0 = .ok (.aload_n 0, 1) := by decide +kernel
theorem dX6_undo_1 : decode cX6_undo 1 = .ok (.getfield 22, 3) := by decide +kernel
theorem dX6_undo_4 : decode cX6_undo 4 = .ok (.ifCond .ne 10, 3) := by decide +kernel
theorem dX6_undo_7 : decode cX6_undo 7 = .ok (.aload_n 0, 1) := by decide +kernel
theorem dX6_undo_8 : decode cX6_undo 8 = .ok (.ldc 173, 2) := by decide +kernel
theorem dX6_undo_10 : decode cX6_undo 10 = .ok (.invokevirtual 60, 3) := by decide +kernel
theorem dX6_undo_13 : decode cX6_undo 13 = .ok (.ireturn, 1) := by decide +kernel
theorem dX6_undo_14 : decode cX6_undo 14 = .ok (.aload_n 0, 1) := by decide +kernel
theorem dX6_undo_15 : decode cX6_undo 15 = .ok (.getfield 12, 3) := by decide +kernel
theorem dX6_undo_18 : decode cX6_undo 18 = .ok (.aload_n 0, 1) := by decide +kernel
theorem dX6_undo_19 : decode cX6_undo 19 = .ok (.getfield 16, 3) := by decide +kernel
theorem dX6_undo_22 : decode cX6_undo 22 = .ok (.invokevirtual 157, 3) := by decide +kernel
theorem dX6_undo_25 : decode cX6_undo 25 = .ok (.aload_n 0, 1) := by decide +kernel
theorem dX6_undo_26 : decode cX6_undo 26 = .ok (.getfield 12, 3) := by decide +kernel
theorem dX6_undo_29 : decode cX6_undo 29 = .ok (.getfield 125, 3) := by decide +kernel
theorem dX6_undo_32 : decode cX6_undo 32 = .ok (.ireturn, 1) := by decide +kernel
theorem dX6_tear_0 : decode cX6_tear 0 = .ok (.aload_n 0, 1) := by decide +kernel
theorem dX6_tear_1 : decode cX6_tear 1 = .ok (.getfield 22, 3) := by decide +kernel
theorem dX6_tear_4 : decode cX6_tear 4 = .ok (.ifCond .eq 7, 3) := by decide +kernel
theorem dX6_tear_7 : decode cX6_tear 7 = .ok (.iconst 1, 1) := by decide +kernel
theorem dX6_tear_8 : decode cX6_tear 8 = .ok (.goto 4, 3) := by decide +kernel
theorem dX6_tear_11 : decode cX6_tear 11 = .ok (.iconst 0, 1) := by decide +kernel
theorem dX6_tear_12 : decode cX6_tear 12 = .ok (.istore_n 1, 1) := by decide +kernel
theorem dX6_tear_13 : decode cX6_tear 13 = .ok (.aload_n 0, 1) := by decide +kernel
theorem dX6_tear_14 : decode cX6_tear 14 = .ok (.iconst 0, 1) := by decide +kernel
theorem dX6_tear_15 : decode cX6_tear 15 = .ok (.putfield 22, 3) := by decide +kernel
theorem dX6_tear_18 : decode cX6_tear 18 = .ok (.iload_n 1, 1) := by decide +kernel
theorem dX6_tear_19 : decode cX6_tear 19 = .ok (.ireturn, 1) := by decide +kernel
theorem dX6_count_0 : decode cX6_count 0 = .ok (.iload_n 1, 1) := by decide +kernel
theorem dX6_count_1 : decode cX6_count 1 = .ok (.tableswitch 117 0 7 #[47, 55, 63, 74, 85, 93, 101, 109], 47) := by decide +kernel
theorem dX6_count_48 : decode cX6_count 48 = .ok (.aload_n 0, 1) := by decide +kernel
theorem dX6_count_49 : decode cX6_count 49 = .ok (.getfield 12, 3) := by decide +kernel
theorem dX6_count_52 : decode cX6_count 52 = .ok (.getfield 125, 3) := by decide +kernel
theorem dX6_count_55 : decode cX6_count 55 = .ok (.ireturn, 1) := by decide +kernel
theorem dX6_count_56 : decode cX6_count 56 = .ok (.aload_n 0, 1) := by decide +kernel
theorem dX6_count_57 : decode cX6_count 57 = .ok (.getfield 12, 3) := by decide +kernel
theorem dX6_count_60 : decode cX6_count 60 = .ok (.getfield 80, 3) := by decide +kernel
theorem dX6_count_63 : decode cX6_count 63 = .ok (.ireturn, 1) := by decide +kernel
theorem dX6_count_64 : decode cX6_count 64 = .ok (.aload_n 0, 1) := by decide +kernel
theorem dX6_count_65 : decode cX6_count 65 = .ok (.getfield 12, 3) := by decide +kernel
theorem dX6_count_68 : decode cX6_count 68 = .ok (.invokevirtual 132, 3) := by decide +kernel
theorem dX6_count_71 : decode cX6_count 71 = .ok (.invokestatic 204, 3) := by decide +kernel
theorem dX6_count_74 : decode cX6_count 74 = .ok (.ireturn, 1) := by decide +kernel
theorem dX6_count_75 : decode cX6_count 75 = .ok (.aload_n 0, 1) := by decide +kernel
theorem dX6_count_76 : decode cX6_count 76 = .ok (.getfield 12, 3) := by decide +kernel
theorem dX6_count_79 : decode cX6_count 79 = .ok (.invokevirtual 135, 3) := by decide +kernel
theorem dX6_count_82 : decode cX6_count 82 = .ok (.invokestatic 204, 3) := by decide +kernel
theorem dX6_count_85 : decode cX6_count 85 = .ok (.ireturn, 1) := by decide +kernel
theorem dX6_count_86 : decode cX6_count 86 = .ok (.aload_n 0, 1) := by decide +kernel
theorem dX6_count_87 : decode cX6_count 87 = .ok (.getfield 12, 3) := by decide +kernel
theorem dX6_count_90 : decode cX6_count 90 = .ok (.invokevirtual 142, 3) := by decide +kernel
theorem dX6_count_93 : decode cX6_count 93 = .ok (.ireturn, 1) := by decide +kernel
theorem dX6_count_94 : decode cX6_count 94 = .ok (.aload_n 0, 1) := by decide +kernel
theorem dX6_count_95 : decode cX6_count 95 = .ok (.getfield 29, 3) := by decide +kernel
theorem dX6_count_98 : decode cX6_count 98 = .ok (.getfield 233, 3) := by decide +kernel
theorem dX6_count_101 : decode cX6_count 101 = .ok (.ireturn, 1) := by decide +kernel
theorem dX6_count_102 : decode cX6_count 102 = .ok (.aload_n 0, 1) := by decide +kernel
theorem dX6_count_103 : decode cX6_count 103 = .ok (.getfield 12, 3) := by decide +kernel
theorem dX6_count_106 : decode cX6_count 106 = .ok (.getfield 230, 3) := by decide +kernel
theorem dX6_count_109 : decode cX6_count 109 = .ok (.ireturn, 1) := by decide +kernel
theorem dX6_count_110 : decode cX6_count 110 = .ok (.aload_n 0, 1) := by decide +kernel
theorem dX6_count_111 : decode cX6_count 111 = .ok (.getfield 12, 3) := by decide +kernel
theorem dX6_count_114 : decode cX6_count 114 = .ok (.invokevirtual 278, 3) := by decide +kernel
theorem dX6_count_117 : decode cX6_count 117 = .ok (.ireturn, 1) := by decide +kernel
theorem dX6_count_118 : decode cX6_count 118 = .ok (.aload_n 0, 1) := by decide +kernel
theorem dX6_count_119 : decode cX6_count 119 = .ok (.ldc 59, 2) := by decide +kernel
theorem dX6_count_121 : decode cX6_count 121 = .ok (.invokevirtual 60, 3) := by decide +kernel
theorem dX6_count_124 : decode cX6_count 124 = .ok (.ireturn, 1) := by decide +kernel
theorem dX6_status_0 : decode cX6_status 0 = .ok (.iload_n 1, 1) := by decide +kernel
theorem dX6_status_1 : decode cX6_status 1 = .ok (.iconst (-1), 1) := by decide +kernel
theorem dX6_status_2 : decode cX6_status 2 = .ok (.if_icmp .ne 30, 3) := by decide +kernel
theorem dX6_status_5 : decode cX6_status 5 = .ok (.iconst 0, 1) := by decide +kernel
theorem dX6_status_6 : decode cX6_status 6 = .ok (.istore_n 2, 1) := by decide +kernel
theorem dX6_status_7 : decode cX6_status 7 = .ok (.iconst 0, 1) := by decide +kernel
theorem dX6_status_8 : decode cX6_status 8 = .ok (.istore_n 3, 1) := by decide +kernel
theorem dX6_status_9 : decode cX6_status 9 = .ok (.iload_n 3, 1) := by decide +kernel
theorem dX6_status_10 : decode cX6_status 10 = .ok (.bipush 7, 2) := by decide +kernel
theorem dX6_status_12 : decode cX6_status 12 = .ok (.if_icmp .ge 18, 3) := by decide +kernel
theorem dX6_status_15 : decode cX6_status 15 = .ok (.iload_n 2, 1) := by decide +kernel
theorem dX6_status_16 : decode cX6_status 16 = .ok (.aload_n 0, 1) := by decide +kernel
theorem dX6_status_17 : decode cX6_status 17 = .ok (.getfield 47, 3) := by decide +kernel
theorem dX6_status_20 : decode cX6_status 20 = .ok (.iload_n 3, 1) := by decide +kernel
theorem dX6_status_21 : decode cX6_status 21 = .ok (.iaload, 1) := by decide +kernel
theorem dX6_status_22 : decode cX6_status 22 = .ok (.iadd, 1) := by decide +kernel
theorem dX6_status_23 : decode cX6_status 23 = .ok (.istore_n 2, 1) := by decide +kernel
theorem dX6_status_24 : decode cX6_status 24 = .ok (.iinc 3 1, 3) := by decide +kernel
theorem dX6_status_27 : decode cX6_status 27 = .ok (.goto (-18), 3) := by decide +kernel
theorem dX6_status_30 : decode cX6_status 30 = .ok (.iload_n 2, 1) := by decide +kernel
theorem dX6_status_31 : decode cX6_status 31 = .ok (.ireturn, 1) := by decide +kernel
theorem dX6_status_32 : decode cX6_status 32 = .ok (.iload_n 1, 1) := by decide +kernel
theorem dX6_status_33 : decode cX6_status 33 = .ok (.bipush 6, 2) := by decide +kernel
theorem dX6_status_35 : decode cX6_status 35 = .ok (.invokestatic 51, 3) := by decide +kernel
theorem dX6_status_38 : decode cX6_status 38 = .ok (.ifCond .eq 12, 3) := by decide +kernel
theorem dX6_status_41 : decode cX6_status 41 = .ok (.aload_n 0, 1) := by decide +kernel
theorem dX6_status_42 : decode cX6_status 42 = .ok (.getfield 47, 3) := by decide +kernel
theorem dX6_status_45 : decode cX6_status 45 = .ok (.iload_n 1, 1) := by decide +kernel
theorem dX6_status_46 : decode cX6_status 46 = .ok (.iaload, 1) := by decide +kernel
theorem dX6_status_47 : decode cX6_status 47 = .ok (.goto 9, 3) := by decide +kernel
theorem dX6_status_50 : decode cX6_status 50 = .ok (.aload_n 0, 1) := by decide +kernel
theorem dX6_status_51 : decode cX6_status 51 = .ok (.ldc 59, 2) := by decide +kernel
theorem dX6_status_53 : decode cX6_status 53 = .ok (.invokevirtual 60, 3) := by decide +kernel
theorem dX6_status_56 : decode cX6_status 56 = .ok (.ireturn, 1) := by decide +kernel
theorem dX6_finding_0 : decode cX6_finding 0 = .ok (.ldc 59, 2) := by decide +kernel
theorem dX6_finding_2 : decode cX6_finding 2 = .ok (.iload_n 1, 1) := by decide +kernel
theorem dX6_finding_3 : decode cX6_finding 3 = .ok (.isub, 1) := by decide +kernel
theorem dX6_finding_4 : decode cX6_finding 4 = .ok (.istore_n 2, 1) := by decide +kernel
theorem dX6_finding_5 : decode cX6_finding 5 = .ok (.iload_n 2, 1) := by decide +kernel
theorem dX6_finding_6 : decode cX6_finding 6 = .ok (.bipush 6, 2) := by decide +kernel
theorem dX6_finding_8 : decode cX6_finding 8 = .ok (.invokestatic 51, 3) := by decide +kernel
theorem dX6_finding_11 : decode cX6_finding 11 = .ok (.ifCond .eq 13, 3) := by decide +kernel
theorem dX6_finding_14 : decode cX6_finding 14 = .ok (.aload_n 0, 1) := by decide +kernel
theorem dX6_finding_15 : decode cX6_finding 15 = .ok (.getfield 47, 3) := by decide +kernel
theorem dX6_finding_18 : decode cX6_finding 18 = .ok (.iload_n 2, 1) := by decide +kernel
theorem dX6_finding_19 : decode cX6_finding 19 = .ok (.dup2, 1) := by decide +kernel
theorem dX6_finding_20 : decode cX6_finding 20 = .ok (.iaload, 1) := by decide +kernel
theorem dX6_finding_21 : decode cX6_finding 21 = .ok (.iconst 1, 1) := by decide +kernel
theorem dX6_finding_22 : decode cX6_finding 22 = .ok (.iadd, 1) := by decide +kernel
theorem dX6_finding_23 : decode cX6_finding 23 = .ok (.iastore, 1) := by decide +kernel
theorem dX6_finding_24 : decode cX6_finding 24 = .ok (.iload_n 1, 1) := by decide +kernel
theorem dX6_finding_25 : decode cX6_finding 25 = .ok (.ireturn, 1) := by decide +kernel
theorem dX6_lackOf_0 : decode cX6_lackOf 0 = .ok (.iload_n 1, 1) := by decide +kernel
theorem dX6_lackOf_1 : decode cX6_lackOf 1 = .ok (.invokestatic 252, 3) := by decide +kernel
theorem dX6_lackOf_4 : decode cX6_lackOf 4 = .ok (.ifCond .ne 6, 3) := by decide +kernel
theorem dX6_lackOf_7 : decode cX6_lackOf 7 = .ok (.ldc 59, 2) := by decide +kernel
theorem dX6_lackOf_9 : decode cX6_lackOf 9 = .ok (.ireturn, 1) := by decide +kernel
theorem dX6_lackOf_10 : decode cX6_lackOf 10 = .ok (.aload_n 0, 1) := by decide +kernel
theorem dX6_lackOf_11 : decode cX6_lackOf 11 = .ok (.getfield 42, 3) := by decide +kernel
theorem dX6_lackOf_14 : decode cX6_lackOf 14 = .ok (.iload_n 1, 1) := by decide +kernel
theorem dX6_lackOf_15 : decode cX6_lackOf 15 = .ok (.aaload, 1) := by decide +kernel
theorem dX6_lackOf_16 : decode cX6_lackOf 16 = .ok (.invokevirtual 262, 3) := by decide +kernel
theorem dX6_lackOf_19 : decode cX6_lackOf 19 = .ok (.ifCond .eq 8, 3) := by decide +kernel
theorem dX6_lackOf_22 : decode cX6_lackOf 22 = .ok (.ldc 247, 2) := by decide +kernel
theorem dX6_lackOf_24 : decode cX6_lackOf 24 = .ok (.goto 4, 3) := by decide +kernel
theorem dX6_lackOf_27 : decode cX6_lackOf 27 = .ok (.iconst 0, 1) := by decide +kernel
theorem dX6_lackOf_28 : decode cX6_lackOf 28 = .ok (.ireturn, 1) := by decide +kernel
theorem dX6_isSheet_0 : decode cX6_isSheet 0 = .ok (.iload_n 0, 1) := by decide +kernel
theorem dX6_isSheet_1 : decode cX6_isSheet 1 = .ok (.iconst 3, 1) := by decide +kernel
theorem dX6_isSheet_2 : decode cX6_isSheet 2 = .ok (.invokestatic 51, 3) := by decide +kernel
theorem dX6_isSheet_5 : decode cX6_isSheet 5 = .ok (.ireturn, 1) := by decide +kernel
theorem dX6_isWithin_0 : decode cX6_isWithin 0 = .ok (.iload_n 0, 1) := by decide +kernel
theorem dX6_isWithin_1 : decode cX6_isWithin 1 = .ok (.ifCond .lt 12, 3) := by decide +kernel
theorem dX6_isWithin_4 : decode cX6_isWithin 4 = .ok (.iload_n 0, 1) := by decide +kernel
theorem dX6_isWithin_5 : decode cX6_isWithin 5 = .ok (.iload_n 1, 1) := by decide +kernel
theorem dX6_isWithin_6 : decode cX6_isWithin 6 = .ok (.if_icmp .gt 7, 3) := by decide +kernel
theorem dX6_isWithin_9 : decode cX6_isWithin 9 = .ok (.iconst 1, 1) := by decide +kernel
theorem dX6_isWithin_10 : decode cX6_isWithin 10 = .ok (.goto 4, 3) := by decide +kernel
theorem dX6_isWithin_13 : decode cX6_isWithin 13 = .ok (.iconst 0, 1) := by decide +kernel
theorem dX6_isWithin_14 : decode cX6_isWithin 14 = .ok (.ireturn, 1) := by decide +kernel
theorem dX6_isIn_0 : decode cX6_isIn 0 = .ok (.iload_n 1, 1) := by decide +kernel
theorem dX6_isIn_1 : decode cX6_isIn 1 = .ok (.iload_n 0, 1) := by decide +kernel
theorem dX6_isIn_2 : decode cX6_isIn 2 = .ok (.ishr, 1) := by decide +kernel
theorem dX6_isIn_3 : decode cX6_isIn 3 = .ok (.iconst 1, 1) := by decide +kernel
theorem dX6_isIn_4 : decode cX6_isIn 4 = .ok (.iand, 1) := by decide +kernel
theorem dX6_isIn_5 : decode cX6_isIn 5 = .ok (.iconst 1, 1) := by decide +kernel
theorem dX6_isIn_6 : decode cX6_isIn 6 = .ok (.if_icmp .ne 7, 3) := by decide +kernel
theorem dX6_isIn_9 : decode cX6_isIn 9 = .ok (.iconst 1, 1) := by decide +kernel
theorem dX6_isIn_10 : decode cX6_isIn 10 = .ok (.goto 4, 3) := by decide +kernel
theorem dX6_isIn_13 : decode cX6_isIn 13 = .ok (.iconst 0, 1) := by decide +kernel
theorem dX6_isIn_14 : decode cX6_isIn 14 = .ok (.ireturn, 1) := by decide +kernel
theorem dX6_isSaying_0 : decode cX6_isSaying 0 = .ok (.iload_n 0, 1) := by decide +kernel
theorem dX6_isSaying_1 : decode cX6_isSaying 1 = .ok (.invokestatic 281, 3) := by decide +kernel
theorem dX6_isSaying_4 : decode cX6_isSaying 4 = .ok (.iconst 5, 1) := by decide +kernel
theorem dX6_isSaying_5 : decode cX6_isSaying 5 = .ok (.invokestatic 51, 3) := by decide +kernel
theorem dX6_isSaying_8 : decode cX6_isSaying 8 = .ok (.ifCond .eq 21, 3) := by decide +kernel
theorem dX6_isSaying_11 : decode cX6_isSaying 11 = .ok (.iload_n 0, 1) := by decide +kernel
theorem dX6_isSaying_12 : decode cX6_isSaying 12 = .ok (.sipush 1000, 3) := by decide +kernel
theorem dX6_isSaying_15 : decode cX6_isSaying 15 = .ok (.irem, 1) := by decide +kernel
theorem dX6_isSaying_16 : decode cX6_isSaying 16 = .ok (.sipush 159, 3) := by decide +kernel
theorem dX6_isSaying_19 : decode cX6_isSaying 19 = .ok (.invokestatic 51, 3) := by decide +kernel
theorem dX6_isSaying_22 : decode cX6_isSaying 22 = .ok (.ifCond .eq 7, 3) := by decide +kernel
theorem dX6_isSaying_25 : decode cX6_isSaying 25 = .ok (.iconst 1, 1) := by decide +kernel
theorem dX6_isSaying_26 : decode cX6_isSaying 26 = .ok (.goto 4, 3) := by decide +kernel
theorem dX6_isSaying_29 : decode cX6_isSaying 29 = .ok (.iconst 0, 1) := by decide +kernel
theorem dX6_isSaying_30 : decode cX6_isSaying 30 = .ok (.ireturn, 1) := by decide +kernel
theorem dX6_roomOf_0 : decode cX6_roomOf 0 = .ok (.iload_n 0, 1) := by decide +kernel
theorem dX6_roomOf_1 : decode cX6_roomOf 1 = .ok (.sipush 1000, 3) := by decide +kernel
theorem dX6_roomOf_4 : decode cX6_roomOf 4 = .ok (.idiv, 1) := by decide +kernel
theorem dX6_roomOf_5 : decode cX6_roomOf 5 = .ok (.ireturn, 1) := by decide +kernel
theorem dX6_topicOf_0 : decode cX6_topicOf 0 = .ok (.iload_n 0, 1) := by decide +kernel
theorem dX6_topicOf_1 : decode cX6_topicOf 1 = .ok (.sipush 1000, 3) := by decide +kernel
theorem dX6_topicOf_4 : decode cX6_topicOf 4 = .ok (.irem, 1) := by decide +kernel
theorem dX6_topicOf_5 : decode cX6_topicOf 5 = .ok (.bipush 10, 2) := by decide +kernel
theorem dX6_topicOf_7 : decode cX6_topicOf 7 = .ok (.idiv, 1) := by decide +kernel
theorem dX6_topicOf_8 : decode cX6_topicOf 8 = .ok (.ireturn, 1) := by decide +kernel
theorem dX6_loudOf_0 : decode cX6_loudOf 0 = .ok (.iload_n 0, 1) := by decide +kernel
theorem dX6_loudOf_1 : decode cX6_loudOf 1 = .ok (.bipush 10, 2) := by decide +kernel
theorem dX6_loudOf_3 : decode cX6_loudOf 3 = .ok (.irem, 1) := by decide +kernel
theorem dX6_loudOf_4 : decode cX6_loudOf 4 = .ok (.ireturn, 1) := by decide +kernel
theorem dX6_sayingOf_0 : decode cX6_sayingOf 0 = .ok (.sipush 1000, 3) := by decide +kernel
theorem dX6_sayingOf_3 : decode cX6_sayingOf 3 = .ok (.iload_n 0, 1) := by decide +kernel
theorem dX6_sayingOf_4 : decode cX6_sayingOf 4 = .ok (.imul, 1) := by decide +kernel
theorem dX6_sayingOf_5 : decode cX6_sayingOf 5 = .ok (.bipush 10, 2) := by decide +kernel
theorem dX6_sayingOf_7 : decode cX6_sayingOf 7 = .ok (.iload_n 1, 1) := by decide +kernel
theorem dX6_sayingOf_8 : decode cX6_sayingOf 8 = .ok (.imul, 1) := by decide +kernel
theorem dX6_sayingOf_9 : decode cX6_sayingOf 9 = .ok (.iadd, 1) := by decide +kernel
theorem dX6_sayingOf_10 : decode cX6_sayingOf 10 = .ok (.iload_n 2, 1) := by decide +kernel
theorem dX6_sayingOf_11 : decode cX6_sayingOf 11 = .ok (.iadd, 1) := by decide +kernel
theorem dX6_sayingOf_12 : decode cX6_sayingOf 12 = .ok (.ireturn, 1) := by decide +kernel
theorem dX7_init_0 : decode cX7_init 0 = .ok (.aload_n 0, 1) := by decide +kernel
theorem dX7_init_1 : decode cX7_init 1 = .ok (.invokespecial 1, 3) := by decide +kernel
theorem dX7_init_4 : decode cX7_init 4 = .ok (.aload_n 0, 1) := by decide +kernel
theorem dX7_init_5 : decode cX7_init 5 = .ok (.bipush 75, 2) := by decide +kernel
theorem dX7_init_7 : decode cX7_init 7 = .ok (.newarray .int, 2) := by decide +kernel
theorem dX7_init_9 : decode cX7_init 9 = .ok (.putfield 7, 3) := by decide +kernel
theorem dX7_init_12 : decode cX7_init 12 = .ok (.aload_n 0, 1) := by decide +kernel
theorem dX7_init_13 : decode cX7_init 13 = .ok (.bipush 75, 2) := by decide +kernel
theorem dX7_init_15 : decode cX7_init 15 = .ok (.newarray .int, 2) := by decide +kernel
theorem dX7_init_17 : decode cX7_init 17 = .ok (.putfield 13, 3) := by decide +kernel
theorem dX7_init_20 : decode cX7_init 20 = .ok (.aload_n 0, 1) := by decide +kernel
theorem dX7_init_21 : decode cX7_init 21 = .ok (.bipush 75, 2) := by decide +kernel
theorem dX7_init_23 : decode cX7_init 23 = .ok (.newarray .int, 2) := by decide +kernel
theorem dX7_init_25 : decode cX7_init 25 = .ok (.putfield 16, 3) := by decide +kernel
theorem dX7_init_28 : decode cX7_init 28 = .ok (.aload_n 0, 1) := by decide +kernel
theorem dX7_init_29 : decode cX7_init 29 = .ok (.bipush 75, 2) := by decide +kernel
theorem dX7_init_31 : decode cX7_init 31 = .ok (.newarray .int, 2) := by decide +kernel
theorem dX7_init_33 : decode cX7_init 33 = .ok (.putfield 19, 3) := by decide +kernel
theorem dX7_init_36 : decode cX7_init 36 = .ok (.aload_n 0, 1) := by decide +kernel
theorem dX7_init_37 : decode cX7_init 37 = .ok (.bipush 7, 2) := by decide +kernel
theorem dX7_init_39 : decode cX7_init 39 = .ok (.newarray .int, 2) := by decide +kernel
theorem dX7_init_41 : decode cX7_init 41 = .ok (.putfield 22, 3) := by decide +kernel
theorem dX7_init_44 : decode cX7_init 44 = .ok (.aload_n 0, 1) := by decide +kernel
theorem dX7_init_45 : decode cX7_init 45 = .ok (.bipush 120, 2) := by decide +kernel
theorem dX7_init_47 : decode cX7_init 47 = .ok (.newarray .byte, 2) := by decide +kernel
theorem dX7_init_49 : decode cX7_init 49 = .ok (.putfield 25, 3) := by decide +kernel
theorem dX7_init_52 : decode cX7_init 52 = .ok (.aload_n 0, 1) := by decide +kernel
theorem dX7_init_53 : decode cX7_init 53 = .ok (.iconst 4, 1) := by decide +kernel
theorem dX7_init_54 : decode cX7_init 54 = .ok (.newarray .int, 2) := by decide +kernel
theorem dX7_init_56 : decode cX7_init 56 = .ok (.putfield 29, 3) := by decide +kernel
theorem dX7_init_59 : decode cX7_init 59 = .ok (.aload_n 0, 1) := by decide +kernel
theorem dX7_init_60 : decode cX7_init 60 = .ok (.iconst 4, 1) := by decide +kernel
theorem dX7_init_61 : decode cX7_init 61 = .ok (.newarray .int, 2) := by decide +kernel
theorem dX7_init_63 : decode cX7_init 63 = .ok (.putfield 32, 3) := by decide +kernel
theorem dX7_init_66 : decode cX7_init 66 = .ok (.aload_n 0, 1) := by decide +kernel
theorem dX7_init_67 : decode cX7_init 67 = .ok (.sipush 160, 3) := by decide +kernel
theorem dX7_init_70 : decode cX7_init 70 = .ok (.newarray .int, 2) := by decide +kernel
theorem dX7_init_72 : decode cX7_init 72 = .ok (.putfield 35, 3) := by decide +kernel
theorem dX7_init_75 : decode cX7_init 75 = .ok (.aload_n 0, 1) := by decide +kernel
theorem dX7_init_76 : decode cX7_init 76 = .ok (.bipush 40, 2) := by decide +kernel
theorem dX7_init_78 : decode cX7_init 78 = .ok (.newarray .int, 2) := by decide +kernel
theorem dX7_init_80 : decode cX7_init 80 = .ok (.putfield 38, 3) := by decide +kernel
theorem dX7_init_83 : decode cX7_init 83 = .ok (.aload_n 0, 1) := by decide +kernel
theorem dX7_init_84 : decode cX7_init 84 = .ok (.getfield 7, 3) := by decide +kernel
theorem dX7_init_87 : decode cX7_init 87 = .ok (.iconst 2, 1) := by decide +kernel
theorem dX7_init_88 : decode cX7_init 88 = .ok (.iconst 1, 1) := by decide +kernel
theorem dX7_init_89 : decode cX7_init 89 = .ok (.iastore, 1) := by decide +kernel
theorem dX7_init_90 : decode cX7_init 90 = .ok (.iconst 0, 1) := by decide +kernel
theorem dX7_init_91 : decode cX7_init 91 = .ok (.istore_n 1, 1) := by decide +kernel
theorem dX7_init_92 : decode cX7_init 92 = .ok (.iload_n 1, 1) := by decide +kernel
theorem dX7_init_93 : decode cX7_init 93 = .ok (.bipush 6, 2) := by decide +kernel
theorem dX7_init_95 : decode cX7_init 95 = .ok (.if_icmp .ge 29, 3) := by decide +kernel
theorem dX7_init_98 : decode cX7_init 98 = .ok (.aload_n 0, 1) := by decide +kernel
theorem dX7_init_99 : decode cX7_init 99 = .ok (.getfield 7, 3) := by decide +kernel
theorem dX7_init_102 : decode cX7_init 102 = .ok (.iconst 3, 1) := by decide +kernel
theorem dX7_init_103 : decode cX7_init 103 = .ok (.iload_n 1, 1) := by decide +kernel
theorem dX7_init_104 : decode cX7_init 104 = .ok (.iadd, 1) := by decide +kernel
theorem dX7_init_105 : decode cX7_init 105 = .ok (.sipush 1000, 3) := by decide +kernel
theorem dX7_init_108 : decode cX7_init 108 = .ok (.iload_n 1, 1) := by decide +kernel
theorem dX7_init_109 : decode cX7_init 109 = .ok (.imul, 1) := by decide +kernel
theorem dX7_init_110 : decode cX7_init 110 = .ok (.bipush 10, 2) := by decide +kernel
theorem dX7_init_112 : decode cX7_init 112 = .ok (.iload_n 1, 1) := by decide +kernel
theorem dX7_init_113 : decode cX7_init 113 = .ok (.imul, 1) := by decide +kernel
theorem dX7_init_114 : decode cX7_init 114 = .ok (.iadd, 1) := by decide +kernel
theorem dX7_init_115 : decode cX7_init 115 = .ok (.iconst 5, 1) := by decide +kernel
theorem dX7_init_116 : decode cX7_init 116 = .ok (.iadd, 1) := by decide +kernel
theorem dX7_init_117 : decode cX7_init 117 = .ok (.iastore, 1) := by decide +kernel
theorem dX7_init_118 : decode cX7_init 118 = .ok (.iinc 1 1, 3) := by decide +kernel
theorem dX7_init_121 : decode cX7_init 121 = .ok (.goto (-29), 3) := by decide +kernel
theorem dX7_init_124 : decode cX7_init 124 = .ok (.return_, 1) := by decide +kernel
theorem dX7_finds_0 : decode cX7_finds 0 = .ok (.aload_n 0, 1) := by decide +kernel
theorem dX7_finds_1 : decode cX7_finds 1 = .ok (.getfield 22, 3) := by decide +kernel
theorem dX7_finds_4 : decode cX7_finds 4 = .ok (.iload_n 1, 1) := by decide +kernel
theorem dX7_finds_5 : decode cX7_finds 5 = .ok (.dup2, 1) := by decide +kernel
theorem dX7_finds_6 : decode cX7_finds 6 = .ok (.iaload, 1) := by decide +kernel
theorem dX7_finds_7 : decode cX7_finds 7 = .ok (.iconst 1, 1) := by decide +kernel
theorem dX7_finds_8 : decode cX7_finds 8 = .ok (.iadd, 1) := by decide +kernel
theorem dX7_finds_9 : decode cX7_finds 9 = .ok (.iastore, 1) := by decide +kernel
theorem dX7_finds_10 : decode cX7_finds 10 = .ok (.ldc 41, 2) := by decide +kernel
theorem dX7_finds_12 : decode cX7_finds 12 = .ok (.iload_n 1, 1) := by decide +kernel
theorem dX7_finds_13 : decode cX7_finds 13 = .ok (.isub, 1) := by decide +kernel
theorem dX7_finds_14 : decode cX7_finds 14 = .ok (.ireturn, 1) := by decide +kernel
theorem dX7_in_0 : decode cX7_in 0 = .ok (.lload_n 0, 1) := by decide +kernel
theorem dX7_in_1 : decode cX7_in 1 = .ok (.lload_n 2, 1) := by decide +kernel
theorem dX7_in_2 : decode cX7_in 2 = .ok (.lcmp, 1) := by decide +kernel
theorem dX7_in_3 : decode cX7_in 3 = .ok (.ifCond .lt 14, 3) := by decide +kernel
theorem dX7_in_6 : decode cX7_in 6 = .ok (.lload_n 0, 1) := by decide +kernel
theorem dX7_in_7 : decode cX7_in 7 = .ok (.lload 4, 2) := by decide +kernel
theorem dX7_in_9 : decode cX7_in 9 = .ok (.lcmp, 1) := by decide +kernel
theorem dX7_in_10 : decode cX7_in 10 = .ok (.ifCond .gt 7, 3) := by decide +kernel
theorem dX7_in_13 : decode cX7_in 13 = .ok (.iconst 1, 1) := by decide +kernel
theorem dX7_in_14 : decode cX7_in 14 = .ok (.goto 4, 3) := by decide +kernel
theorem dX7_in_17 : decode cX7_in 17 = .ok (.iconst 0, 1) := by decide +kernel
theorem dX7_in_18 : decode cX7_in 18 = .ok (.ireturn, 1) := by decide +kernel
theorem dX7_held_0 : decode cX7_held 0 = .ok (.iload_n 0, 1) := by decide +kernel
theorem dX7_held_1 : decode cX7_held 1 = .ok (.iload_n 1, 1) := by decide +kernel
theorem dX7_held_2 : decode cX7_held 2 = .ok (.if_icmp .ge 7, 3) := by decide +kernel
theorem dX7_held_5 : decode cX7_held 5 = .ok (.iload_n 1, 1) := by decide +kernel
theorem dX7_held_6 : decode cX7_held 6 = .ok (.goto 13, 3) := by decide +kernel
theorem dX7_held_9 : decode cX7_held 9 = .ok (.iload_n 0, 1) := by decide +kernel
theorem dX7_held_10 : decode cX7_held 10 = .ok (.iload_n 2, 1) := by decide +kernel
theorem dX7_held_11 : decode cX7_held 11 = .ok (.if_icmp .le 7, 3) := by decide +kernel
theorem dX7_held_14 : decode cX7_held 14 = .ok (.iload_n 2, 1) := by decide +kernel
theorem dX7_held_15 : decode cX7_held 15 = .ok (.goto 4, 3) := by decide +kernel
theorem dX7_held_18 : decode cX7_held 18 = .ok (.iload_n 0, 1) := by decide +kernel
theorem dX7_held_19 : decode cX7_held 19 = .ok (.ireturn, 1) := by decide +kernel
theorem dX7_copies_0 : decode cX7_copies 0 = .ok (.iconst 0, 1) := by decide +kernel
theorem dX7_copies_1 : decode cX7_copies 1 = .ok (.istore_n 2, 1) := by decide +kernel
theorem dX7_copies_2 : decode cX7_copies 2 = .ok (.iload_n 2, 1) := by decide +kernel
theorem dX7_copies_3 : decode cX7_copies 3 = .ok (.bipush 75, 2) := by decide +kernel
theorem dX7_copies_5 : decode cX7_copies 5 = .ok (.if_icmp .ge 15, 3) := by decide +kernel
theorem dX7_copies_8 : decode cX7_copies 8 = .ok (.aload_n 1, 1) := by decide +kernel
theorem dX7_copies_9 : decode cX7_copies 9 = .ok (.iload_n 2, 1) := by decide +kernel
theorem dX7_copies_10 : decode cX7_copies 10 = .ok (.aload_n 0, 1) := by decide +kernel
theorem dX7_copies_11 : decode cX7_copies 11 = .ok (.iload_n 2, 1) := by decide +kernel
theorem dX7_copies_12 : decode cX7_copies 12 = .ok (.iaload, 1) := by decide +kernel
theorem dX7_copies_13 : decode cX7_copies 13 = .ok (.iastore, 1) := by decide +kernel
theorem dX7_copies_14 : decode cX7_copies 14 = .ok (.iinc 2 1, 3) := by decide +kernel
theorem dX7_copies_17 : decode cX7_copies 17 = .ok (.goto (-15), 3) := by decide +kernel
theorem dX7_copies_20 : decode cX7_copies 20 = .ok (.return_, 1) := by decide +kernel
theorem dX7_isGlove_0 : decode cX7_isGlove 0 = .ok (.iload_n 1, 1) := by decide +kernel
theorem dX7_isGlove_1 : decode cX7_isGlove 1 = .ok (.i2l, 1) := by decide +kernel
theorem dX7_isGlove_2 : decode cX7_isGlove 2 = .ok (.lconst 0, 1) := by decide +kernel
theorem dX7_isGlove_3 : decode cX7_isGlove 3 = .ok (.aload_n 0, 1) := by decide +kernel
theorem dX7_isGlove_4 : decode cX7_isGlove 4 = .ok (.getfield 7, 3) := by decide +kernel
theorem dX7_isGlove_7 : decode cX7_isGlove 7 = .ok (.iconst 0, 1) := by decide +kernel
theorem dX7_isGlove_8 : decode cX7_isGlove 8 = .ok (.iaload, 1) := by decide +kernel
theorem dX7_isGlove_9 : decode cX7_isGlove 9 = .ok (.iconst 1, 1) := by decide +kernel
theorem dX7_isGlove_10 : decode cX7_isGlove 10 = .ok (.isub, 1) := by decide +kernel
theorem dX7_isGlove_11 : decode cX7_isGlove 11 = .ok (.i2l, 1) := by decide +kernel
theorem dX7_isGlove_12 : decode cX7_isGlove 12 = .ok (.invokestatic 42, 3) := by decide +kernel
theorem dX7_isGlove_15 : decode cX7_isGlove 15 = .ok (.ireturn, 1) := by decide +kernel
theorem dX7_isTopic_0 : decode cX7_isTopic 0 = .ok (.iload_n 0, 1) := by decide +kernel
theorem dX7_isTopic_1 : decode cX7_isTopic 1 = .ok (.i2l, 1) := by decide +kernel
theorem dX7_isTopic_2 : decode cX7_isTopic 2 = .ok (.lconst 0, 1) := by decide +kernel
theorem dX7_isTopic_3 : decode cX7_isTopic 3 = .ok (.ldc2_w 46, 3) := by decide +kernel
theorem dX7_isTopic_6 : decode cX7_isTopic 6 = .ok (.invokestatic 42, 3) := by decide +kernel
theorem dX7_isTopic_9 : decode cX7_isTopic 9 = .ok (.ireturn, 1) := by decide +kernel
theorem dX7_areTopics_0 : decode cX7_areTopics 0 = .ok (.iload_n 0, 1) := by decide +kernel
theorem dX7_areTopics_1 : decode cX7_areTopics 1 = .ok (.i2l, 1) := by decide +kernel
theorem dX7_areTopics_2 : decode cX7_areTopics 2 = .ok (.lconst 0, 1) := by decide +kernel
theorem dX7_areTopics_3 : decode cX7_areTopics 3 = .ok (.ldc2_w 48, 3) := by decide +kernel
theorem dX7_areTopics_6 : decode cX7_areTopics 6 = .ok (.invokestatic 42, 3) := by decide +kernel
theorem dX7_areTopics_9 : decode cX7_areTopics 9 = .ok (.ireturn, 1) := by decide +kernel
theorem dX7_isPlace_0 : decode cX7_isPlace 0 = .ok (.iload_n 0, 1) := by decide +kernel
theorem dX7_isPlace_1 : decode cX7_isPlace 1 = .ok (.i2l, 1) := by decide +kernel
theorem dX7_isPlace_2 : decode cX7_isPlace 2 = .ok (.lconst 0, 1) := by decide +kernel
theorem dX7_isPlace_3 : decode cX7_isPlace 3 = .ok (.ldc2_w 50, 3) := by decide +kernel
theorem dX7_isPlace_6 : decode cX7_isPlace 6 = .ok (.invokestatic 42, 3) := by decide +kernel
theorem dX7_isPlace_9 : decode cX7_isPlace 9 = .ok (.ireturn, 1) := by decide +kernel
theorem dX7_isSaying_0 : decode cX7_isSaying 0 = .ok (.iload_n 0, 1) := by decide +kernel
theorem dX7_isSaying_1 : decode cX7_isSaying 1 = .ok (.i2l, 1) := by decide +kernel
theorem dX7_isSaying_2 : decode cX7_isSaying 2 = .ok (.lconst 0, 1) := by decide +kernel
theorem dX7_isSaying_3 : decode cX7_isSaying 3 = .ok (.ldc2_w 52, 3) := by decide +kernel
theorem dX7_isSaying_6 : decode cX7_isSaying 6 = .ok (.invokestatic 42, 3) := by decide +kernel
theorem dX7_isSaying_9 : decode cX7_isSaying 9 = .ok (.ifCond .eq 18, 3) := by decide +kernel
theorem dX7_isSaying_12 : decode cX7_isSaying 12 = .ok (.iload_n 0, 1) := by decide +kernel
theorem dX7_isSaying_13 : decode cX7_isSaying 13 = .ok (.sipush 1000, 3) := by decide +kernel
theorem dX7_isSaying_16 : decode cX7_isSaying 16 = .ok (.irem, 1) := by decide +kernel
theorem dX7_isSaying_17 : decode cX7_isSaying 17 = .ok (.sipush 160, 3) := by decide +kernel
theorem dX7_isSaying_20 : decode cX7_isSaying 20 = .ok (.if_icmp .ge 7, 3) := by decide +kernel
theorem dX7_isSaying_23 : decode cX7_isSaying 23 = .ok (.iconst 1, 1) := by decide +kernel
theorem dX7_isSaying_24 : decode cX7_isSaying 24 = .ok (.goto 4, 3) := by decide +kernel
theorem dX7_isSaying_27 : decode cX7_isSaying 27 = .ok (.iconst 0, 1) := by decide +kernel
theorem dX7_isSaying_28 : decode cX7_isSaying 28 = .ok (.ireturn, 1) := by decide +kernel
theorem dX7_its_0 : decode cX7_its 0 = .ok (.aload_n 0, 1) := by decide +kernel
theorem dX7_its_1 : decode cX7_its 1 = .ok (.getfield 7, 3) := by decide +kernel
theorem dX7_its_4 : decode cX7_its 4 = .ok (.bipush 9, 2) := by decide +kernel
theorem dX7_its_6 : decode cX7_its 6 = .ok (.bipush 8, 2) := by decide +kernel
theorem dX7_its_8 : decode cX7_its 8 = .ok (.iload_n 2, 1) := by decide +kernel
theorem dX7_its_9 : decode cX7_its 9 = .ok (.imul, 1) := by decide +kernel
theorem dX7_its_10 : decode cX7_its 10 = .ok (.iadd, 1) := by decide +kernel
theorem dX7_its_11 : decode cX7_its 11 = .ok (.iload_n 1, 1) := by decide +kernel
theorem dX7_its_12 : decode cX7_its 12 = .ok (.iadd, 1) := by decide +kernel
theorem dX7_its_13 : decode cX7_its 13 = .ok (.iaload, 1) := by decide +kernel
theorem dX7_its_14 : decode cX7_its 14 = .ok (.ireturn, 1) := by decide +kernel
theorem dX7_sets_0 : decode cX7_sets 0 = .ok (.aload_n 0, 1) := by decide +kernel
theorem dX7_sets_1 : decode cX7_sets 1 = .ok (.getfield 7, 3) := by decide +kernel
theorem dX7_sets_4 : decode cX7_sets 4 = .ok (.bipush 9, 2) := by decide +kernel
theorem dX7_sets_6 : decode cX7_sets 6 = .ok (.bipush 8, 2) := by decide +kernel
theorem dX7_sets_8 : decode cX7_sets 8 = .ok (.iload_n 2, 1) := by decide +kernel
theorem dX7_sets_9 : decode cX7_sets 9 = .ok (.imul, 1) := by decide +kernel
theorem dX7_sets_10 : decode cX7_sets 10 = .ok (.iadd, 1) := by decide +kernel
theorem dX7_sets_11 : decode cX7_sets 11 = .ok (.iload_n 1, 1) := by decide +kernel
theorem dX7_sets_12 : decode cX7_sets 12 = .ok (.iadd, 1) := by decide +kernel
theorem dX7_sets_13 : decode cX7_sets 13 = .ok (.iload_n 3, 1) := by decide +kernel
theorem dX7_sets_14 : decode cX7_sets 14 = .ok (.iastore, 1) := by decide +kernel
theorem dX7_sets_15 : decode cX7_sets 15 = .ok (.return_, 1) := by decide +kernel
theorem dX7_becomes_0 : decode cX7_becomes 0 = .ok (.aload_n 0, 1) := by decide +kernel
theorem dX7_becomes_1 : decode cX7_becomes 1 = .ok (.getfield 7, 3) := by decide +kernel
theorem dX7_becomes_4 : decode cX7_becomes 4 = .ok (.iload_n 1, 1) := by decide +kernel
theorem dX7_becomes_5 : decode cX7_becomes 5 = .ok (.iaload, 1) := by decide +kernel
theorem dX7_becomes_6 : decode cX7_becomes 6 = .ok (.istore_n 3, 1) := by decide +kernel
theorem dX7_becomes_7 : decode cX7_becomes 7 = .ok (.aload_n 0, 1) := by decide +kernel
theorem dX7_becomes_8 : decode cX7_becomes 8 = .ok (.getfield 7, 3) := by decide +kernel
theorem dX7_becomes_11 : decode cX7_becomes 11 = .ok (.iload_n 1, 1) := by decide +kernel
theorem dX7_becomes_12 : decode cX7_becomes 12 = .ok (.iload_n 2, 1) := by decide +kernel
theorem dX7_becomes_13 : decode cX7_becomes 13 = .ok (.iastore, 1) := by decide +kernel
theorem dX7_becomes_14 : decode cX7_becomes 14 = .ok (.iload_n 3, 1) := by decide +kernel
theorem dX7_becomes_15 : decode cX7_becomes 15 = .ok (.ireturn, 1) := by decide +kernel
theorem dX7_ones_0 : decode cX7_ones 0 = .ok (.iconst 0, 1) := by decide +kernel
theorem dX7_ones_1 : decode cX7_ones 1 = .ok (.istore_n 1, 1) := by decide +kernel
theorem dX7_ones_2 : decode cX7_ones 2 = .ok (.iconst 0, 1) := by decide +kernel
theorem dX7_ones_3 : decode cX7_ones 3 = .ok (.istore_n 2, 1) := by decide +kernel
theorem dX7_ones_4 : decode cX7_ones 4 = .ok (.iload_n 2, 1) := by decide +kernel
theorem dX7_ones_5 : decode cX7_ones 5 = .ok (.bipush 16, 2) := by decide +kernel
theorem dX7_ones_7 : decode cX7_ones 7 = .ok (.if_icmp .ge 17, 3) := by decide +kernel
theorem dX7_ones_10 : decode cX7_ones 10 = .ok (.iload_n 1, 1) := by decide +kernel
theorem dX7_ones_11 : decode cX7_ones 11 = .ok (.iload_n 0, 1) := by decide +kernel
theorem dX7_ones_12 : decode cX7_ones 12 = .ok (.iload_n 2, 1) := by decide +kernel
theorem dX7_ones_13 : decode cX7_ones 13 = .ok (.ishr, 1) := by decide +kernel
theorem dX7_ones_14 : decode cX7_ones 14 = .ok (.iconst 1, 1) := by decide +kernel
theorem dX7_ones_15 : decode cX7_ones 15 = .ok (.iand, 1) := by decide +kernel
theorem dX7_ones_16 : decode cX7_ones 16 = .ok (.iadd, 1) := by decide +kernel
theorem dX7_ones_17 : decode cX7_ones 17 = .ok (.istore_n 1, 1) := by decide +kernel
theorem dX7_ones_18 : decode cX7_ones 18 = .ok (.iinc 2 1, 3) := by decide +kernel
theorem dX7_ones_21 : decode cX7_ones 21 = .ok (.goto (-17), 3) := by decide +kernel
theorem dX7_ones_24 : decode cX7_ones 24 = .ok (.iload_n 1, 1) := by decide +kernel
theorem dX7_ones_25 : decode cX7_ones 25 = .ok (.ireturn, 1) := by decide +kernel
theorem dX7_isIn_0 : decode cX7_isIn 0 = .ok (.aload_n 0, 1) := by decide +kernel
theorem dX7_isIn_1 : decode cX7_isIn 1 = .ok (.getfield 54, 3) := by decide +kernel
theorem dX7_isIn_4 : decode cX7_isIn 4 = .ok (.iload_n 1, 1) := by decide +kernel
theorem dX7_isIn_5 : decode cX7_isIn 5 = .ok (.ishr, 1) := by decide +kernel
theorem dX7_isIn_6 : decode cX7_isIn 6 = .ok (.iconst 1, 1) := by decide +kernel
theorem dX7_isIn_7 : decode cX7_isIn 7 = .ok (.iand, 1) := by decide +kernel
theorem dX7_isIn_8 : decode cX7_isIn 8 = .ok (.ifCond .ne 17, 3) := by decide +kernel
theorem dX7_isIn_11 : decode cX7_isIn 11 = .ok (.aload_n 0, 1) := by decide +kernel
theorem dX7_isIn_12 : decode cX7_isIn 12 = .ok (.iload_n 1, 1) := by decide +kernel
theorem dX7_isIn_13 : decode cX7_isIn 13 = .ok (.iconst 1, 1) := by decide +kernel
theorem dX7_isIn_14 : decode cX7_isIn 14 = .ok (.invokevirtual 58, 3) := by decide +kernel
theorem dX7_isIn_17 : decode cX7_isIn 17 = .ok (.iload_n 2, 1) := by decide +kernel
theorem dX7_isIn_18 : decode cX7_isIn 18 = .ok (.if_icmp .ne 7, 3) := by decide +kernel
theorem dX7_isIn_21 : decode cX7_isIn 21 = .ok (.iconst 1, 1) := by decide +kernel
theorem dX7_isIn_22 : decode cX7_isIn 22 = .ok (.goto 4, 3) := by decide +kernel
theorem dX7_isIn_25 : decode cX7_isIn 25 = .ok (.iconst 0, 1) := by decide +kernel
theorem dX7_isIn_26 : decode cX7_isIn 26 = .ok (.ireturn, 1) := by decide +kernel
theorem dX7_hasOther_0 : decode cX7_hasOther 0 = .ok (.iconst 0, 1) := by decide +kernel
theorem dX7_hasOther_1 : decode cX7_hasOther 1 = .ok (.istore_n 2, 1) := by decide +kernel
theorem dX7_hasOther_2 : decode cX7_hasOther 2 = .ok (.iload_n 2, 1) := by decide +kernel
theorem dX7_hasOther_3 : decode cX7_hasOther 3 = .ok (.aload_n 0, 1) := by decide +kernel
theorem dX7_hasOther_4 : decode cX7_hasOther 4 = .ok (.getfield 7, 3) := by decide +kernel
theorem dX7_hasOther_7 : decode cX7_hasOther 7 = .ok (.iconst 0, 1) := by decide +kernel
theorem dX7_hasOther_8 : decode cX7_hasOther 8 = .ok (.iaload, 1) := by decide +kernel
theorem dX7_hasOther_9 : decode cX7_hasOther 9 = .ok (.if_icmp .ge 30, 3) := by decide +kernel
theorem dX7_hasOther_12 : decode cX7_hasOther 12 = .ok (.iload_n 2, 1) := by decide +kernel
theorem dX7_hasOther_13 : decode cX7_hasOther 13 = .ok (.iload_n 1, 1) := by decide +kernel
theorem dX7_hasOther_14 : decode cX7_hasOther 14 = .ok (.if_icmp .eq 19, 3) := by decide +kernel
theorem dX7_hasOther_17 : decode cX7_hasOther 17 = .ok (.aload_n 0, 1) := by decide +kernel
theorem dX7_hasOther_18 : decode cX7_hasOther 18 = .ok (.iload_n 2, 1) := by decide +kernel
theorem dX7_hasOther_19 : decode cX7_hasOther 19 = .ok (.aload_n 0, 1) := by decide +kernel
theorem dX7_hasOther_20 : decode cX7_hasOther 20 = .ok (.iload_n 1, 1) := by decide +kernel
theorem dX7_hasOther_21 : decode cX7_hasOther 21 = .ok (.iconst 1, 1) := by decide +kernel
theorem dX7_hasOther_22 : decode cX7_hasOther 22 = .ok (.invokevirtual 58, 3) := by decide +kernel
theorem dX7_hasOther_25 : decode cX7_hasOther 25 = .ok (.invokevirtual 62, 3) := by decide +kernel
theorem dX7_hasOther_28 : decode cX7_hasOther 28 = .ok (.ifCond .eq 5, 3) := by decide +kernel
theorem dX7_hasOther_31 : decode cX7_hasOther 31 = .ok (.iconst 1, 1) := by decide +kernel
theorem dX7_hasOther_32 : decode cX7_hasOther 32 = .ok (.ireturn, 1) := by decide +kernel
theorem dX7_hasOther_33 : decode cX7_hasOther 33 = .ok (.iinc 2 1, 3) := by decide +kernel
theorem dX7_hasOther_36 : decode cX7_hasOther 36 = .ok (.goto (-34), 3) := by decide +kernel
theorem dX7_hasOther_39 : decode cX7_hasOther 39 = .ok (.iconst 0, 1) := by decide +kernel
theorem dX7_hasOther_40 : decode cX7_hasOther 40 = .ok (.ireturn, 1) := by decide +kernel
theorem dX7_needs_0 : decode cX7_needs 0 = .ok (.bipush 10, 2) := by decide +kernel
theorem dX7_needs_2 : decode cX7_needs 2 = .ok (.aload_n 0, 1) := by decide +kernel
theorem dX7_needs_3 : decode cX7_needs 3 = .ok (.iload_n 1, 1) := by decide +kernel
theorem dX7_needs_4 : decode cX7_needs 4 = .ok (.iconst 2, 1) := by decide +kernel
theorem dX7_needs_5 : decode cX7_needs 5 = .ok (.invokevirtual 58, 3) := by decide +kernel
theorem dX7_needs_8 : decode cX7_needs 8 = .ok (.isub, 1) := by decide +kernel
theorem dX7_needs_9 : decode cX7_needs 9 = .ok (.istore_n 2, 1) := by decide +kernel
theorem dX7_needs_10 : decode cX7_needs 10 = .ok (.iload_n 2, 1) := by decide +kernel
theorem dX7_needs_11 : decode cX7_needs 11 = .ok (.iconst 2, 1) := by decide +kernel
theorem dX7_needs_12 : decode cX7_needs 12 = .ok (.isub, 1) := by decide +kernel
theorem dX7_needs_13 : decode cX7_needs 13 = .ok (.iconst 0, 1) := by decide +kernel
theorem dX7_needs_14 : decode cX7_needs 14 = .ok (.bipush 10, 2) := by decide +kernel
theorem dX7_needs_16 : decode cX7_needs 16 = .ok (.invokestatic 66, 3) := by decide +kernel
theorem dX7_needs_19 : decode cX7_needs 19 = .ok (.istore_n 3, 1) := by decide +kernel
theorem dX7_needs_20 : decode cX7_needs 20 = .ok (.aload_n 0, 1) := by decide +kernel
theorem dX7_needs_21 : decode cX7_needs 21 = .ok (.iload_n 1, 1) := by decide +kernel
theorem dX7_needs_22 : decode cX7_needs 22 = .ok (.iconst 0, 1) := by decide +kernel
theorem dX7_needs_23 : decode cX7_needs 23 = .ok (.invokevirtual 58, 3) := by decide +kernel
theorem dX7_needs_26 : decode cX7_needs 26 = .ok (.tableswitch 73 1 6 #[38, 40, 44, 54, 57, 59], 38) := by decide +kernel
theorem dX7_needs_64 : decode cX7_needs 64 = .ok (.iload_n 3, 1) := by decide +kernel
theorem dX7_needs_65 : decode cX7_needs 65 = .ok (.ireturn, 1) := by decide +kernel
theorem dX7_needs_66 : decode cX7_needs 66 = .ok (.iload_n 2, 1) := by decide +kernel
theorem dX7_needs_67 : decode cX7_needs 67 = .ok (.iconst 3, 1) := by decide +kernel
theorem dX7_needs_68 : decode cX7_needs 68 = .ok (.iadd, 1) := by decide +kernel
theorem dX7_needs_69 : decode cX7_needs 69 = .ok (.ireturn, 1) := by decide +kernel
theorem dX7_needs_70 : decode cX7_needs 70 = .ok (.iload_n 2, 1) := by decide +kernel
theorem dX7_needs_71 : decode cX7_needs 71 = .ok (.iconst 1, 1) := by decide +kernel
theorem dX7_needs_72 : decode cX7_needs 72 = .ok (.isub, 1) := by decide +kernel
theorem dX7_needs_73 : decode cX7_needs 73 = .ok (.iconst 0, 1) := by decide +kernel
theorem dX7_needs_74 : decode cX7_needs 74 = .ok (.bipush 10, 2) := by decide +kernel
theorem dX7_needs_76 : decode cX7_needs 76 = .ok (.invokestatic 66, 3) := by decide +kernel
theorem dX7_needs_79 : decode cX7_needs 79 = .ok (.ireturn, 1) := by decide +kernel
theorem dX7_needs_80 : decode cX7_needs 80 = .ok (.bipush 99, 2) := by decide +kernel
theorem dX7_needs_82 : decode cX7_needs 82 = .ok (.ireturn, 1) := by decide +kernel
theorem dX7_needs_83 : decode cX7_needs 83 = .ok (.iconst 0, 1) := by decide +kernel
theorem dX7_needs_84 : decode cX7_needs 84 = .ok (.ireturn, 1) := by decide +kernel
theorem dX7_needs_85 : decode cX7_needs 85 = .ok (.aload_n 0, 1) := by decide +kernel
theorem dX7_needs_86 : decode cX7_needs 86 = .ok (.iload_n 1, 1) := by decide +kernel
theorem dX7_needs_87 : decode cX7_needs 87 = .ok (.invokevirtual 70, 3) := by decide +kernel
theorem dX7_needs_90 : decode cX7_needs 90 = .ok (.ifCond .eq 7, 3) := by decide +kernel
theorem dX7_needs_93 : decode cX7_needs 93 = .ok (.iconst 1, 1) := by decide +kernel
theorem dX7_needs_94 : decode cX7_needs 94 = .ok (.goto 4, 3) := by decide +kernel
theorem dX7_needs_97 : decode cX7_needs 97 = .ok (.iload_n 3, 1) := by decide +kernel
theorem dX7_needs_98 : decode cX7_needs 98 = .ok (.ireturn, 1) := by decide +kernel
theorem dX7_needs_99 : decode cX7_needs 99 = .ok (.iload_n 2, 1) := by decide +kernel
theorem dX7_needs_100 : decode cX7_needs 100 = .ok (.ireturn, 1) := by decide +kernel
theorem dX7_hushes_0 : decode cX7_hushes 0 = .ok (.aload_n 0, 1) := by decide +kernel
theorem dX7_hushes_1 : decode cX7_hushes 1 = .ok (.iload_n 1, 1) := by decide +kernel
theorem dX7_hushes_2 : decode cX7_hushes 2 = .ok (.iconst 0, 1) := by decide +kernel
theorem dX7_hushes_3 : decode cX7_hushes 3 = .ok (.invokevirtual 58, 3) := by decide +kernel
theorem dX7_hushes_6 : decode cX7_hushes 6 = .ok (.tableswitch 59 1 6 #[38, 59, 38, 59, 42, 40], 38) := by decide +kernel
theorem dX7_hushes_44 : decode cX7_hushes 44 = .ok (.iconst 1, 1) := by decide +kernel
theorem dX7_hushes_45 : decode cX7_hushes 45 = .ok (.ireturn, 1) := by decide +kernel
theorem dX7_hushes_46 : decode cX7_hushes 46 = .ok (.iconst 2, 1) := by decide +kernel
theorem dX7_hushes_47 : decode cX7_hushes 47 = .ok (.ireturn, 1) := by decide +kernel
theorem dX7_hushes_48 : decode cX7_hushes 48 = .ok (.aload_n 0, 1) := by decide +kernel
theorem dX7_hushes_49 : decode cX7_hushes 49 = .ok (.iload_n 1, 1) := by decide +kernel
theorem dX7_hushes_50 : decode cX7_hushes 50 = .ok (.iconst 4, 1) := by decide +kernel
theorem dX7_hushes_51 : decode cX7_hushes 51 = .ok (.invokevirtual 58, 3) := by decide +kernel
theorem dX7_hushes_54 : decode cX7_hushes 54 = .ok (.bipush 100, 2) := by decide +kernel
theorem dX7_hushes_56 : decode cX7_hushes 56 = .ok (.if_icmp .lt 7, 3) := by decide +kernel
theorem dX7_hushes_59 : decode cX7_hushes 59 = .ok (.iconst 1, 1) := by decide +kernel
theorem dX7_hushes_60 : decode cX7_hushes 60 = .ok (.goto 4, 3) := by decide +kernel
theorem dX7_hushes_63 : decode cX7_hushes 63 = .ok (.iconst 0, 1) := by decide +kernel
theorem dX7_hushes_64 : decode cX7_hushes 64 = .ok (.ireturn, 1) := by decide +kernel
theorem dX7_hushes_65 : decode cX7_hushes 65 = .ok (.iconst 0, 1) := by decide +kernel
theorem dX7_hushes_66 : decode cX7_hushes 66 = .ok (.ireturn, 1) := by decide +kernel
theorem dX7_stays_0 : decode cX7_stays 0 = .ok (.aload_n 0, 1) := by decide +kernel
theorem dX7_stays_1 : decode cX7_stays 1 = .ok (.iload_n 1, 1) := by decide +kernel
theorem dX7_stays_2 : decode cX7_stays 2 = .ok (.iconst 0, 1) := by decide +kernel
theorem dX7_stays_3 : decode cX7_stays 3 = .ok (.invokevirtual 58, 3) := by decide +kernel
theorem dX7_stays_6 : decode cX7_stays 6 = .ok (.tableswitch 45 1 6 #[38, 40, 40, 43, 43, 38], 38) := by decide +kernel
theorem dX7_stays_44 : decode cX7_stays 44 = .ok (.iconst 5, 1) := by decide +kernel
theorem dX7_stays_45 : decode cX7_stays 45 = .ok (.ireturn, 1) := by decide +kernel
theorem dX7_stays_46 : decode cX7_stays 46 = .ok (.bipush 14, 2) := by decide +kernel
theorem dX7_stays_48 : decode cX7_stays 48 = .ok (.ireturn, 1) := by decide +kernel
theorem dX7_stays_49 : decode cX7_stays 49 = .ok (.iconst 0, 1) := by decide +kernel
theorem dX7_stays_50 : decode cX7_stays 50 = .ok (.ireturn, 1) := by decide +kernel
theorem dX7_stays_51 : decode cX7_stays 51 = .ok (.bipush 7, 2) := by decide +kernel
theorem dX7_stays_53 : decode cX7_stays 53 = .ok (.ireturn, 1) := by decide +kernel
theorem dX7_keeps_0 : decode cX7_keeps 0 = .ok (.aload_n 0, 1) := by decide +kernel
theorem dX7_keeps_1 : decode cX7_keeps 1 = .ok (.iload_n 1, 1) := by decide +kernel
theorem dX7_keeps_2 : decode cX7_keeps 2 = .ok (.iconst 0, 1) := by decide +kernel
theorem dX7_keeps_3 : decode cX7_keeps 3 = .ok (.invokevirtual 58, 3) := by decide +kernel
theorem dX7_keeps_6 : decode cX7_keeps 6 = .ok (.tableswitch 49 1 6 #[38, 44, 44, 44, 46, 41], 38) := by decide +kernel
theorem dX7_keeps_44 : decode cX7_keeps 44 = .ok (.bipush 8, 2) := by decide +kernel
theorem dX7_keeps_46 : decode cX7_keeps 46 = .ok (.ireturn, 1) := by decide +kernel
theorem dX7_keeps_47 : decode cX7_keeps 47 = .ok (.bipush 10, 2) := by decide +kernel
theorem dX7_keeps_49 : decode cX7_keeps 49 = .ok (.ireturn, 1) := by decide +kernel
theorem dX7_keeps_50 : decode cX7_keeps 50 = .ok (.iconst 3, 1) := by decide +kernel
theorem dX7_keeps_51 : decode cX7_keeps 51 = .ok (.ireturn, 1) := by decide +kernel
theorem dX7_keeps_52 : decode cX7_keeps 52 = .ok (.bipush 16, 2) := by decide +kernel
theorem dX7_keeps_54 : decode cX7_keeps 54 = .ok (.ireturn, 1) := by decide +kernel
theorem dX7_keeps_55 : decode cX7_keeps 55 = .ok (.bipush 6, 2) := by decide +kernel
theorem dX7_keeps_57 : decode cX7_keeps 57 = .ok (.ireturn, 1) := by decide +kernel
theorem dX7_hushIn_0 : decode cX7_hushIn 0 = .ok (.iconst 0, 1) := by decide +kernel
theorem dX7_hushIn_1 : decode cX7_hushIn 1 = .ok (.istore_n 2, 1) := by decide +kernel
theorem dX7_hushIn_2 : decode cX7_hushIn 2 = .ok (.iconst 0, 1) := by decide +kernel
theorem dX7_hushIn_3 : decode cX7_hushIn 3 = .ok (.istore_n 3, 1) := by decide +kernel
theorem dX7_hushIn_4 : decode cX7_hushIn 4 = .ok (.iload_n 3, 1) := by decide +kernel
theorem dX7_hushIn_5 : decode cX7_hushIn 5 = .ok (.aload_n 0, 1) := by decide +kernel
theorem dX7_hushIn_6 : decode cX7_hushIn 6 = .ok (.getfield 7, 3) := by decide +kernel
theorem dX7_hushIn_9 : decode cX7_hushIn 9 = .ok (.iconst 0, 1) := by decide +kernel
theorem dX7_hushIn_10 : decode cX7_hushIn 10 = .ok (.iaload, 1) := by decide +kernel
theorem dX7_hushIn_11 : decode cX7_hushIn 11 = .ok (.if_icmp .ge 30, 3) := by decide +kernel
theorem dX7_hushIn_14 : decode cX7_hushIn 14 = .ok (.iload_n 2, 1) := by decide +kernel
theorem dX7_hushIn_15 : decode cX7_hushIn 15 = .ok (.aload_n 0, 1) := by decide +kernel
theorem dX7_hushIn_16 : decode cX7_hushIn 16 = .ok (.iload_n 3, 1) := by decide +kernel
theorem dX7_hushIn_17 : decode cX7_hushIn 17 = .ok (.iload_n 1, 1) := by decide +kernel
theorem dX7_hushIn_18 : decode cX7_hushIn 18 = .ok (.invokevirtual 62, 3) := by decide +kernel
theorem dX7_hushIn_21 : decode cX7_hushIn 21 = .ok (.ifCond .eq 11, 3) := by decide +kernel
theorem dX7_hushIn_24 : decode cX7_hushIn 24 = .ok (.aload_n 0, 1) := by decide +kernel
theorem dX7_hushIn_25 : decode cX7_hushIn 25 = .ok (.iload_n 3, 1) := by decide +kernel
theorem dX7_hushIn_26 : decode cX7_hushIn 26 = .ok (.invokevirtual 74, 3) := by decide +kernel
theorem dX7_hushIn_29 : decode cX7_hushIn 29 = .ok (.goto 4, 3) := by decide +kernel
theorem dX7_hushIn_32 : decode cX7_hushIn 32 = .ok (.iconst 0, 1) := by decide +kernel
theorem dX7_hushIn_33 : decode cX7_hushIn 33 = .ok (.iadd, 1) := by decide +kernel
theorem dX7_hushIn_34 : decode cX7_hushIn 34 = .ok (.istore_n 2, 1) := by decide +kernel
theorem dX7_hushIn_35 : decode cX7_hushIn 35 = .ok (.iinc 3 1, 3) := by decide +kernel
theorem dX7_hushIn_38 : decode cX7_hushIn 38 = .ok (.goto (-34), 3) := by decide +kernel
theorem dX7_hushIn_41 : decode cX7_hushIn 41 = .ok (.iload_n 2, 1) := by decide +kernel
theorem dX7_hushIn_42 : decode cX7_hushIn 42 = .ok (.ireturn, 1) := by decide +kernel
theorem dX7_hearers_0 : decode cX7_hearers 0 = .ok (.iload_n 1, 1) := by decide +kernel
theorem dX7_hearers_1 : decode cX7_hearers 1 = .ok (.sipush 1000, 3) := by decide +kernel
theorem dX7_hearers_4 : decode cX7_hearers 4 = .ok (.idiv, 1) := by decide +kernel
theorem dX7_hearers_5 : decode cX7_hearers 5 = .ok (.istore_n 2, 1) := by decide +kernel
theorem dX7_hearers_6 : decode cX7_hearers 6 = .ok (.iload_n 1, 1) := by decide +kernel
theorem dX7_hearers_7 : decode cX7_hearers 7 = .ok (.bipush 10, 2) := by decide +kernel
theorem dX7_hearers_9 : decode cX7_hearers 9 = .ok (.irem, 1) := by decide +kernel
theorem dX7_hearers_10 : decode cX7_hearers 10 = .ok (.aload_n 0, 1) := by decide +kernel
theorem dX7_hearers_11 : decode cX7_hearers 11 = .ok (.iload_n 2, 1) := by decide +kernel
theorem dX7_hearers_12 : decode cX7_hearers 12 = .ok (.invokevirtual 78, 3) := by decide +kernel
theorem dX7_hearers_15 : decode cX7_hearers 15 = .ok (.isub, 1) := by decide +kernel
theorem dX7_hearers_16 : decode cX7_hearers 16 = .ok (.iconst 0, 1) := by decide +kernel
theorem dX7_hearers_17 : decode cX7_hearers 17 = .ok (.bipush 9, 2) := by decide +kernel
theorem dX7_hearers_19 : decode cX7_hearers 19 = .ok (.invokestatic 66, 3) := by decide +kernel
theorem dX7_hearers_22 : decode cX7_hearers 22 = .ok (.istore_n 3, 1) := by decide +kernel
theorem dX7_hearers_23 : decode cX7_hearers 23 = .ok (.iconst 0, 1) := by decide +kernel
theorem dX7_hearers_24 : decode cX7_hearers 24 = .ok (.istore 4, 2) := by decide +kernel
theorem dX7_hearers_26 : decode cX7_hearers 26 = .ok (.iconst 0, 1) := by decide +kernel
theorem dX7_hearers_27 : decode cX7_hearers 27 = .ok (.istore 5, 2) := by decide +kernel
theorem dX7_hearers_29 : decode cX7_hearers 29 = .ok (.iload 5, 2) := by decide +kernel
theorem dX7_hearers_31 : decode cX7_hearers 31 = .ok (.aload_n 0, 1) := by decide +kernel
theorem dX7_hearers_32 : decode cX7_hearers 32 = .ok (.getfield 7, 3) := by decide +kernel
theorem dX7_hearers_35 : decode cX7_hearers 35 = .ok (.iconst 0, 1) := by decide +kernel
theorem dX7_hearers_36 : decode cX7_hearers 36 = .ok (.iaload, 1) := by decide +kernel
theorem dX7_hearers_37 : decode cX7_hearers 37 = .ok (.if_icmp .ge 42, 3) := by decide +kernel
theorem dX7_hearers_40 : decode cX7_hearers 40 = .ok (.iload 4, 2) := by decide +kernel
theorem dX7_hearers_42 : decode cX7_hearers 42 = .ok (.aload_n 0, 1) := by decide +kernel
theorem dX7_hearers_43 : decode cX7_hearers 43 = .ok (.iload 5, 2) := by decide +kernel
theorem dX7_hearers_45 : decode cX7_hearers 45 = .ok (.iload_n 2, 1) := by decide +kernel
theorem dX7_hearers_46 : decode cX7_hearers 46 = .ok (.invokevirtual 62, 3) := by decide +kernel
theorem dX7_hearers_49 : decode cX7_hearers 49 = .ok (.ifCond .eq 20, 3) := by decide +kernel
theorem dX7_hearers_52 : decode cX7_hearers 52 = .ok (.aload_n 0, 1) := by decide +kernel
theorem dX7_hearers_53 : decode cX7_hearers 53 = .ok (.iload 5, 2) := by decide +kernel
theorem dX7_hearers_55 : decode cX7_hearers 55 = .ok (.invokevirtual 81, 3) := by decide +kernel
theorem dX7_hearers_58 : decode cX7_hearers 58 = .ok (.iload_n 3, 1) := by decide +kernel
theorem dX7_hearers_59 : decode cX7_hearers 59 = .ok (.if_icmp .gt 10, 3) := by decide +kernel
theorem dX7_hearers_62 : decode cX7_hearers 62 = .ok (.iconst 1, 1) := by decide +kernel
theorem dX7_hearers_63 : decode cX7_hearers 63 = .ok (.iload 5, 2) := by decide +kernel
theorem dX7_hearers_65 : decode cX7_hearers 65 = .ok (.ishl, 1) := by decide +kernel
theorem dX7_hearers_66 : decode cX7_hearers 66 = .ok (.goto 4, 3) := by decide +kernel
theorem dX7_hearers_69 : decode cX7_hearers 69 = .ok (.iconst 0, 1) := by decide +kernel
theorem dX7_hearers_70 : decode cX7_hearers 70 = .ok (.ior, 1) := by decide +kernel
theorem dX7_hearers_71 : decode cX7_hearers 71 = .ok (.istore 4, 2) := by decide +kernel
theorem dX7_hearers_73 : decode cX7_hearers 73 = .ok (.iinc 5 1, 3) := by decide +kernel
theorem dX7_hearers_76 : decode cX7_hearers 76 = .ok (.goto (-47), 3) := by decide +kernel
theorem dX7_hearers_79 : decode cX7_hearers 79 = .ok (.iload 4, 2) := by decide +kernel
theorem dX7_hearers_81 : decode cX7_hearers 81 = .ok (.ireturn, 1) := by decide +kernel
theorem dX7_learns_0 : decode cX7_learns 0 = .ok (.aload_n 0, 1) := by decide +kernel
theorem dX7_learns_1 : decode cX7_learns 1 = .ok (.iload_n 1, 1) := by decide +kernel
theorem dX7_learns_2 : decode cX7_learns 2 = .ok (.iconst 3, 1) := by decide +kernel
theorem dX7_learns_3 : decode cX7_learns 3 = .ok (.invokevirtual 58, 3) := by decide +kernel
theorem dX7_learns_6 : decode cX7_learns 6 = .ok (.iconst 1, 1) := by decide +kernel
theorem dX7_learns_7 : decode cX7_learns 7 = .ok (.iload_n 2, 1) := by decide +kernel
theorem dX7_learns_8 : decode cX7_learns 8 = .ok (.ishl, 1) := by decide +kernel
theorem dX7_learns_9 : decode cX7_learns 9 = .ok (.ior, 1) := by decide +kernel
theorem dX7_learns_10 : decode cX7_learns 10 = .ok (.istore_n 3, 1) := by decide +kernel
theorem dX7_learns_11 : decode cX7_learns 11 = .ok (.iload_n 3, 1) := by decide +kernel
theorem dX7_learns_12 : decode cX7_learns 12 = .ok (.invokestatic 84, 3) := by decide +kernel
theorem dX7_learns_15 : decode cX7_learns 15 = .ok (.aload_n 0, 1) := by decide +kernel
theorem dX7_learns_16 : decode cX7_learns 16 = .ok (.iload_n 1, 1) := by decide +kernel
theorem dX7_learns_17 : decode cX7_learns 17 = .ok (.invokevirtual 87, 3) := by decide +kernel
theorem dX7_learns_20 : decode cX7_learns 20 = .ok (.if_icmp .le 36, 3) := by decide +kernel
theorem dX7_learns_23 : decode cX7_learns 23 = .ok (.iconst 0, 1) := by decide +kernel
theorem dX7_learns_24 : decode cX7_learns 24 = .ok (.istore 4, 2) := by decide +kernel
theorem dX7_learns_26 : decode cX7_learns 26 = .ok (.iload_n 3, 1) := by decide +kernel
theorem dX7_learns_27 : decode cX7_learns 27 = .ok (.iload 4, 2) := by decide +kernel
theorem dX7_learns_29 : decode cX7_learns 29 = .ok (.ishr, 1) := by decide +kernel
theorem dX7_learns_30 : decode cX7_learns 30 = .ok (.iconst 1, 1) := by decide +kernel
theorem dX7_learns_31 : decode cX7_learns 31 = .ok (.iand, 1) := by decide +kernel
theorem dX7_learns_32 : decode cX7_learns 32 = .ok (.ifCond .eq 9, 3) := by decide +kernel
theorem dX7_learns_35 : decode cX7_learns 35 = .ok (.iload 4, 2) := by decide +kernel
theorem dX7_learns_37 : decode cX7_learns 37 = .ok (.iload_n 2, 1) := by decide +kernel
theorem dX7_learns_38 : decode cX7_learns 38 = .ok (.if_icmp .ne 9, 3) := by decide +kernel
theorem dX7_learns_41 : decode cX7_learns 41 = .ok (.iinc 4 1, 3) := by decide +kernel
theorem dX7_learns_44 : decode cX7_learns 44 = .ok (.goto (-18), 3) := by decide +kernel
theorem dX7_learns_47 : decode cX7_learns 47 = .ok (.iload_n 3, 1) := by decide +kernel
theorem dX7_learns_48 : decode cX7_learns 48 = .ok (.iconst 1, 1) := by decide +kernel
theorem dX7_learns_49 : decode cX7_learns 49 = .ok (.iload 4, 2) := by decide +kernel
theorem dX7_learns_51 : decode cX7_learns 51 = .ok (.ishl, 1) := by decide +kernel
theorem dX7_learns_52 : decode cX7_learns 52 = .ok (.iconst (-1), 1) := by decide +kernel
theorem dX7_learns_53 : decode cX7_learns 53 = .ok (.ixor, 1) := by decide +kernel
theorem dX7_learns_54 : decode cX7_learns 54 = .ok (.iand, 1) := by decide +kernel
theorem dX7_learns_55 : decode cX7_learns 55 = .ok (.istore_n 3, 1) := by decide +kernel
theorem dX7_learns_56 : decode cX7_learns 56 = .ok (.aload_n 0, 1) := by decide +kernel
theorem dX7_learns_57 : decode cX7_learns 57 = .ok (.iload_n 1, 1) := by decide +kernel
theorem dX7_learns_58 : decode cX7_learns 58 = .ok (.iconst 3, 1) := by decide +kernel
theorem dX7_learns_59 : decode cX7_learns 59 = .ok (.iload_n 3, 1) := by decide +kernel
theorem dX7_learns_60 : decode cX7_learns 60 = .ok (.invokevirtual 90, 3) := by decide +kernel
theorem dX7_learns_63 : decode cX7_learns 63 = .ok (.return_, 1) := by decide +kernel
theorem dX7_drawnOn_0 : decode cX7_drawnOn 0 = .ok (.aload_n 0, 1) := by decide +kernel
theorem dX7_drawnOn_1 : decode cX7_drawnOn 1 = .ok (.iload_n 1, 1) := by decide +kernel
theorem dX7_drawnOn_2 : decode cX7_drawnOn 2 = .ok (.iconst 5, 1) := by decide +kernel
theorem dX7_drawnOn_3 : decode cX7_drawnOn 3 = .ok (.aload_n 0, 1) := by decide +kernel
theorem dX7_drawnOn_4 : decode cX7_drawnOn 4 = .ok (.iload_n 1, 1) := by decide +kernel
theorem dX7_drawnOn_5 : decode cX7_drawnOn 5 = .ok (.iconst 5, 1) := by decide +kernel
theorem dX7_drawnOn_6 : decode cX7_drawnOn 6 = .ok (.invokevirtual 58, 3) := by decide +kernel
theorem dX7_drawnOn_9 : decode cX7_drawnOn 9 = .ok (.aload_n 0, 1) := by decide +kernel
theorem dX7_drawnOn_10 : decode cX7_drawnOn 10 = .ok (.iload_n 1, 1) := by decide +kernel
theorem dX7_drawnOn_11 : decode cX7_drawnOn 11 = .ok (.iconst 3, 1) := by decide +kernel
theorem dX7_drawnOn_12 : decode cX7_drawnOn 12 = .ok (.invokevirtual 58, 3) := by decide +kernel
theorem dX7_drawnOn_15 : decode cX7_drawnOn 15 = .ok (.ior, 1) := by decide +kernel
theorem dX7_drawnOn_16 : decode cX7_drawnOn 16 = .ok (.invokevirtual 90, 3) := by decide +kernel
theorem dX7_drawnOn_19 : decode cX7_drawnOn 19 = .ok (.aload_n 0, 1) := by decide +kernel
theorem dX7_drawnOn_20 : decode cX7_drawnOn 20 = .ok (.iload_n 1, 1) := by decide +kernel
theorem dX7_drawnOn_21 : decode cX7_drawnOn 21 = .ok (.iconst 3, 1) := by decide +kernel
theorem dX7_drawnOn_22 : decode cX7_drawnOn 22 = .ok (.iconst 0, 1) := by decide +kernel
theorem dX7_drawnOn_23 : decode cX7_drawnOn 23 = .ok (.invokevirtual 90, 3) := by decide +kernel
theorem dX7_drawnOn_26 : decode cX7_drawnOn 26 = .ok (.aload_n 0, 1) := by decide +kernel
theorem dX7_drawnOn_27 : decode cX7_drawnOn 27 = .ok (.iload_n 1, 1) := by decide +kernel
theorem dX7_drawnOn_28 : decode cX7_drawnOn 28 = .ok (.iconst 4, 1) := by decide +kernel
theorem dX7_drawnOn_29 : decode cX7_drawnOn 29 = .ok (.iconst 0, 1) := by decide +kernel
theorem dX7_drawnOn_30 : decode cX7_drawnOn 30 = .ok (.invokevirtual 90, 3) := by decide +kernel
theorem dX7_drawnOn_33 : decode cX7_drawnOn 33 = .ok (.aload_n 0, 1) := by decide +kernel
theorem dX7_drawnOn_34 : decode cX7_drawnOn 34 = .ok (.iload_n 1, 1) := by decide +kernel
theorem dX7_drawnOn_35 : decode cX7_drawnOn 35 = .ok (.bipush 6, 2) := by decide +kernel
theorem dX7_drawnOn_37 : decode cX7_drawnOn 37 = .ok (.aload_n 0, 1) := by decide +kernel
theorem dX7_drawnOn_38 : decode cX7_drawnOn 38 = .ok (.iload_n 1, 1) := by decide +kernel
theorem dX7_drawnOn_39 : decode cX7_drawnOn 39 = .ok (.bipush 6, 2) := by decide +kernel
theorem dX7_drawnOn_41 : decode cX7_drawnOn 41 = .ok (.invokevirtual 58, 3) := by decide +kernel
theorem dX7_drawnOn_44 : decode cX7_drawnOn 44 = .ok (.iconst 1, 1) := by decide +kernel
theorem dX7_drawnOn_45 : decode cX7_drawnOn 45 = .ok (.iadd, 1) := by decide +kernel
theorem dX7_drawnOn_46 : decode cX7_drawnOn 46 = .ok (.iconst 0, 1) := by decide +kernel
theorem dX7_drawnOn_47 : decode cX7_drawnOn 47 = .ok (.sipush 9999, 3) := by decide +kernel
theorem dX7_drawnOn_50 : decode cX7_drawnOn 50 = .ok (.invokestatic 66, 3) := by decide +kernel
theorem dX7_drawnOn_53 : decode cX7_drawnOn 53 = .ok (.invokevirtual 90, 3) := by decide +kernel
theorem dX7_drawnOn_56 : decode cX7_drawnOn 56 = .ok (.aload_n 0, 1) := by decide +kernel
theorem dX7_drawnOn_57 : decode cX7_drawnOn 57 = .ok (.iload_n 1, 1) := by decide +kernel
theorem dX7_drawnOn_58 : decode cX7_drawnOn 58 = .ok (.iconst 1, 1) := by decide +kernel
theorem dX7_drawnOn_59 : decode cX7_drawnOn 59 = .ok (.aload_n 0, 1) := by decide +kernel
theorem dX7_drawnOn_60 : decode cX7_drawnOn 60 = .ok (.iload_n 1, 1) := by decide +kernel
theorem dX7_drawnOn_61 : decode cX7_drawnOn 61 = .ok (.iconst 1, 1) := by decide +kernel
theorem dX7_drawnOn_62 : decode cX7_drawnOn 62 = .ok (.invokevirtual 58, 3) := by decide +kernel
theorem dX7_drawnOn_65 : decode cX7_drawnOn 65 = .ok (.iconst 1, 1) := by decide +kernel
theorem dX7_drawnOn_66 : decode cX7_drawnOn 66 = .ok (.iadd, 1) := by decide +kernel
theorem dX7_drawnOn_67 : decode cX7_drawnOn 67 = .ok (.bipush 6, 2) := by decide +kernel
theorem dX7_drawnOn_69 : decode cX7_drawnOn 69 = .ok (.irem, 1) := by decide +kernel
theorem dX7_drawnOn_70 : decode cX7_drawnOn 70 = .ok (.invokevirtual 90, 3) := by decide +kernel
theorem dX7_drawnOn_73 : decode cX7_drawnOn 73 = .ok (.return_, 1) := by decide +kernel
theorem dX7_todays_0 : decode cX7_todays 0 = .ok (.aload_n 0, 1) := by decide +kernel
theorem dX7_todays_1 : decode cX7_todays 1 = .ok (.getfield 7, 3) := by decide +kernel
theorem dX7_todays_4 : decode cX7_todays 4 = .ok (.iconst 3, 1) := by decide +kernel
theorem dX7_todays_5 : decode cX7_todays 5 = .ok (.aload_n 0, 1) := by decide +kernel
theorem dX7_todays_6 : decode cX7_todays 6 = .ok (.getfield 7, 3) := by decide +kernel
theorem dX7_todays_9 : decode cX7_todays 9 = .ok (.iconst 1, 1) := by decide +kernel
theorem dX7_todays_10 : decode cX7_todays 10 = .ok (.iaload, 1) := by decide +kernel
theorem dX7_todays_11 : decode cX7_todays 11 = .ok (.bipush 6, 2) := by decide +kernel
theorem dX7_todays_13 : decode cX7_todays 13 = .ok (.irem, 1) := by decide +kernel
theorem dX7_todays_14 : decode cX7_todays 14 = .ok (.iadd, 1) := by decide +kernel
theorem dX7_todays_15 : decode cX7_todays 15 = .ok (.iaload, 1) := by decide +kernel
theorem dX7_todays_16 : decode cX7_todays 16 = .ok (.ireturn, 1) := by decide +kernel
theorem dX7_dayGoes_0 : decode cX7_dayGoes 0 = .ok (.aload_n 0, 1) := by decide +kernel
theorem dX7_dayGoes_1 : decode cX7_dayGoes 1 = .ok (.aload_n 0, 1) := by decide +kernel
theorem dX7_dayGoes_2 : decode cX7_dayGoes 2 = .ok (.invokevirtual 94, 3) := by decide +kernel
theorem dX7_dayGoes_5 : decode cX7_dayGoes 5 = .ok (.invokevirtual 98, 3) := by decide +kernel
theorem dX7_dayGoes_8 : decode cX7_dayGoes 8 = .ok (.istore_n 1, 1) := by decide +kernel
theorem dX7_dayGoes_9 : decode cX7_dayGoes 9 = .ok (.iconst 0, 1) := by decide +kernel
theorem dX7_dayGoes_10 : decode cX7_dayGoes 10 = .ok (.istore_n 2, 1) := by decide +kernel
theorem dX7_dayGoes_11 : decode cX7_dayGoes 11 = .ok (.iload_n 2, 1) := by decide +kernel
theorem dX7_dayGoes_12 : decode cX7_dayGoes 12 = .ok (.aload_n 0, 1) := by decide +kernel
theorem dX7_dayGoes_13 : decode cX7_dayGoes 13 = .ok (.getfield 7, 3) := by decide +kernel
end
section
theorem dX7_dayGoes_16 : decode cX7_dayGoes 16 = .ok (.iconst 0, 1) := by decide +kernel
theorem dX7_dayGoes_17 : decode cX7_dayGoes 17 = .ok (.iaload, 1) := by decide +kernel
theorem dX7_dayGoes_18 : decode cX7_dayGoes 18 = .ok (.if_icmp .ge 33, 3) := by decide +kernel
theorem dX7_dayGoes_21 : decode cX7_dayGoes 21 = .ok (.iload_n 1, 1) := by decide +kernel
theorem dX7_dayGoes_22 : decode cX7_dayGoes 22 = .ok (.iload_n 2, 1) := by decide +kernel
theorem dX7_dayGoes_23 : decode cX7_dayGoes 23 = .ok (.ishr, 1) := by decide +kernel
theorem dX7_dayGoes_24 : decode cX7_dayGoes 24 = .ok (.iconst 1, 1) := by decide +kernel
theorem dX7_dayGoes_25 : decode cX7_dayGoes 25 = .ok (.iand, 1) := by decide +kernel
theorem dX7_dayGoes_26 : decode cX7_dayGoes 26 = .ok (.iconst 1, 1) := by decide +kernel
theorem dX7_dayGoes_27 : decode cX7_dayGoes 27 = .ok (.if_icmp .ne 18, 3) := by decide +kernel
theorem dX7_dayGoes_30 : decode cX7_dayGoes 30 = .ok (.aload_n 0, 1) := by decide +kernel
theorem dX7_dayGoes_31 : decode cX7_dayGoes 31 = .ok (.iload_n 2, 1) := by decide +kernel
theorem dX7_dayGoes_32 : decode cX7_dayGoes 32 = .ok (.aload_n 0, 1) := by decide +kernel
theorem dX7_dayGoes_33 : decode cX7_dayGoes 33 = .ok (.invokevirtual 94, 3) := by decide +kernel
theorem dX7_dayGoes_36 : decode cX7_dayGoes 36 = .ok (.bipush 10, 2) := by decide +kernel
theorem dX7_dayGoes_38 : decode cX7_dayGoes 38 = .ok (.idiv, 1) := by decide +kernel
theorem dX7_dayGoes_39 : decode cX7_dayGoes 39 = .ok (.bipush 100, 2) := by decide +kernel
theorem dX7_dayGoes_41 : decode cX7_dayGoes 41 = .ok (.irem, 1) := by decide +kernel
theorem dX7_dayGoes_42 : decode cX7_dayGoes 42 = .ok (.invokevirtual 101, 3) := by decide +kernel
theorem dX7_dayGoes_45 : decode cX7_dayGoes 45 = .ok (.iinc 2 1, 3) := by decide +kernel
theorem dX7_dayGoes_48 : decode cX7_dayGoes 48 = .ok (.goto (-37), 3) := by decide +kernel
theorem dX7_dayGoes_51 : decode cX7_dayGoes 51 = .ok (.iconst 0, 1) := by decide +kernel
theorem dX7_dayGoes_52 : decode cX7_dayGoes 52 = .ok (.istore_n 2, 1) := by decide +kernel
theorem dX7_dayGoes_53 : decode cX7_dayGoes 53 = .ok (.iload_n 2, 1) := by decide +kernel
theorem dX7_dayGoes_54 : decode cX7_dayGoes 54 = .ok (.aload_n 0, 1) := by decide +kernel
theorem dX7_dayGoes_55 : decode cX7_dayGoes 55 = .ok (.getfield 7, 3) := by decide +kernel
theorem dX7_dayGoes_58 : decode cX7_dayGoes 58 = .ok (.iconst 0, 1) := by decide +kernel
theorem dX7_dayGoes_59 : decode cX7_dayGoes 59 = .ok (.iaload, 1) := by decide +kernel
theorem dX7_dayGoes_60 : decode cX7_dayGoes 60 = .ok (.if_icmp .ge 68, 3) := by decide +kernel
theorem dX7_dayGoes_63 : decode cX7_dayGoes 63 = .ok (.aload_n 0, 1) := by decide +kernel
theorem dX7_dayGoes_64 : decode cX7_dayGoes 64 = .ok (.getfield 54, 3) := by decide +kernel
theorem dX7_dayGoes_67 : decode cX7_dayGoes 67 = .ok (.iload_n 2, 1) := by decide +kernel
theorem dX7_dayGoes_68 : decode cX7_dayGoes 68 = .ok (.ishr, 1) := by decide +kernel
theorem dX7_dayGoes_69 : decode cX7_dayGoes 69 = .ok (.iconst 1, 1) := by decide +kernel
theorem dX7_dayGoes_70 : decode cX7_dayGoes 70 = .ok (.iand, 1) := by decide +kernel
theorem dX7_dayGoes_71 : decode cX7_dayGoes 71 = .ok (.ifCond .ne 51, 3) := by decide +kernel
theorem dX7_dayGoes_74 : decode cX7_dayGoes 74 = .ok (.aload_n 0, 1) := by decide +kernel
theorem dX7_dayGoes_75 : decode cX7_dayGoes 75 = .ok (.iload_n 2, 1) := by decide +kernel
theorem dX7_dayGoes_76 : decode cX7_dayGoes 76 = .ok (.iconst 4, 1) := by decide +kernel
theorem dX7_dayGoes_77 : decode cX7_dayGoes 77 = .ok (.aload_n 0, 1) := by decide +kernel
theorem dX7_dayGoes_78 : decode cX7_dayGoes 78 = .ok (.iload_n 2, 1) := by decide +kernel
theorem dX7_dayGoes_79 : decode cX7_dayGoes 79 = .ok (.iconst 4, 1) := by decide +kernel
theorem dX7_dayGoes_80 : decode cX7_dayGoes 80 = .ok (.invokevirtual 58, 3) := by decide +kernel
theorem dX7_dayGoes_83 : decode cX7_dayGoes 83 = .ok (.iconst 1, 1) := by decide +kernel
theorem dX7_dayGoes_84 : decode cX7_dayGoes 84 = .ok (.iadd, 1) := by decide +kernel
theorem dX7_dayGoes_85 : decode cX7_dayGoes 85 = .ok (.iconst 0, 1) := by decide +kernel
theorem dX7_dayGoes_86 : decode cX7_dayGoes 86 = .ok (.sipush 9999, 3) := by decide +kernel
theorem dX7_dayGoes_89 : decode cX7_dayGoes 89 = .ok (.invokestatic 66, 3) := by decide +kernel
theorem dX7_dayGoes_92 : decode cX7_dayGoes 92 = .ok (.invokevirtual 90, 3) := by decide +kernel
theorem dX7_dayGoes_95 : decode cX7_dayGoes 95 = .ok (.aload_n 0, 1) := by decide +kernel
theorem dX7_dayGoes_96 : decode cX7_dayGoes 96 = .ok (.iload_n 2, 1) := by decide +kernel
theorem dX7_dayGoes_97 : decode cX7_dayGoes 97 = .ok (.invokevirtual 105, 3) := by decide +kernel
theorem dX7_dayGoes_100 : decode cX7_dayGoes 100 = .ok (.ifCond .le 22, 3) := by decide +kernel
theorem dX7_dayGoes_103 : decode cX7_dayGoes 103 = .ok (.aload_n 0, 1) := by decide +kernel
theorem dX7_dayGoes_104 : decode cX7_dayGoes 104 = .ok (.iload_n 2, 1) := by decide +kernel
theorem dX7_dayGoes_105 : decode cX7_dayGoes 105 = .ok (.iconst 4, 1) := by decide +kernel
theorem dX7_dayGoes_106 : decode cX7_dayGoes 106 = .ok (.invokevirtual 58, 3) := by decide +kernel
theorem dX7_dayGoes_109 : decode cX7_dayGoes 109 = .ok (.aload_n 0, 1) := by decide +kernel
theorem dX7_dayGoes_110 : decode cX7_dayGoes 110 = .ok (.iload_n 2, 1) := by decide +kernel
theorem dX7_dayGoes_111 : decode cX7_dayGoes 111 = .ok (.invokevirtual 105, 3) := by decide +kernel
theorem dX7_dayGoes_114 : decode cX7_dayGoes 114 = .ok (.if_icmp .lt 8, 3) := by decide +kernel
theorem dX7_dayGoes_117 : decode cX7_dayGoes 117 = .ok (.aload_n 0, 1) := by decide +kernel
theorem dX7_dayGoes_118 : decode cX7_dayGoes 118 = .ok (.iload_n 2, 1) := by decide +kernel
theorem dX7_dayGoes_119 : decode cX7_dayGoes 119 = .ok (.invokevirtual 108, 3) := by decide +kernel
theorem dX7_dayGoes_122 : decode cX7_dayGoes 122 = .ok (.iinc 2 1, 3) := by decide +kernel
theorem dX7_dayGoes_125 : decode cX7_dayGoes 125 = .ok (.goto (-72), 3) := by decide +kernel
theorem dX7_dayGoes_128 : decode cX7_dayGoes 128 = .ok (.aload_n 0, 1) := by decide +kernel
theorem dX7_dayGoes_129 : decode cX7_dayGoes 129 = .ok (.getfield 7, 3) := by decide +kernel
theorem dX7_dayGoes_132 : decode cX7_dayGoes 132 = .ok (.iconst 1, 1) := by decide +kernel
theorem dX7_dayGoes_133 : decode cX7_dayGoes 133 = .ok (.aload_n 0, 1) := by decide +kernel
theorem dX7_dayGoes_134 : decode cX7_dayGoes 134 = .ok (.getfield 7, 3) := by decide +kernel
theorem dX7_dayGoes_137 : decode cX7_dayGoes 137 = .ok (.iconst 1, 1) := by decide +kernel
theorem dX7_dayGoes_138 : decode cX7_dayGoes 138 = .ok (.iaload, 1) := by decide +kernel
theorem dX7_dayGoes_139 : decode cX7_dayGoes 139 = .ok (.iconst 1, 1) := by decide +kernel
theorem dX7_dayGoes_140 : decode cX7_dayGoes 140 = .ok (.iadd, 1) := by decide +kernel
theorem dX7_dayGoes_141 : decode cX7_dayGoes 141 = .ok (.iconst 0, 1) := by decide +kernel
theorem dX7_dayGoes_142 : decode cX7_dayGoes 142 = .ok (.ldc 112, 2) := by decide +kernel
theorem dX7_dayGoes_144 : decode cX7_dayGoes 144 = .ok (.invokestatic 66, 3) := by decide +kernel
theorem dX7_dayGoes_147 : decode cX7_dayGoes 147 = .ok (.iastore, 1) := by decide +kernel
theorem dX7_dayGoes_148 : decode cX7_dayGoes 148 = .ok (.return_, 1) := by decide +kernel
theorem dX7_daysGo_0 : decode cX7_daysGo 0 = .ok (.iconst 0, 1) := by decide +kernel
theorem dX7_daysGo_1 : decode cX7_daysGo 1 = .ok (.istore_n 2, 1) := by decide +kernel
theorem dX7_daysGo_2 : decode cX7_daysGo 2 = .ok (.iload_n 2, 1) := by decide +kernel
theorem dX7_daysGo_3 : decode cX7_daysGo 3 = .ok (.iload_n 1, 1) := by decide +kernel
theorem dX7_daysGo_4 : decode cX7_daysGo 4 = .ok (.if_icmp .ge 13, 3) := by decide +kernel
theorem dX7_daysGo_7 : decode cX7_daysGo 7 = .ok (.aload_n 0, 1) := by decide +kernel
theorem dX7_daysGo_8 : decode cX7_daysGo 8 = .ok (.invokevirtual 113, 3) := by decide +kernel
theorem dX7_daysGo_11 : decode cX7_daysGo 11 = .ok (.iinc 2 1, 3) := by decide +kernel
theorem dX7_daysGo_14 : decode cX7_daysGo 14 = .ok (.goto (-12), 3) := by decide +kernel
theorem dX7_daysGo_17 : decode cX7_daysGo 17 = .ok (.return_, 1) := by decide +kernel
theorem dX7_known_0 : decode cX7_known 0 = .ok (.iconst 0, 1) := by decide +kernel
theorem dX7_known_1 : decode cX7_known 1 = .ok (.istore_n 3, 1) := by decide +kernel
theorem dX7_known_2 : decode cX7_known 2 = .ok (.iconst 0, 1) := by decide +kernel
theorem dX7_known_3 : decode cX7_known 3 = .ok (.istore 4, 2) := by decide +kernel
theorem dX7_known_5 : decode cX7_known 5 = .ok (.iload 4, 2) := by decide +kernel
theorem dX7_known_7 : decode cX7_known 7 = .ok (.aload_n 0, 1) := by decide +kernel
theorem dX7_known_8 : decode cX7_known 8 = .ok (.getfield 7, 3) := by decide +kernel
theorem dX7_known_11 : decode cX7_known 11 = .ok (.iconst 0, 1) := by decide +kernel
theorem dX7_known_12 : decode cX7_known 12 = .ok (.iaload, 1) := by decide +kernel
theorem dX7_known_13 : decode cX7_known 13 = .ok (.if_icmp .ge 33, 3) := by decide +kernel
theorem dX7_known_16 : decode cX7_known 16 = .ok (.iload_n 3, 1) := by decide +kernel
theorem dX7_known_17 : decode cX7_known 17 = .ok (.iload_n 1, 1) := by decide +kernel
theorem dX7_known_18 : decode cX7_known 18 = .ok (.iload 4, 2) := by decide +kernel
theorem dX7_known_20 : decode cX7_known 20 = .ok (.ishr, 1) := by decide +kernel
theorem dX7_known_21 : decode cX7_known 21 = .ok (.iconst 1, 1) := by decide +kernel
theorem dX7_known_22 : decode cX7_known 22 = .ok (.iand, 1) := by decide +kernel
theorem dX7_known_23 : decode cX7_known 23 = .ok (.iconst 1, 1) := by decide +kernel
theorem dX7_known_24 : decode cX7_known 24 = .ok (.if_icmp .ne 13, 3) := by decide +kernel
theorem dX7_known_27 : decode cX7_known 27 = .ok (.aload_n 0, 1) := by decide +kernel
theorem dX7_known_28 : decode cX7_known 28 = .ok (.iload 4, 2) := by decide +kernel
theorem dX7_known_30 : decode cX7_known 30 = .ok (.iload_n 2, 1) := by decide +kernel
theorem dX7_known_31 : decode cX7_known 31 = .ok (.invokevirtual 58, 3) := by decide +kernel
theorem dX7_known_34 : decode cX7_known 34 = .ok (.goto 4, 3) := by decide +kernel
theorem dX7_known_37 : decode cX7_known 37 = .ok (.iconst 0, 1) := by decide +kernel
theorem dX7_known_38 : decode cX7_known 38 = .ok (.ior, 1) := by decide +kernel
theorem dX7_known_39 : decode cX7_known 39 = .ok (.istore_n 3, 1) := by decide +kernel
theorem dX7_known_40 : decode cX7_known 40 = .ok (.iinc 4 1, 3) := by decide +kernel
theorem dX7_known_43 : decode cX7_known 43 = .ok (.goto (-38), 3) := by decide +kernel
theorem dX7_known_46 : decode cX7_known 46 = .ok (.iload_n 3, 1) := by decide +kernel
theorem dX7_known_47 : decode cX7_known 47 = .ok (.ireturn, 1) := by decide +kernel
theorem dX7_allKnow_0 : decode cX7_allKnow 0 = .ok (.aload_n 0, 1) := by decide +kernel
theorem dX7_allKnow_1 : decode cX7_allKnow 1 = .ok (.sipush 255, 3) := by decide +kernel
theorem dX7_allKnow_4 : decode cX7_allKnow 4 = .ok (.iconst 3, 1) := by decide +kernel
theorem dX7_allKnow_5 : decode cX7_allKnow 5 = .ok (.invokevirtual 116, 3) := by decide +kernel
theorem dX7_allKnow_8 : decode cX7_allKnow 8 = .ok (.ireturn, 1) := by decide +kernel
theorem dX7_allHands_0 : decode cX7_allHands 0 = .ok (.aload_n 0, 1) := by decide +kernel
theorem dX7_allHands_1 : decode cX7_allHands 1 = .ok (.sipush 255, 3) := by decide +kernel
theorem dX7_allHands_4 : decode cX7_allHands 4 = .ok (.iconst 5, 1) := by decide +kernel
theorem dX7_allHands_5 : decode cX7_allHands 5 = .ok (.invokevirtual 116, 3) := by decide +kernel
theorem dX7_allHands_8 : decode cX7_allHands 8 = .ok (.ireturn, 1) := by decide +kernel
theorem dX7_allDrawn_0 : decode cX7_allDrawn 0 = .ok (.iconst 0, 1) := by decide +kernel
theorem dX7_allDrawn_1 : decode cX7_allDrawn 1 = .ok (.istore_n 1, 1) := by decide +kernel
theorem dX7_allDrawn_2 : decode cX7_allDrawn 2 = .ok (.iconst 0, 1) := by decide +kernel
theorem dX7_allDrawn_3 : decode cX7_allDrawn 3 = .ok (.istore_n 2, 1) := by decide +kernel
theorem dX7_allDrawn_4 : decode cX7_allDrawn 4 = .ok (.iload_n 2, 1) := by decide +kernel
theorem dX7_allDrawn_5 : decode cX7_allDrawn 5 = .ok (.aload_n 0, 1) := by decide +kernel
theorem dX7_allDrawn_6 : decode cX7_allDrawn 6 = .ok (.getfield 7, 3) := by decide +kernel
theorem dX7_allDrawn_9 : decode cX7_allDrawn 9 = .ok (.iconst 0, 1) := by decide +kernel
theorem dX7_allDrawn_10 : decode cX7_allDrawn 10 = .ok (.iaload, 1) := by decide +kernel
theorem dX7_allDrawn_11 : decode cX7_allDrawn 11 = .ok (.if_icmp .ge 19, 3) := by decide +kernel
theorem dX7_allDrawn_14 : decode cX7_allDrawn 14 = .ok (.iload_n 1, 1) := by decide +kernel
theorem dX7_allDrawn_15 : decode cX7_allDrawn 15 = .ok (.aload_n 0, 1) := by decide +kernel
theorem dX7_allDrawn_16 : decode cX7_allDrawn 16 = .ok (.iload_n 2, 1) := by decide +kernel
theorem dX7_allDrawn_17 : decode cX7_allDrawn 17 = .ok (.bipush 6, 2) := by decide +kernel
theorem dX7_allDrawn_19 : decode cX7_allDrawn 19 = .ok (.invokevirtual 58, 3) := by decide +kernel
theorem dX7_allDrawn_22 : decode cX7_allDrawn 22 = .ok (.iadd, 1) := by decide +kernel
theorem dX7_allDrawn_23 : decode cX7_allDrawn 23 = .ok (.istore_n 1, 1) := by decide +kernel
theorem dX7_allDrawn_24 : decode cX7_allDrawn 24 = .ok (.iinc 2 1, 3) := by decide +kernel
theorem dX7_allDrawn_27 : decode cX7_allDrawn 27 = .ok (.goto (-23), 3) := by decide +kernel
theorem dX7_allDrawn_30 : decode cX7_allDrawn 30 = .ok (.iload_n 1, 1) := by decide +kernel
theorem dX7_allDrawn_31 : decode cX7_allDrawn 31 = .ok (.ireturn, 1) := by decide +kernel
theorem dX7_say_0 : decode cX7_say 0 = .ok (.iload_n 1, 1) := by decide +kernel
theorem dX7_say_1 : decode cX7_say 1 = .ok (.invokestatic 119, 3) := by decide +kernel
theorem dX7_say_4 : decode cX7_say 4 = .ok (.ifCond .eq 21, 3) := by decide +kernel
theorem dX7_say_7 : decode cX7_say 7 = .ok (.iload_n 2, 1) := by decide +kernel
theorem dX7_say_8 : decode cX7_say 8 = .ok (.invokestatic 122, 3) := by decide +kernel
theorem dX7_say_11 : decode cX7_say 11 = .ok (.ifCond .eq 14, 3) := by decide +kernel
theorem dX7_say_14 : decode cX7_say 14 = .ok (.aload_n 0, 1) := by decide +kernel
theorem dX7_say_15 : decode cX7_say 15 = .ok (.iconst 3, 1) := by decide +kernel
theorem dX7_say_16 : decode cX7_say 16 = .ok (.iload_n 1, 1) := by decide +kernel
theorem dX7_say_17 : decode cX7_say 17 = .ok (.iadd, 1) := by decide +kernel
theorem dX7_say_18 : decode cX7_say 18 = .ok (.iload_n 2, 1) := by decide +kernel
theorem dX7_say_19 : decode cX7_say 19 = .ok (.invokevirtual 125, 3) := by decide +kernel
theorem dX7_say_22 : decode cX7_say 22 = .ok (.goto 8, 3) := by decide +kernel
theorem dX7_say_25 : decode cX7_say 25 = .ok (.aload_n 0, 1) := by decide +kernel
theorem dX7_say_26 : decode cX7_say 26 = .ok (.iconst 0, 1) := by decide +kernel
theorem dX7_say_27 : decode cX7_say 27 = .ok (.invokevirtual 128, 3) := by decide +kernel
theorem dX7_say_30 : decode cX7_say 30 = .ok (.ireturn, 1) := by decide +kernel
theorem dX7_said_0 : decode cX7_said 0 = .ok (.iload_n 1, 1) := by decide +kernel
theorem dX7_said_1 : decode cX7_said 1 = .ok (.invokestatic 119, 3) := by decide +kernel
theorem dX7_said_4 : decode cX7_said 4 = .ok (.ifCond .eq 14, 3) := by decide +kernel
theorem dX7_said_7 : decode cX7_said 7 = .ok (.aload_n 0, 1) := by decide +kernel
theorem dX7_said_8 : decode cX7_said 8 = .ok (.getfield 7, 3) := by decide +kernel
theorem dX7_said_11 : decode cX7_said 11 = .ok (.iconst 3, 1) := by decide +kernel
theorem dX7_said_12 : decode cX7_said 12 = .ok (.iload_n 1, 1) := by decide +kernel
theorem dX7_said_13 : decode cX7_said 13 = .ok (.iadd, 1) := by decide +kernel
theorem dX7_said_14 : decode cX7_said 14 = .ok (.iaload, 1) := by decide +kernel
theorem dX7_said_15 : decode cX7_said 15 = .ok (.goto 8, 3) := by decide +kernel
theorem dX7_said_18 : decode cX7_said 18 = .ok (.aload_n 0, 1) := by decide +kernel
theorem dX7_said_19 : decode cX7_said 19 = .ok (.iconst 0, 1) := by decide +kernel
theorem dX7_said_20 : decode cX7_said 20 = .ok (.invokevirtual 128, 3) := by decide +kernel
theorem dX7_said_23 : decode cX7_said 23 = .ok (.ireturn, 1) := by decide +kernel
theorem dX7_room_0 : decode cX7_room 0 = .ok (.iload_n 1, 1) := by decide +kernel
theorem dX7_room_1 : decode cX7_room 1 = .ok (.invokestatic 119, 3) := by decide +kernel
theorem dX7_room_4 : decode cX7_room 4 = .ok (.ifCond .eq 15, 3) := by decide +kernel
theorem dX7_room_7 : decode cX7_room 7 = .ok (.iload_n 2, 1) := by decide +kernel
theorem dX7_room_8 : decode cX7_room 8 = .ok (.i2l, 1) := by decide +kernel
theorem dX7_room_9 : decode cX7_room 9 = .ok (.lconst 0, 1) := by decide +kernel
theorem dX7_room_10 : decode cX7_room 10 = .ok (.ldc2_w 131, 3) := by decide +kernel
theorem dX7_room_13 : decode cX7_room 13 = .ok (.invokestatic 42, 3) := by decide +kernel
theorem dX7_room_16 : decode cX7_room 16 = .ok (.ifCond .ne 9, 3) := by decide +kernel
theorem dX7_room_19 : decode cX7_room 19 = .ok (.aload_n 0, 1) := by decide +kernel
theorem dX7_room_20 : decode cX7_room 20 = .ok (.iconst 0, 1) := by decide +kernel
theorem dX7_room_21 : decode cX7_room 21 = .ok (.invokevirtual 128, 3) := by decide +kernel
theorem dX7_room_24 : decode cX7_room 24 = .ok (.ireturn, 1) := by decide +kernel
theorem dX7_room_25 : decode cX7_room 25 = .ok (.iconst 0, 1) := by decide +kernel
theorem dX7_room_26 : decode cX7_room 26 = .ok (.istore_n 3, 1) := by decide +kernel
theorem dX7_room_27 : decode cX7_room 27 = .ok (.iconst 0, 1) := by decide +kernel
theorem dX7_room_28 : decode cX7_room 28 = .ok (.istore 4, 2) := by decide +kernel
theorem dX7_room_30 : decode cX7_room 30 = .ok (.iload 4, 2) := by decide +kernel
theorem dX7_room_32 : decode cX7_room 32 = .ok (.aload_n 0, 1) := by decide +kernel
theorem dX7_room_33 : decode cX7_room 33 = .ok (.getfield 7, 3) := by decide +kernel
theorem dX7_room_36 : decode cX7_room 36 = .ok (.iconst 0, 1) := by decide +kernel
theorem dX7_room_37 : decode cX7_room 37 = .ok (.iaload, 1) := by decide +kernel
theorem dX7_room_38 : decode cX7_room 38 = .ok (.if_icmp .ge 30, 3) := by decide +kernel
theorem dX7_room_41 : decode cX7_room 41 = .ok (.iload_n 3, 1) := by decide +kernel
theorem dX7_room_42 : decode cX7_room 42 = .ok (.aload_n 0, 1) := by decide +kernel
theorem dX7_room_43 : decode cX7_room 43 = .ok (.iload 4, 2) := by decide +kernel
theorem dX7_room_45 : decode cX7_room 45 = .ok (.iload_n 1, 1) := by decide +kernel
theorem dX7_room_46 : decode cX7_room 46 = .ok (.invokevirtual 62, 3) := by decide +kernel
theorem dX7_room_49 : decode cX7_room 49 = .ok (.ifCond .eq 10, 3) := by decide +kernel
theorem dX7_room_52 : decode cX7_room 52 = .ok (.iconst 1, 1) := by decide +kernel
theorem dX7_room_53 : decode cX7_room 53 = .ok (.iload 4, 2) := by decide +kernel
theorem dX7_room_55 : decode cX7_room 55 = .ok (.ishl, 1) := by decide +kernel
theorem dX7_room_56 : decode cX7_room 56 = .ok (.goto 4, 3) := by decide +kernel
theorem dX7_room_59 : decode cX7_room 59 = .ok (.iconst 0, 1) := by decide +kernel
theorem dX7_room_60 : decode cX7_room 60 = .ok (.ior, 1) := by decide +kernel
theorem dX7_room_61 : decode cX7_room 61 = .ok (.istore_n 3, 1) := by decide +kernel
theorem dX7_room_62 : decode cX7_room 62 = .ok (.iinc 4 1, 3) := by decide +kernel
theorem dX7_room_65 : decode cX7_room 65 = .ok (.goto (-35), 3) := by decide +kernel
theorem dX7_room_68 : decode cX7_room 68 = .ok (.iload_n 2, 1) := by decide +kernel
theorem dX7_room_69 : decode cX7_room 69 = .ok (.iconst 3, 1) := by decide +kernel
theorem dX7_room_70 : decode cX7_room 70 = .ok (.if_icmp .ge 31, 3) := by decide +kernel
theorem dX7_room_73 : decode cX7_room 73 = .ok (.iload_n 2, 1) := by decide +kernel
theorem dX7_room_74 : decode cX7_room 74 = .ok (.ifCond .ne 7, 3) := by decide +kernel
theorem dX7_room_77 : decode cX7_room 77 = .ok (.iload_n 3, 1) := by decide +kernel
theorem dX7_room_78 : decode cX7_room 78 = .ok (.goto 22, 3) := by decide +kernel
theorem dX7_room_81 : decode cX7_room 81 = .ok (.iload_n 2, 1) := by decide +kernel
theorem dX7_room_82 : decode cX7_room 82 = .ok (.iconst 1, 1) := by decide +kernel
theorem dX7_room_83 : decode cX7_room 83 = .ok (.if_icmp .ne 11, 3) := by decide +kernel
theorem dX7_room_86 : decode cX7_room 86 = .ok (.aload_n 0, 1) := by decide +kernel
theorem dX7_room_87 : decode cX7_room 87 = .ok (.iload_n 1, 1) := by decide +kernel
theorem dX7_room_88 : decode cX7_room 88 = .ok (.invokevirtual 78, 3) := by decide +kernel
theorem dX7_room_91 : decode cX7_room 91 = .ok (.goto 9, 3) := by decide +kernel
theorem dX7_room_94 : decode cX7_room 94 = .ok (.aload_n 0, 1) := by decide +kernel
theorem dX7_room_95 : decode cX7_room 95 = .ok (.iload_n 3, 1) := by decide +kernel
theorem dX7_room_96 : decode cX7_room 96 = .ok (.iconst 3, 1) := by decide +kernel
theorem dX7_room_97 : decode cX7_room 97 = .ok (.invokevirtual 116, 3) := by decide +kernel
theorem dX7_room_100 : decode cX7_room 100 = .ok (.ireturn, 1) := by decide +kernel
theorem dX7_room_101 : decode cX7_room 101 = .ok (.iconst 0, 1) := by decide +kernel
theorem dX7_room_102 : decode cX7_room 102 = .ok (.istore 4, 2) := by decide +kernel
theorem dX7_room_104 : decode cX7_room 104 = .ok (.iconst 0, 1) := by decide +kernel
theorem dX7_room_105 : decode cX7_room 105 = .ok (.istore 5, 2) := by decide +kernel
theorem dX7_room_107 : decode cX7_room 107 = .ok (.iload 5, 2) := by decide +kernel
theorem dX7_room_109 : decode cX7_room 109 = .ok (.bipush 6, 2) := by decide +kernel
theorem dX7_room_111 : decode cX7_room 111 = .ok (.if_icmp .ge 52, 3) := by decide +kernel
theorem dX7_room_114 : decode cX7_room 114 = .ok (.iload 4, 2) := by decide +kernel
theorem dX7_room_116 : decode cX7_room 116 = .ok (.aload_n 0, 1) := by decide +kernel
theorem dX7_room_117 : decode cX7_room 117 = .ok (.getfield 7, 3) := by decide +kernel
theorem dX7_room_120 : decode cX7_room 120 = .ok (.iconst 3, 1) := by decide +kernel
theorem dX7_room_121 : decode cX7_room 121 = .ok (.iload 5, 2) := by decide +kernel
theorem dX7_room_123 : decode cX7_room 123 = .ok (.iadd, 1) := by decide +kernel
theorem dX7_room_124 : decode cX7_room 124 = .ok (.iaload, 1) := by decide +kernel
theorem dX7_room_125 : decode cX7_room 125 = .ok (.sipush 1000, 3) := by decide +kernel
theorem dX7_room_128 : decode cX7_room 128 = .ok (.idiv, 1) := by decide +kernel
theorem dX7_room_129 : decode cX7_room 129 = .ok (.iload_n 1, 1) := by decide +kernel
theorem dX7_room_130 : decode cX7_room 130 = .ok (.if_icmp .ne 23, 3) := by decide +kernel
theorem dX7_room_133 : decode cX7_room 133 = .ok (.iconst 1, 1) := by decide +kernel
theorem dX7_room_134 : decode cX7_room 134 = .ok (.aload_n 0, 1) := by decide +kernel
theorem dX7_room_135 : decode cX7_room 135 = .ok (.getfield 7, 3) := by decide +kernel
theorem dX7_room_138 : decode cX7_room 138 = .ok (.iconst 3, 1) := by decide +kernel
theorem dX7_room_139 : decode cX7_room 139 = .ok (.iload 5, 2) := by decide +kernel
theorem dX7_room_141 : decode cX7_room 141 = .ok (.iadd, 1) := by decide +kernel
theorem dX7_room_142 : decode cX7_room 142 = .ok (.iaload, 1) := by decide +kernel
theorem dX7_room_143 : decode cX7_room 143 = .ok (.bipush 10, 2) := by decide +kernel
theorem dX7_room_145 : decode cX7_room 145 = .ok (.idiv, 1) := by decide +kernel
theorem dX7_room_146 : decode cX7_room 146 = .ok (.bipush 100, 2) := by decide +kernel
theorem dX7_room_148 : decode cX7_room 148 = .ok (.irem, 1) := by decide +kernel
theorem dX7_room_149 : decode cX7_room 149 = .ok (.ishl, 1) := by decide +kernel
theorem dX7_room_150 : decode cX7_room 150 = .ok (.goto 4, 3) := by decide +kernel
theorem dX7_room_153 : decode cX7_room 153 = .ok (.iconst 0, 1) := by decide +kernel
theorem dX7_room_154 : decode cX7_room 154 = .ok (.ior, 1) := by decide +kernel
theorem dX7_room_155 : decode cX7_room 155 = .ok (.istore 4, 2) := by decide +kernel
theorem dX7_room_157 : decode cX7_room 157 = .ok (.iinc 5 1, 3) := by decide +kernel
theorem dX7_room_160 : decode cX7_room 160 = .ok (.goto (-53), 3) := by decide +kernel
theorem dX7_room_163 : decode cX7_room 163 = .ok (.iload 4, 2) := by decide +kernel
theorem dX7_room_165 : decode cX7_room 165 = .ok (.ireturn, 1) := by decide +kernel
theorem dX7_comes_0 : decode cX7_comes 0 = .ok (.aload_n 0, 1) := by decide +kernel
theorem dX7_comes_1 : decode cX7_comes 1 = .ok (.getfield 7, 3) := by decide +kernel
theorem dX7_comes_4 : decode cX7_comes 4 = .ok (.iconst 0, 1) := by decide +kernel
theorem dX7_comes_5 : decode cX7_comes 5 = .ok (.iaload, 1) := by decide +kernel
theorem dX7_comes_6 : decode cX7_comes 6 = .ok (.istore_n 3, 1) := by decide +kernel
theorem dX7_comes_7 : decode cX7_comes 7 = .ok (.iconst 0, 1) := by decide +kernel
theorem dX7_comes_8 : decode cX7_comes 8 = .ok (.istore 4, 2) := by decide +kernel
theorem dX7_comes_10 : decode cX7_comes 10 = .ok (.iload 4, 2) := by decide +kernel
theorem dX7_comes_12 : decode cX7_comes 12 = .ok (.bipush 6, 2) := by decide +kernel
theorem dX7_comes_14 : decode cX7_comes 14 = .ok (.if_icmp .gt 17, 3) := by decide +kernel
theorem dX7_comes_17 : decode cX7_comes 17 = .ok (.aload_n 0, 1) := by decide +kernel
theorem dX7_comes_18 : decode cX7_comes 18 = .ok (.iload_n 3, 1) := by decide +kernel
theorem dX7_comes_19 : decode cX7_comes 19 = .ok (.iload 4, 2) := by decide +kernel
theorem dX7_comes_21 : decode cX7_comes 21 = .ok (.iconst 0, 1) := by decide +kernel
theorem dX7_comes_22 : decode cX7_comes 22 = .ok (.invokevirtual 90, 3) := by decide +kernel
theorem dX7_comes_25 : decode cX7_comes 25 = .ok (.iinc 4 1, 3) := by decide +kernel
theorem dX7_comes_28 : decode cX7_comes 28 = .ok (.goto (-18), 3) := by decide +kernel
theorem dX7_comes_31 : decode cX7_comes 31 = .ok (.aload_n 0, 1) := by decide +kernel
theorem dX7_comes_32 : decode cX7_comes 32 = .ok (.iload_n 3, 1) := by decide +kernel
theorem dX7_comes_33 : decode cX7_comes 33 = .ok (.iconst 0, 1) := by decide +kernel
theorem dX7_comes_34 : decode cX7_comes 34 = .ok (.iload_n 1, 1) := by decide +kernel
theorem dX7_comes_35 : decode cX7_comes 35 = .ok (.invokevirtual 90, 3) := by decide +kernel
theorem dX7_comes_38 : decode cX7_comes 38 = .ok (.aload_n 0, 1) := by decide +kernel
theorem dX7_comes_39 : decode cX7_comes 39 = .ok (.iload_n 3, 1) := by decide +kernel
theorem dX7_comes_40 : decode cX7_comes 40 = .ok (.iconst 1, 1) := by decide +kernel
theorem dX7_comes_41 : decode cX7_comes 41 = .ok (.iload_n 2, 1) := by decide +kernel
theorem dX7_comes_42 : decode cX7_comes 42 = .ok (.invokevirtual 90, 3) := by decide +kernel
theorem dX7_comes_45 : decode cX7_comes 45 = .ok (.aload_n 0, 1) := by decide +kernel
theorem dX7_comes_46 : decode cX7_comes 46 = .ok (.iload_n 3, 1) := by decide +kernel
theorem dX7_comes_47 : decode cX7_comes 47 = .ok (.iconst 2, 1) := by decide +kernel
theorem dX7_comes_48 : decode cX7_comes 48 = .ok (.iconst 5, 1) := by decide +kernel
theorem dX7_comes_49 : decode cX7_comes 49 = .ok (.invokevirtual 90, 3) := by decide +kernel
theorem dX7_comes_52 : decode cX7_comes 52 = .ok (.aload_n 0, 1) := by decide +kernel
theorem dX7_comes_53 : decode cX7_comes 53 = .ok (.getfield 7, 3) := by decide +kernel
theorem dX7_comes_56 : decode cX7_comes 56 = .ok (.iconst 0, 1) := by decide +kernel
theorem dX7_comes_57 : decode cX7_comes 57 = .ok (.dup2, 1) := by decide +kernel
theorem dX7_comes_58 : decode cX7_comes 58 = .ok (.iaload, 1) := by decide +kernel
theorem dX7_comes_59 : decode cX7_comes 59 = .ok (.iconst 1, 1) := by decide +kernel
theorem dX7_comes_60 : decode cX7_comes 60 = .ok (.iadd, 1) := by decide +kernel
theorem dX7_comes_61 : decode cX7_comes 61 = .ok (.iastore, 1) := by decide +kernel
theorem dX7_comes_62 : decode cX7_comes 62 = .ok (.iload_n 3, 1) := by decide +kernel
theorem dX7_comes_63 : decode cX7_comes 63 = .ok (.ireturn, 1) := by decide +kernel
theorem dX7_glove_0 : decode cX7_glove 0 = .ok (.iload_n 1, 1) := by decide +kernel
theorem dX7_glove_1 : decode cX7_glove 1 = .ok (.i2l, 1) := by decide +kernel
theorem dX7_glove_2 : decode cX7_glove 2 = .ok (.lconst 0, 1) := by decide +kernel
theorem dX7_glove_3 : decode cX7_glove 3 = .ok (.ldc2_w 133, 3) := by decide +kernel
theorem dX7_glove_6 : decode cX7_glove 6 = .ok (.invokestatic 42, 3) := by decide +kernel
theorem dX7_glove_9 : decode cX7_glove 9 = .ok (.ifCond .eq 10, 3) := by decide +kernel
theorem dX7_glove_12 : decode cX7_glove 12 = .ok (.iload_n 2, 1) := by decide +kernel
theorem dX7_glove_13 : decode cX7_glove 13 = .ok (.invokestatic 119, 3) := by decide +kernel
theorem dX7_glove_16 : decode cX7_glove 16 = .ok (.ifCond .ne 9, 3) := by decide +kernel
theorem dX7_glove_19 : decode cX7_glove 19 = .ok (.aload_n 0, 1) := by decide +kernel
theorem dX7_glove_20 : decode cX7_glove 20 = .ok (.iconst 0, 1) := by decide +kernel
theorem dX7_glove_21 : decode cX7_glove 21 = .ok (.invokevirtual 128, 3) := by decide +kernel
theorem dX7_glove_24 : decode cX7_glove 24 = .ok (.ireturn, 1) := by decide +kernel
theorem dX7_glove_25 : decode cX7_glove 25 = .ok (.aload_n 0, 1) := by decide +kernel
theorem dX7_glove_26 : decode cX7_glove 26 = .ok (.getfield 7, 3) := by decide +kernel
theorem dX7_glove_29 : decode cX7_glove 29 = .ok (.iconst 0, 1) := by decide +kernel
theorem dX7_glove_30 : decode cX7_glove 30 = .ok (.iaload, 1) := by decide +kernel
theorem dX7_glove_31 : decode cX7_glove 31 = .ok (.bipush 8, 2) := by decide +kernel
theorem dX7_glove_33 : decode cX7_glove 33 = .ok (.if_icmp .ne 11, 3) := by decide +kernel
theorem dX7_glove_36 : decode cX7_glove 36 = .ok (.aload_n 0, 1) := by decide +kernel
theorem dX7_glove_37 : decode cX7_glove 37 = .ok (.iconst 1, 1) := by decide +kernel
theorem dX7_glove_38 : decode cX7_glove 38 = .ok (.invokevirtual 128, 3) := by decide +kernel
theorem dX7_glove_41 : decode cX7_glove 41 = .ok (.goto 9, 3) := by decide +kernel
theorem dX7_glove_44 : decode cX7_glove 44 = .ok (.aload_n 0, 1) := by decide +kernel
theorem dX7_glove_45 : decode cX7_glove 45 = .ok (.iload_n 1, 1) := by decide +kernel
theorem dX7_glove_46 : decode cX7_glove 46 = .ok (.iload_n 2, 1) := by decide +kernel
theorem dX7_glove_47 : decode cX7_glove 47 = .ok (.invokevirtual 135, 3) := by decide +kernel
theorem dX7_glove_50 : decode cX7_glove 50 = .ok (.ireturn, 1) := by decide +kernel
theorem dX7_of_0 : decode cX7_of 0 = .ok (.aload_n 0, 1) := by decide +kernel
theorem dX7_of_1 : decode cX7_of 1 = .ok (.iload_n 1, 1) := by decide +kernel
theorem dX7_of_2 : decode cX7_of 2 = .ok (.invokevirtual 138, 3) := by decide +kernel
theorem dX7_of_5 : decode cX7_of 5 = .ok (.ifCond .eq 15, 3) := by decide +kernel
theorem dX7_of_8 : decode cX7_of 8 = .ok (.iload_n 2, 1) := by decide +kernel
theorem dX7_of_9 : decode cX7_of 9 = .ok (.i2l, 1) := by decide +kernel
theorem dX7_of_10 : decode cX7_of 10 = .ok (.lconst 0, 1) := by decide +kernel
theorem dX7_of_11 : decode cX7_of 11 = .ok (.ldc2_w 141, 3) := by decide +kernel
theorem dX7_of_14 : decode cX7_of 14 = .ok (.invokestatic 42, 3) := by decide +kernel
theorem dX7_of_17 : decode cX7_of 17 = .ok (.ifCond .ne 9, 3) := by decide +kernel
theorem dX7_of_20 : decode cX7_of 20 = .ok (.aload_n 0, 1) := by decide +kernel
theorem dX7_of_21 : decode cX7_of 21 = .ok (.iconst 0, 1) := by decide +kernel
theorem dX7_of_22 : decode cX7_of 22 = .ok (.invokevirtual 128, 3) := by decide +kernel
theorem dX7_of_25 : decode cX7_of 25 = .ok (.ireturn, 1) := by decide +kernel
theorem dX7_of_26 : decode cX7_of 26 = .ok (.iload_n 2, 1) := by decide +kernel
theorem dX7_of_27 : decode cX7_of 27 = .ok (.tableswitch 53 7 10 #[29, 35, 41, 47], 29) := by decide +kernel
theorem dX7_of_56 : decode cX7_of 56 = .ok (.aload_n 0, 1) := by decide +kernel
theorem dX7_of_57 : decode cX7_of 57 = .ok (.iload_n 1, 1) := by decide +kernel
theorem dX7_of_58 : decode cX7_of 58 = .ok (.invokevirtual 81, 3) := by decide +kernel
theorem dX7_of_61 : decode cX7_of 61 = .ok (.ireturn, 1) := by decide +kernel
theorem dX7_of_62 : decode cX7_of 62 = .ok (.aload_n 0, 1) := by decide +kernel
theorem dX7_of_63 : decode cX7_of 63 = .ok (.iload_n 1, 1) := by decide +kernel
theorem dX7_of_64 : decode cX7_of 64 = .ok (.invokevirtual 74, 3) := by decide +kernel
theorem dX7_of_67 : decode cX7_of 67 = .ok (.ireturn, 1) := by decide +kernel
theorem dX7_of_68 : decode cX7_of 68 = .ok (.aload_n 0, 1) := by decide +kernel
theorem dX7_of_69 : decode cX7_of 69 = .ok (.iload_n 1, 1) := by decide +kernel
theorem dX7_of_70 : decode cX7_of 70 = .ok (.invokevirtual 105, 3) := by decide +kernel
theorem dX7_of_73 : decode cX7_of 73 = .ok (.ireturn, 1) := by decide +kernel
theorem dX7_of_74 : decode cX7_of 74 = .ok (.aload_n 0, 1) := by decide +kernel
theorem dX7_of_75 : decode cX7_of 75 = .ok (.iload_n 1, 1) := by decide +kernel
theorem dX7_of_76 : decode cX7_of 76 = .ok (.invokevirtual 87, 3) := by decide +kernel
theorem dX7_of_79 : decode cX7_of 79 = .ok (.ireturn, 1) := by decide +kernel
theorem dX7_of_80 : decode cX7_of 80 = .ok (.aload_n 0, 1) := by decide +kernel
theorem dX7_of_81 : decode cX7_of 81 = .ok (.iload_n 1, 1) := by decide +kernel
theorem dX7_of_82 : decode cX7_of 82 = .ok (.iload_n 2, 1) := by decide +kernel
theorem dX7_of_83 : decode cX7_of 83 = .ok (.invokevirtual 58, 3) := by decide +kernel
theorem dX7_of_86 : decode cX7_of 86 = .ok (.ireturn, 1) := by decide +kernel
theorem dX7_mostOf_0 : decode cX7_mostOf 0 = .ok (.iload_n 0, 1) := by decide +kernel
theorem dX7_mostOf_1 : decode cX7_mostOf 1 = .ok (.ifCond .ne 8, 3) := by decide +kernel
theorem dX7_mostOf_4 : decode cX7_mostOf 4 = .ok (.bipush 6, 2) := by decide +kernel
theorem dX7_mostOf_6 : decode cX7_mostOf 6 = .ok (.goto 40, 3) := by decide +kernel
theorem dX7_mostOf_9 : decode cX7_mostOf 9 = .ok (.iload_n 0, 1) := by decide +kernel
theorem dX7_mostOf_10 : decode cX7_mostOf 10 = .ok (.iconst 1, 1) := by decide +kernel
theorem dX7_mostOf_11 : decode cX7_mostOf 11 = .ok (.if_icmp .ne 7, 3) := by decide +kernel
theorem dX7_mostOf_14 : decode cX7_mostOf 14 = .ok (.iconst 5, 1) := by decide +kernel
theorem dX7_mostOf_15 : decode cX7_mostOf 15 = .ok (.goto 31, 3) := by decide +kernel
theorem dX7_mostOf_18 : decode cX7_mostOf 18 = .ok (.iload_n 0, 1) := by decide +kernel
theorem dX7_mostOf_19 : decode cX7_mostOf 19 = .ok (.iconst 2, 1) := by decide +kernel
theorem dX7_mostOf_20 : decode cX7_mostOf 20 = .ok (.if_icmp .ne 8, 3) := by decide +kernel
theorem dX7_mostOf_23 : decode cX7_mostOf 23 = .ok (.bipush 9, 2) := by decide +kernel
theorem dX7_mostOf_25 : decode cX7_mostOf 25 = .ok (.goto 21, 3) := by decide +kernel
theorem dX7_mostOf_28 : decode cX7_mostOf 28 = .ok (.iload_n 0, 1) := by decide +kernel
theorem dX7_mostOf_29 : decode cX7_mostOf 29 = .ok (.iconst 3, 1) := by decide +kernel
theorem dX7_mostOf_30 : decode cX7_mostOf 30 = .ok (.if_icmp .eq 8, 3) := by decide +kernel
theorem dX7_mostOf_33 : decode cX7_mostOf 33 = .ok (.iload_n 0, 1) := by decide +kernel
theorem dX7_mostOf_34 : decode cX7_mostOf 34 = .ok (.iconst 5, 1) := by decide +kernel
theorem dX7_mostOf_35 : decode cX7_mostOf 35 = .ok (.if_icmp .ne 8, 3) := by decide +kernel
theorem dX7_mostOf_38 : decode cX7_mostOf 38 = .ok (.ldc 143, 2) := by decide +kernel
theorem dX7_mostOf_40 : decode cX7_mostOf 40 = .ok (.goto 6, 3) := by decide +kernel
theorem dX7_mostOf_43 : decode cX7_mostOf 43 = .ok (.sipush 9999, 3) := by decide +kernel
theorem dX7_mostOf_46 : decode cX7_mostOf 46 = .ok (.ireturn, 1) := by decide +kernel
theorem dX7_change_0 : decode cX7_change 0 = .ok (.aload_n 0, 1) := by decide +kernel
theorem dX7_change_1 : decode cX7_change 1 = .ok (.iload_n 1, 1) := by decide +kernel
theorem dX7_change_2 : decode cX7_change 2 = .ok (.invokevirtual 138, 3) := by decide +kernel
theorem dX7_change_5 : decode cX7_change 5 = .ok (.ifCond .eq 46, 3) := by decide +kernel
theorem dX7_change_8 : decode cX7_change 8 = .ok (.iload_n 2, 1) := by decide +kernel
theorem dX7_change_9 : decode cX7_change 9 = .ok (.i2l, 1) := by decide +kernel
theorem dX7_change_10 : decode cX7_change 10 = .ok (.lconst 0, 1) := by decide +kernel
theorem dX7_change_11 : decode cX7_change 11 = .ok (.ldc2_w 133, 3) := by decide +kernel
theorem dX7_change_14 : decode cX7_change 14 = .ok (.invokestatic 42, 3) := by decide +kernel
theorem dX7_change_17 : decode cX7_change 17 = .ok (.ifCond .eq 34, 3) := by decide +kernel
theorem dX7_change_20 : decode cX7_change 20 = .ok (.iload_n 3, 1) := by decide +kernel
theorem dX7_change_21 : decode cX7_change 21 = .ok (.i2l, 1) := by decide +kernel
theorem dX7_change_22 : decode cX7_change 22 = .ok (.lconst 0, 1) := by decide +kernel
theorem dX7_change_23 : decode cX7_change 23 = .ok (.iload_n 2, 1) := by decide +kernel
theorem dX7_change_24 : decode cX7_change 24 = .ok (.invokestatic 144, 3) := by decide +kernel
theorem dX7_change_27 : decode cX7_change 27 = .ok (.i2l, 1) := by decide +kernel
theorem dX7_change_28 : decode cX7_change 28 = .ok (.invokestatic 42, 3) := by decide +kernel
theorem dX7_change_31 : decode cX7_change 31 = .ok (.ifCond .eq 20, 3) := by decide +kernel
theorem dX7_change_34 : decode cX7_change 34 = .ok (.aload_n 0, 1) := by decide +kernel
theorem dX7_change_35 : decode cX7_change 35 = .ok (.bipush 9, 2) := by decide +kernel
theorem dX7_change_37 : decode cX7_change 37 = .ok (.bipush 8, 2) := by decide +kernel
theorem dX7_change_39 : decode cX7_change 39 = .ok (.iload_n 2, 1) := by decide +kernel
theorem dX7_change_40 : decode cX7_change 40 = .ok (.imul, 1) := by decide +kernel
theorem dX7_change_41 : decode cX7_change 41 = .ok (.iadd, 1) := by decide +kernel
theorem dX7_change_42 : decode cX7_change 42 = .ok (.iload_n 1, 1) := by decide +kernel
theorem dX7_change_43 : decode cX7_change 43 = .ok (.iadd, 1) := by decide +kernel
theorem dX7_change_44 : decode cX7_change 44 = .ok (.iload_n 3, 1) := by decide +kernel
theorem dX7_change_45 : decode cX7_change 45 = .ok (.invokevirtual 125, 3) := by decide +kernel
theorem dX7_change_48 : decode cX7_change 48 = .ok (.goto 8, 3) := by decide +kernel
theorem dX7_change_51 : decode cX7_change 51 = .ok (.aload_n 0, 1) := by decide +kernel
theorem dX7_change_52 : decode cX7_change 52 = .ok (.iconst 0, 1) := by decide +kernel
theorem dX7_change_53 : decode cX7_change 53 = .ok (.invokevirtual 128, 3) := by decide +kernel
theorem dX7_change_56 : decode cX7_change 56 = .ok (.ireturn, 1) := by decide +kernel
theorem dX7_draw_0 : decode cX7_draw 0 = .ok (.aload_n 0, 1) := by decide +kernel
theorem dX7_draw_1 : decode cX7_draw 1 = .ok (.iload_n 1, 1) := by decide +kernel
theorem dX7_draw_2 : decode cX7_draw 2 = .ok (.invokevirtual 138, 3) := by decide +kernel
theorem dX7_draw_5 : decode cX7_draw 5 = .ok (.ifCond .ne 9, 3) := by decide +kernel
theorem dX7_draw_8 : decode cX7_draw 8 = .ok (.aload_n 0, 1) := by decide +kernel
theorem dX7_draw_9 : decode cX7_draw 9 = .ok (.iconst 0, 1) := by decide +kernel
theorem dX7_draw_10 : decode cX7_draw 10 = .ok (.invokevirtual 128, 3) := by decide +kernel
theorem dX7_draw_13 : decode cX7_draw 13 = .ok (.ireturn, 1) := by decide +kernel
theorem dX7_draw_14 : decode cX7_draw 14 = .ok (.aload_n 0, 1) := by decide +kernel
theorem dX7_draw_15 : decode cX7_draw 15 = .ok (.iload_n 1, 1) := by decide +kernel
theorem dX7_draw_16 : decode cX7_draw 16 = .ok (.invokevirtual 105, 3) := by decide +kernel
theorem dX7_draw_19 : decode cX7_draw 19 = .ok (.ifCond .ne 9, 3) := by decide +kernel
theorem dX7_draw_22 : decode cX7_draw 22 = .ok (.aload_n 0, 1) := by decide +kernel
theorem dX7_draw_23 : decode cX7_draw 23 = .ok (.iconst 4, 1) := by decide +kernel
theorem dX7_draw_24 : decode cX7_draw 24 = .ok (.invokevirtual 128, 3) := by decide +kernel
theorem dX7_draw_27 : decode cX7_draw 27 = .ok (.ireturn, 1) := by decide +kernel
theorem dX7_draw_28 : decode cX7_draw 28 = .ok (.aload_n 0, 1) := by decide +kernel
theorem dX7_draw_29 : decode cX7_draw 29 = .ok (.iload_n 1, 1) := by decide +kernel
theorem dX7_draw_30 : decode cX7_draw 30 = .ok (.invokevirtual 108, 3) := by decide +kernel
theorem dX7_draw_33 : decode cX7_draw 33 = .ok (.aload_n 0, 1) := by decide +kernel
theorem dX7_draw_34 : decode cX7_draw 34 = .ok (.iload_n 1, 1) := by decide +kernel
theorem dX7_draw_35 : decode cX7_draw 35 = .ok (.iconst 5, 1) := by decide +kernel
theorem dX7_draw_36 : decode cX7_draw 36 = .ok (.invokevirtual 58, 3) := by decide +kernel
theorem dX7_draw_39 : decode cX7_draw 39 = .ok (.ireturn, 1) := by decide +kernel
theorem dX7_who_0 : decode cX7_who 0 = .ok (.iload_n 1, 1) := by decide +kernel
theorem dX7_who_1 : decode cX7_who 1 = .ok (.invokestatic 147, 3) := by decide +kernel
theorem dX7_who_4 : decode cX7_who 4 = .ok (.ifCond .eq 13, 3) := by decide +kernel
theorem dX7_who_7 : decode cX7_who 7 = .ok (.iload_n 2, 1) := by decide +kernel
theorem dX7_who_8 : decode cX7_who 8 = .ok (.i2l, 1) := by decide +kernel
theorem dX7_who_9 : decode cX7_who 9 = .ok (.lconst 0, 1) := by decide +kernel
theorem dX7_who_10 : decode cX7_who 10 = .ok (.lconst 1, 1) := by decide +kernel
theorem dX7_who_11 : decode cX7_who 11 = .ok (.invokestatic 42, 3) := by decide +kernel
theorem dX7_who_14 : decode cX7_who 14 = .ok (.ifCond .ne 9, 3) := by decide +kernel
theorem dX7_who_17 : decode cX7_who 17 = .ok (.aload_n 0, 1) := by decide +kernel
theorem dX7_who_18 : decode cX7_who 18 = .ok (.iconst 0, 1) := by decide +kernel
theorem dX7_who_19 : decode cX7_who 19 = .ok (.invokevirtual 128, 3) := by decide +kernel
theorem dX7_who_22 : decode cX7_who 22 = .ok (.ireturn, 1) := by decide +kernel
theorem dX7_who_23 : decode cX7_who 23 = .ok (.iconst 0, 1) := by decide +kernel
theorem dX7_who_24 : decode cX7_who 24 = .ok (.istore_n 3, 1) := by decide +kernel
theorem dX7_who_25 : decode cX7_who 25 = .ok (.iconst 0, 1) := by decide +kernel
theorem dX7_who_26 : decode cX7_who 26 = .ok (.istore 4, 2) := by decide +kernel
theorem dX7_who_28 : decode cX7_who 28 = .ok (.iload 4, 2) := by decide +kernel
theorem dX7_who_30 : decode cX7_who 30 = .ok (.aload_n 0, 1) := by decide +kernel
theorem dX7_who_31 : decode cX7_who 31 = .ok (.getfield 7, 3) := by decide +kernel
theorem dX7_who_34 : decode cX7_who 34 = .ok (.iconst 0, 1) := by decide +kernel
theorem dX7_who_35 : decode cX7_who 35 = .ok (.iaload, 1) := by decide +kernel
theorem dX7_who_36 : decode cX7_who 36 = .ok (.if_icmp .ge 34, 3) := by decide +kernel
theorem dX7_who_39 : decode cX7_who 39 = .ok (.iload_n 3, 1) := by decide +kernel
theorem dX7_who_40 : decode cX7_who 40 = .ok (.aload_n 0, 1) := by decide +kernel
theorem dX7_who_41 : decode cX7_who 41 = .ok (.iload 4, 2) := by decide +kernel
theorem dX7_who_43 : decode cX7_who 43 = .ok (.iload_n 2, 1) := by decide +kernel
theorem dX7_who_44 : decode cX7_who 44 = .ok (.ifCond .ne 7, 3) := by decide +kernel
theorem dX7_who_47 : decode cX7_who 47 = .ok (.iconst 3, 1) := by decide +kernel
theorem dX7_who_48 : decode cX7_who 48 = .ok (.goto 4, 3) := by decide +kernel
theorem dX7_who_51 : decode cX7_who 51 = .ok (.iconst 5, 1) := by decide +kernel
theorem dX7_who_52 : decode cX7_who 52 = .ok (.invokevirtual 58, 3) := by decide +kernel
theorem dX7_who_55 : decode cX7_who 55 = .ok (.iload_n 1, 1) := by decide +kernel
theorem dX7_who_56 : decode cX7_who 56 = .ok (.ishr, 1) := by decide +kernel
theorem dX7_who_57 : decode cX7_who 57 = .ok (.iconst 1, 1) := by decide +kernel
theorem dX7_who_58 : decode cX7_who 58 = .ok (.iand, 1) := by decide +kernel
theorem dX7_who_59 : decode cX7_who 59 = .ok (.iload 4, 2) := by decide +kernel
theorem dX7_who_61 : decode cX7_who 61 = .ok (.ishl, 1) := by decide +kernel
theorem dX7_who_62 : decode cX7_who 62 = .ok (.ior, 1) := by decide +kernel
theorem dX7_who_63 : decode cX7_who 63 = .ok (.istore_n 3, 1) := by decide +kernel
theorem dX7_who_64 : decode cX7_who 64 = .ok (.iinc 4 1, 3) := by decide +kernel
theorem dX7_who_67 : decode cX7_who 67 = .ok (.goto (-39), 3) := by decide +kernel
theorem dX7_who_70 : decode cX7_who 70 = .ok (.iload_n 3, 1) := by decide +kernel
theorem dX7_who_71 : decode cX7_who 71 = .ok (.ireturn, 1) := by decide +kernel
theorem dX7_go_0 : decode cX7_go 0 = .ok (.iload_n 1, 1) := by decide +kernel
theorem dX7_go_1 : decode cX7_go 1 = .ok (.i2l, 1) := by decide +kernel
theorem dX7_go_2 : decode cX7_go 2 = .ok (.lconst 1, 1) := by decide +kernel
theorem dX7_go_3 : decode cX7_go 3 = .ok (.ldc2_w 150, 3) := by decide +kernel
theorem dX7_go_6 : decode cX7_go 6 = .ok (.invokestatic 42, 3) := by decide +kernel
theorem dX7_go_9 : decode cX7_go 9 = .ok (.ifCond .ne 9, 3) := by decide +kernel
theorem dX7_go_12 : decode cX7_go 12 = .ok (.aload_n 0, 1) := by decide +kernel
theorem dX7_go_13 : decode cX7_go 13 = .ok (.iconst 0, 1) := by decide +kernel
theorem dX7_go_14 : decode cX7_go 14 = .ok (.invokevirtual 128, 3) := by decide +kernel
theorem dX7_go_17 : decode cX7_go 17 = .ok (.ireturn, 1) := by decide +kernel
theorem dX7_go_18 : decode cX7_go 18 = .ok (.aload_n 0, 1) := by decide +kernel
theorem dX7_go_19 : decode cX7_go 19 = .ok (.getfield 7, 3) := by decide +kernel
theorem dX7_go_22 : decode cX7_go 22 = .ok (.iconst 1, 1) := by decide +kernel
theorem dX7_go_23 : decode cX7_go 23 = .ok (.iaload, 1) := by decide +kernel
theorem dX7_go_24 : decode cX7_go 24 = .ok (.iload_n 1, 1) := by decide +kernel
theorem dX7_go_25 : decode cX7_go 25 = .ok (.iadd, 1) := by decide +kernel
theorem dX7_go_26 : decode cX7_go 26 = .ok (.ldc 112, 2) := by decide +kernel
theorem dX7_go_28 : decode cX7_go 28 = .ok (.if_icmp .le 9, 3) := by decide +kernel
theorem dX7_go_31 : decode cX7_go 31 = .ok (.aload_n 0, 1) := by decide +kernel
theorem dX7_go_32 : decode cX7_go 32 = .ok (.iconst 4, 1) := by decide +kernel
theorem dX7_go_33 : decode cX7_go 33 = .ok (.invokevirtual 128, 3) := by decide +kernel
theorem dX7_go_36 : decode cX7_go 36 = .ok (.ireturn, 1) := by decide +kernel
theorem dX7_go_37 : decode cX7_go 37 = .ok (.aload_n 0, 1) := by decide +kernel
theorem dX7_go_38 : decode cX7_go 38 = .ok (.iload_n 1, 1) := by decide +kernel
theorem dX7_go_39 : decode cX7_go 39 = .ok (.invokevirtual 152, 3) := by decide +kernel
theorem dX7_go_42 : decode cX7_go 42 = .ok (.aload_n 0, 1) := by decide +kernel
theorem dX7_go_43 : decode cX7_go 43 = .ok (.invokevirtual 155, 3) := by decide +kernel
theorem dX7_go_46 : decode cX7_go 46 = .ok (.ireturn, 1) := by decide +kernel
theorem dX7_wisest_0 : decode cX7_wisest 0 = .ok (.iconst (-1), 1) := by decide +kernel
theorem dX7_wisest_1 : decode cX7_wisest 1 = .ok (.istore_n 1, 1) := by decide +kernel
theorem dX7_wisest_2 : decode cX7_wisest 2 = .ok (.iconst 0, 1) := by decide +kernel
theorem dX7_wisest_3 : decode cX7_wisest 3 = .ok (.istore_n 2, 1) := by decide +kernel
theorem dX7_wisest_4 : decode cX7_wisest 4 = .ok (.iload_n 2, 1) := by decide +kernel
theorem dX7_wisest_5 : decode cX7_wisest 5 = .ok (.aload_n 0, 1) := by decide +kernel
theorem dX7_wisest_6 : decode cX7_wisest 6 = .ok (.getfield 7, 3) := by decide +kernel
theorem dX7_wisest_9 : decode cX7_wisest 9 = .ok (.iconst 0, 1) := by decide +kernel
theorem dX7_wisest_10 : decode cX7_wisest 10 = .ok (.iaload, 1) := by decide +kernel
theorem dX7_wisest_11 : decode cX7_wisest 11 = .ok (.if_icmp .ge 40, 3) := by decide +kernel
theorem dX7_wisest_14 : decode cX7_wisest 14 = .ok (.iload_n 1, 1) := by decide +kernel
theorem dX7_wisest_15 : decode cX7_wisest 15 = .ok (.ifCond .lt 24, 3) := by decide +kernel
theorem dX7_wisest_18 : decode cX7_wisest 18 = .ok (.aload_n 0, 1) := by decide +kernel
theorem dX7_wisest_19 : decode cX7_wisest 19 = .ok (.iload_n 2, 1) := by decide +kernel
theorem dX7_wisest_20 : decode cX7_wisest 20 = .ok (.iconst 5, 1) := by decide +kernel
theorem dX7_wisest_21 : decode cX7_wisest 21 = .ok (.invokevirtual 58, 3) := by decide +kernel
theorem dX7_wisest_24 : decode cX7_wisest 24 = .ok (.invokestatic 84, 3) := by decide +kernel
theorem dX7_wisest_27 : decode cX7_wisest 27 = .ok (.aload_n 0, 1) := by decide +kernel
theorem dX7_wisest_28 : decode cX7_wisest 28 = .ok (.iload_n 1, 1) := by decide +kernel
theorem dX7_wisest_29 : decode cX7_wisest 29 = .ok (.iconst 5, 1) := by decide +kernel
theorem dX7_wisest_30 : decode cX7_wisest 30 = .ok (.invokevirtual 58, 3) := by decide +kernel
theorem dX7_wisest_33 : decode cX7_wisest 33 = .ok (.invokestatic 84, 3) := by decide +kernel
theorem dX7_wisest_36 : decode cX7_wisest 36 = .ok (.if_icmp .le 7, 3) := by decide +kernel
theorem dX7_wisest_39 : decode cX7_wisest 39 = .ok (.iload_n 2, 1) := by decide +kernel
theorem dX7_wisest_40 : decode cX7_wisest 40 = .ok (.goto 4, 3) := by decide +kernel
theorem dX7_wisest_43 : decode cX7_wisest 43 = .ok (.iload_n 1, 1) := by decide +kernel
theorem dX7_wisest_44 : decode cX7_wisest 44 = .ok (.istore_n 1, 1) := by decide +kernel
theorem dX7_wisest_45 : decode cX7_wisest 45 = .ok (.iinc 2 1, 3) := by decide +kernel
theorem dX7_wisest_48 : decode cX7_wisest 48 = .ok (.goto (-44), 3) := by decide +kernel
theorem dX7_wisest_51 : decode cX7_wisest 51 = .ok (.iload_n 1, 1) := by decide +kernel
theorem dX7_wisest_52 : decode cX7_wisest 52 = .ok (.ireturn, 1) := by decide +kernel
theorem dX7_now_0 : decode cX7_now 0 = .ok (.iload_n 1, 1) := by decide +kernel
theorem dX7_now_1 : decode cX7_now 1 = .ok (.tableswitch 94 0 6 #[43, 50, 55, 60, 75, 80, 85], 43) := by decide +kernel
theorem dX7_now_44 : decode cX7_now 44 = .ok (.aload_n 0, 1) := by decide +kernel
theorem dX7_now_45 : decode cX7_now 45 = .ok (.getfield 7, 3) := by decide +kernel
theorem dX7_now_48 : decode cX7_now 48 = .ok (.iconst 1, 1) := by decide +kernel
theorem dX7_now_49 : decode cX7_now 49 = .ok (.iaload, 1) := by decide +kernel
theorem dX7_now_50 : decode cX7_now 50 = .ok (.ireturn, 1) := by decide +kernel
theorem dX7_now_51 : decode cX7_now 51 = .ok (.aload_n 0, 1) := by decide +kernel
theorem dX7_now_52 : decode cX7_now 52 = .ok (.invokevirtual 155, 3) := by decide +kernel
theorem dX7_now_55 : decode cX7_now 55 = .ok (.ireturn, 1) := by decide +kernel
theorem dX7_now_56 : decode cX7_now 56 = .ok (.aload_n 0, 1) := by decide +kernel
theorem dX7_now_57 : decode cX7_now 57 = .ok (.invokevirtual 158, 3) := by decide +kernel
theorem dX7_now_60 : decode cX7_now 60 = .ok (.ireturn, 1) := by decide +kernel
theorem dX7_now_61 : decode cX7_now 61 = .ok (.ldc 143, 2) := by decide +kernel
theorem dX7_now_63 : decode cX7_now 63 = .ok (.aload_n 0, 1) := by decide +kernel
theorem dX7_now_64 : decode cX7_now 64 = .ok (.invokevirtual 155, 3) := by decide +kernel
theorem dX7_now_67 : decode cX7_now 67 = .ok (.aload_n 0, 1) := by decide +kernel
theorem dX7_now_68 : decode cX7_now 68 = .ok (.invokevirtual 158, 3) := by decide +kernel
theorem dX7_now_71 : decode cX7_now 71 = .ok (.ior, 1) := by decide +kernel
theorem dX7_now_72 : decode cX7_now 72 = .ok (.iconst (-1), 1) := by decide +kernel
theorem dX7_now_73 : decode cX7_now 73 = .ok (.ixor, 1) := by decide +kernel
theorem dX7_now_74 : decode cX7_now 74 = .ok (.iand, 1) := by decide +kernel
theorem dX7_now_75 : decode cX7_now 75 = .ok (.ireturn, 1) := by decide +kernel
theorem dX7_now_76 : decode cX7_now 76 = .ok (.aload_n 0, 1) := by decide +kernel
theorem dX7_now_77 : decode cX7_now 77 = .ok (.invokevirtual 161, 3) := by decide +kernel
theorem dX7_now_80 : decode cX7_now 80 = .ok (.ireturn, 1) := by decide +kernel
theorem dX7_now_81 : decode cX7_now 81 = .ok (.aload_n 0, 1) := by decide +kernel
theorem dX7_now_82 : decode cX7_now 82 = .ok (.invokevirtual 164, 3) := by decide +kernel
theorem dX7_now_85 : decode cX7_now 85 = .ok (.ireturn, 1) := by decide +kernel
theorem dX7_now_86 : decode cX7_now 86 = .ok (.aload_n 0, 1) := by decide +kernel
theorem dX7_now_87 : decode cX7_now 87 = .ok (.aload_n 0, 1) := by decide +kernel
theorem dX7_now_88 : decode cX7_now 88 = .ok (.invokevirtual 94, 3) := by decide +kernel
theorem dX7_now_91 : decode cX7_now 91 = .ok (.invokevirtual 98, 3) := by decide +kernel
theorem dX7_now_94 : decode cX7_now 94 = .ok (.ireturn, 1) := by decide +kernel
theorem dX7_now_95 : decode cX7_now 95 = .ok (.aload_n 0, 1) := by decide +kernel
theorem dX7_now_96 : decode cX7_now 96 = .ok (.iconst 0, 1) := by decide +kernel
theorem dX7_now_97 : decode cX7_now 97 = .ok (.invokevirtual 128, 3) := by decide +kernel
theorem dX7_now_100 : decode cX7_now 100 = .ok (.ireturn, 1) := by decide +kernel
theorem dX7_behind_0 : decode cX7_behind 0 = .ok (.aload_n 0, 1) := by decide +kernel
theorem dX7_behind_1 : decode cX7_behind 1 = .ok (.iload_n 1, 1) := by decide +kernel
theorem dX7_behind_2 : decode cX7_behind 2 = .ok (.invokevirtual 152, 3) := by decide +kernel
theorem dX7_behind_5 : decode cX7_behind 5 = .ok (.aload_n 0, 1) := by decide +kernel
theorem dX7_behind_6 : decode cX7_behind 6 = .ok (.getfield 7, 3) := by decide +kernel
theorem dX7_behind_9 : decode cX7_behind 9 = .ok (.iload_n 2, 1) := by decide +kernel
theorem dX7_behind_10 : decode cX7_behind 10 = .ok (.iaload, 1) := by decide +kernel
theorem dX7_behind_11 : decode cX7_behind 11 = .ok (.istore_n 3, 1) := by decide +kernel
theorem dX7_behind_12 : decode cX7_behind 12 = .ok (.aload_n 0, 1) := by decide +kernel
theorem dX7_behind_13 : decode cX7_behind 13 = .ok (.getfield 16, 3) := by decide +kernel
theorem dX7_behind_16 : decode cX7_behind 16 = .ok (.aload_n 0, 1) := by decide +kernel
theorem dX7_behind_17 : decode cX7_behind 17 = .ok (.getfield 7, 3) := by decide +kernel
theorem dX7_behind_20 : decode cX7_behind 20 = .ok (.invokestatic 167, 3) := by decide +kernel
theorem dX7_behind_23 : decode cX7_behind 23 = .ok (.iload_n 3, 1) := by decide +kernel
theorem dX7_behind_24 : decode cX7_behind 24 = .ok (.ireturn, 1) := by decide +kernel
theorem dX7_ahead_0 : decode cX7_ahead 0 = .ok (.aload_n 0, 1) := by decide +kernel
theorem dX7_ahead_1 : decode cX7_ahead 1 = .ok (.iload_n 1, 1) := by decide +kernel
theorem dX7_ahead_2 : decode cX7_ahead 2 = .ok (.invokevirtual 138, 3) := by decide +kernel
theorem dX7_ahead_5 : decode cX7_ahead 5 = .ok (.ifCond .eq 32, 3) := by decide +kernel
theorem dX7_ahead_8 : decode cX7_ahead 8 = .ok (.iload_n 2, 1) := by decide +kernel
theorem dX7_ahead_9 : decode cX7_ahead 9 = .ok (.i2l, 1) := by decide +kernel
theorem dX7_ahead_10 : decode cX7_ahead 10 = .ok (.lconst 1, 1) := by decide +kernel
theorem dX7_ahead_11 : decode cX7_ahead 11 = .ok (.ldc2_w 133, 3) := by decide +kernel
theorem dX7_ahead_14 : decode cX7_ahead 14 = .ok (.invokestatic 42, 3) := by decide +kernel
theorem dX7_ahead_17 : decode cX7_ahead 17 = .ok (.ifCond .eq 20, 3) := by decide +kernel
theorem dX7_ahead_20 : decode cX7_ahead 20 = .ok (.iload_n 2, 1) := by decide +kernel
theorem dX7_ahead_21 : decode cX7_ahead 21 = .ok (.iconst 2, 1) := by decide +kernel
theorem dX7_ahead_22 : decode cX7_ahead 22 = .ok (.if_icmp .eq 15, 3) := by decide +kernel
theorem dX7_ahead_25 : decode cX7_ahead 25 = .ok (.iload_n 3, 1) := by decide +kernel
theorem dX7_ahead_26 : decode cX7_ahead 26 = .ok (.i2l, 1) := by decide +kernel
theorem dX7_ahead_27 : decode cX7_ahead 27 = .ok (.lconst 0, 1) := by decide +kernel
theorem dX7_ahead_28 : decode cX7_ahead 28 = .ok (.ldc2_w 171, 3) := by decide +kernel
theorem dX7_ahead_31 : decode cX7_ahead 31 = .ok (.invokestatic 42, 3) := by decide +kernel
theorem dX7_ahead_34 : decode cX7_ahead 34 = .ok (.ifCond .ne 9, 3) := by decide +kernel
theorem dX7_ahead_37 : decode cX7_ahead 37 = .ok (.aload_n 0, 1) := by decide +kernel
theorem dX7_ahead_38 : decode cX7_ahead 38 = .ok (.iconst 0, 1) := by decide +kernel
theorem dX7_ahead_39 : decode cX7_ahead 39 = .ok (.invokevirtual 128, 3) := by decide +kernel
theorem dX7_ahead_42 : decode cX7_ahead 42 = .ok (.ireturn, 1) := by decide +kernel
theorem dX7_ahead_43 : decode cX7_ahead 43 = .ok (.aload_n 0, 1) := by decide +kernel
theorem dX7_ahead_44 : decode cX7_ahead 44 = .ok (.getfield 7, 3) := by decide +kernel
theorem dX7_ahead_47 : decode cX7_ahead 47 = .ok (.aload_n 0, 1) := by decide +kernel
theorem dX7_ahead_48 : decode cX7_ahead 48 = .ok (.getfield 16, 3) := by decide +kernel
theorem dX7_ahead_51 : decode cX7_ahead 51 = .ok (.invokestatic 167, 3) := by decide +kernel
theorem dX7_ahead_54 : decode cX7_ahead 54 = .ok (.aload_n 0, 1) := by decide +kernel
theorem dX7_ahead_55 : decode cX7_ahead 55 = .ok (.iload_n 3, 1) := by decide +kernel
theorem dX7_ahead_56 : decode cX7_ahead 56 = .ok (.bipush 9, 2) := by decide +kernel
theorem dX7_ahead_58 : decode cX7_ahead 58 = .ok (.bipush 8, 2) := by decide +kernel
theorem dX7_ahead_60 : decode cX7_ahead 60 = .ok (.iload_n 2, 1) := by decide +kernel
theorem dX7_ahead_61 : decode cX7_ahead 61 = .ok (.imul, 1) := by decide +kernel
theorem dX7_ahead_62 : decode cX7_ahead 62 = .ok (.iadd, 1) := by decide +kernel
theorem dX7_ahead_63 : decode cX7_ahead 63 = .ok (.iload_n 1, 1) := by decide +kernel
theorem dX7_ahead_64 : decode cX7_ahead 64 = .ok (.iadd, 1) := by decide +kernel
theorem dX7_ahead_65 : decode cX7_ahead 65 = .ok (.invokevirtual 173, 3) := by decide +kernel
theorem dX7_ahead_68 : decode cX7_ahead 68 = .ok (.ireturn, 1) := by decide +kernel
theorem dX7_hears_0 : decode cX7_hears 0 = .ok (.aload_n 0, 1) := by decide +kernel
theorem dX7_hears_1 : decode cX7_hears 1 = .ok (.iload_n 1, 1) := by decide +kernel
theorem dX7_hears_2 : decode cX7_hears 2 = .ok (.invokevirtual 138, 3) := by decide +kernel
theorem dX7_hears_5 : decode cX7_hears 5 = .ok (.ifCond .eq 10, 3) := by decide +kernel
theorem dX7_hears_8 : decode cX7_hears 8 = .ok (.iload_n 2, 1) := by decide +kernel
theorem dX7_hears_9 : decode cX7_hears 9 = .ok (.invokestatic 147, 3) := by decide +kernel
theorem dX7_hears_12 : decode cX7_hears 12 = .ok (.ifCond .ne 9, 3) := by decide +kernel
theorem dX7_hears_15 : decode cX7_hears 15 = .ok (.aload_n 0, 1) := by decide +kernel
theorem dX7_hears_16 : decode cX7_hears 16 = .ok (.iconst 0, 1) := by decide +kernel
theorem dX7_hears_17 : decode cX7_hears 17 = .ok (.invokevirtual 128, 3) := by decide +kernel
theorem dX7_hears_20 : decode cX7_hears 20 = .ok (.ireturn, 1) := by decide +kernel
theorem dX7_hears_21 : decode cX7_hears 21 = .ok (.aload_n 0, 1) := by decide +kernel
theorem dX7_hears_22 : decode cX7_hears 22 = .ok (.getfield 7, 3) := by decide +kernel
theorem dX7_hears_25 : decode cX7_hears 25 = .ok (.aload_n 0, 1) := by decide +kernel
theorem dX7_hears_26 : decode cX7_hears 26 = .ok (.getfield 16, 3) := by decide +kernel
theorem dX7_hears_29 : decode cX7_hears 29 = .ok (.invokestatic 167, 3) := by decide +kernel
theorem dX7_hears_32 : decode cX7_hears 32 = .ok (.iconst 0, 1) := by decide +kernel
theorem dX7_hears_33 : decode cX7_hears 33 = .ok (.istore_n 3, 1) := by decide +kernel
theorem dX7_hears_34 : decode cX7_hears 34 = .ok (.iload_n 3, 1) := by decide +kernel
theorem dX7_hears_35 : decode cX7_hears 35 = .ok (.sipush 200, 3) := by decide +kernel
theorem dX7_hears_38 : decode cX7_hears 38 = .ok (.if_icmp .ge 26, 3) := by decide +kernel
theorem dX7_hears_41 : decode cX7_hears 41 = .ok (.aload_n 0, 1) := by decide +kernel
theorem dX7_hears_42 : decode cX7_hears 42 = .ok (.iload_n 1, 1) := by decide +kernel
theorem dX7_hears_43 : decode cX7_hears 43 = .ok (.iconst 3, 1) := by decide +kernel
theorem dX7_hears_44 : decode cX7_hears 44 = .ok (.invokevirtual 58, 3) := by decide +kernel
theorem dX7_hears_47 : decode cX7_hears 47 = .ok (.iload_n 2, 1) := by decide +kernel
theorem dX7_hears_48 : decode cX7_hears 48 = .ok (.ishr, 1) := by decide +kernel
theorem dX7_hears_49 : decode cX7_hears 49 = .ok (.iconst 1, 1) := by decide +kernel
theorem dX7_hears_50 : decode cX7_hears 50 = .ok (.iand, 1) := by decide +kernel
theorem dX7_hears_51 : decode cX7_hears 51 = .ok (.ifCond .ne 13, 3) := by decide +kernel
theorem dX7_hears_54 : decode cX7_hears 54 = .ok (.aload_n 0, 1) := by decide +kernel
theorem dX7_hears_55 : decode cX7_hears 55 = .ok (.invokevirtual 113, 3) := by decide +kernel
theorem dX7_hears_58 : decode cX7_hears 58 = .ok (.iinc 3 1, 3) := by decide +kernel
theorem dX7_hears_61 : decode cX7_hears 61 = .ok (.goto (-27), 3) := by decide +kernel
theorem dX7_hears_64 : decode cX7_hears 64 = .ok (.aload_n 0, 1) := by decide +kernel
theorem dX7_hears_65 : decode cX7_hears 65 = .ok (.iload_n 1, 1) := by decide +kernel
theorem dX7_hears_66 : decode cX7_hears 66 = .ok (.iconst 3, 1) := by decide +kernel
theorem dX7_hears_67 : decode cX7_hears 67 = .ok (.invokevirtual 58, 3) := by decide +kernel
theorem dX7_hears_70 : decode cX7_hears 70 = .ok (.iload_n 2, 1) := by decide +kernel
theorem dX7_hears_71 : decode cX7_hears 71 = .ok (.ishr, 1) := by decide +kernel
theorem dX7_hears_72 : decode cX7_hears 72 = .ok (.iconst 1, 1) := by decide +kernel
theorem dX7_hears_73 : decode cX7_hears 73 = .ok (.iand, 1) := by decide +kernel
theorem dX7_hears_74 : decode cX7_hears 74 = .ok (.iconst 1, 1) := by decide +kernel
theorem dX7_hears_75 : decode cX7_hears 75 = .ok (.if_icmp .ne 7, 3) := by decide +kernel
theorem dX7_hears_78 : decode cX7_hears 78 = .ok (.iconst 1, 1) := by decide +kernel
theorem dX7_hears_79 : decode cX7_hears 79 = .ok (.goto 4, 3) := by decide +kernel
theorem dX7_hears_82 : decode cX7_hears 82 = .ok (.iconst 0, 1) := by decide +kernel
theorem dX7_hears_83 : decode cX7_hears 83 = .ok (.istore 4, 2) := by decide +kernel
theorem dX7_hears_85 : decode cX7_hears 85 = .ok (.aload_n 0, 1) := by decide +kernel
theorem dX7_hears_86 : decode cX7_hears 86 = .ok (.getfield 16, 3) := by decide +kernel
theorem dX7_hears_89 : decode cX7_hears 89 = .ok (.aload_n 0, 1) := by decide +kernel
theorem dX7_hears_90 : decode cX7_hears 90 = .ok (.getfield 7, 3) := by decide +kernel
theorem dX7_hears_93 : decode cX7_hears 93 = .ok (.invokestatic 167, 3) := by decide +kernel
theorem dX7_hears_96 : decode cX7_hears 96 = .ok (.iload 4, 2) := by decide +kernel
theorem dX7_hears_98 : decode cX7_hears 98 = .ok (.ifCond .eq 7, 3) := by decide +kernel
theorem dX7_hears_101 : decode cX7_hears 101 = .ok (.iload_n 3, 1) := by decide +kernel
theorem dX7_hears_102 : decode cX7_hears 102 = .ok (.goto 8, 3) := by decide +kernel
theorem dX7_hears_105 : decode cX7_hears 105 = .ok (.aload_n 0, 1) := by decide +kernel
theorem dX7_hears_106 : decode cX7_hears 106 = .ok (.iconst 3, 1) := by decide +kernel
theorem dX7_hears_107 : decode cX7_hears 107 = .ok (.invokevirtual 128, 3) := by decide +kernel
theorem dX7_hears_110 : decode cX7_hears 110 = .ok (.ireturn, 1) := by decide +kernel
theorem dX7_wise_0 : decode cX7_wise 0 = .ok (.aload_n 0, 1) := by decide +kernel
theorem dX7_wise_1 : decode cX7_wise 1 = .ok (.iload_n 1, 1) := by decide +kernel
theorem dX7_wise_2 : decode cX7_wise 2 = .ok (.invokevirtual 138, 3) := by decide +kernel
theorem dX7_wise_5 : decode cX7_wise 5 = .ok (.ifCond .eq 15, 3) := by decide +kernel
theorem dX7_wise_8 : decode cX7_wise 8 = .ok (.iload_n 2, 1) := by decide +kernel
theorem dX7_wise_9 : decode cX7_wise 9 = .ok (.i2l, 1) := by decide +kernel
theorem dX7_wise_10 : decode cX7_wise 10 = .ok (.lconst 0, 1) := by decide +kernel
theorem dX7_wise_11 : decode cX7_wise 11 = .ok (.ldc2_w 176, 3) := by decide +kernel
theorem dX7_wise_14 : decode cX7_wise 14 = .ok (.invokestatic 42, 3) := by decide +kernel
theorem dX7_wise_17 : decode cX7_wise 17 = .ok (.ifCond .ne 9, 3) := by decide +kernel
theorem dX7_wise_20 : decode cX7_wise 20 = .ok (.aload_n 0, 1) := by decide +kernel
theorem dX7_wise_21 : decode cX7_wise 21 = .ok (.iconst 0, 1) := by decide +kernel
theorem dX7_wise_22 : decode cX7_wise 22 = .ok (.invokevirtual 128, 3) := by decide +kernel
theorem dX7_wise_25 : decode cX7_wise 25 = .ok (.ireturn, 1) := by decide +kernel
theorem dX7_wise_26 : decode cX7_wise 26 = .ok (.aload_n 0, 1) := by decide +kernel
theorem dX7_wise_27 : decode cX7_wise 27 = .ok (.getfield 7, 3) := by decide +kernel
theorem dX7_wise_30 : decode cX7_wise 30 = .ok (.aload_n 0, 1) := by decide +kernel
theorem dX7_wise_31 : decode cX7_wise 31 = .ok (.getfield 16, 3) := by decide +kernel
theorem dX7_wise_34 : decode cX7_wise 34 = .ok (.invokestatic 167, 3) := by decide +kernel
theorem dX7_wise_37 : decode cX7_wise 37 = .ok (.iconst 0, 1) := by decide +kernel
theorem dX7_wise_38 : decode cX7_wise 38 = .ok (.istore_n 3, 1) := by decide +kernel
theorem dX7_wise_39 : decode cX7_wise 39 = .ok (.iload_n 3, 1) := by decide +kernel
theorem dX7_wise_40 : decode cX7_wise 40 = .ok (.sipush 200, 3) := by decide +kernel
theorem dX7_wise_43 : decode cX7_wise 43 = .ok (.if_icmp .ge 26, 3) := by decide +kernel
theorem dX7_wise_46 : decode cX7_wise 46 = .ok (.aload_n 0, 1) := by decide +kernel
theorem dX7_wise_47 : decode cX7_wise 47 = .ok (.iload_n 1, 1) := by decide +kernel
theorem dX7_wise_48 : decode cX7_wise 48 = .ok (.iconst 5, 1) := by decide +kernel
theorem dX7_wise_49 : decode cX7_wise 49 = .ok (.invokevirtual 58, 3) := by decide +kernel
theorem dX7_wise_52 : decode cX7_wise 52 = .ok (.invokestatic 84, 3) := by decide +kernel
theorem dX7_wise_55 : decode cX7_wise 55 = .ok (.iload_n 2, 1) := by decide +kernel
theorem dX7_wise_56 : decode cX7_wise 56 = .ok (.if_icmp .ge 13, 3) := by decide +kernel
theorem dX7_wise_59 : decode cX7_wise 59 = .ok (.aload_n 0, 1) := by decide +kernel
theorem dX7_wise_60 : decode cX7_wise 60 = .ok (.invokevirtual 113, 3) := by decide +kernel
theorem dX7_wise_63 : decode cX7_wise 63 = .ok (.iinc 3 1, 3) := by decide +kernel
theorem dX7_wise_66 : decode cX7_wise 66 = .ok (.goto (-27), 3) := by decide +kernel
theorem dX7_wise_69 : decode cX7_wise 69 = .ok (.aload_n 0, 1) := by decide +kernel
theorem dX7_wise_70 : decode cX7_wise 70 = .ok (.iload_n 1, 1) := by decide +kernel
theorem dX7_wise_71 : decode cX7_wise 71 = .ok (.iconst 5, 1) := by decide +kernel
theorem dX7_wise_72 : decode cX7_wise 72 = .ok (.invokevirtual 58, 3) := by decide +kernel
theorem dX7_wise_75 : decode cX7_wise 75 = .ok (.invokestatic 84, 3) := by decide +kernel
theorem dX7_wise_78 : decode cX7_wise 78 = .ok (.iload_n 2, 1) := by decide +kernel
theorem dX7_wise_79 : decode cX7_wise 79 = .ok (.if_icmp .lt 7, 3) := by decide +kernel
theorem dX7_wise_82 : decode cX7_wise 82 = .ok (.iconst 1, 1) := by decide +kernel
theorem dX7_wise_83 : decode cX7_wise 83 = .ok (.goto 4, 3) := by decide +kernel
theorem dX7_wise_86 : decode cX7_wise 86 = .ok (.iconst 0, 1) := by decide +kernel
theorem dX7_wise_87 : decode cX7_wise 87 = .ok (.istore 4, 2) := by decide +kernel
theorem dX7_wise_89 : decode cX7_wise 89 = .ok (.aload_n 0, 1) := by decide +kernel
theorem dX7_wise_90 : decode cX7_wise 90 = .ok (.getfield 16, 3) := by decide +kernel
theorem dX7_wise_93 : decode cX7_wise 93 = .ok (.aload_n 0, 1) := by decide +kernel
theorem dX7_wise_94 : decode cX7_wise 94 = .ok (.getfield 7, 3) := by decide +kernel
theorem dX7_wise_97 : decode cX7_wise 97 = .ok (.invokestatic 167, 3) := by decide +kernel
theorem dX7_wise_100 : decode cX7_wise 100 = .ok (.iload 4, 2) := by decide +kernel
theorem dX7_wise_102 : decode cX7_wise 102 = .ok (.ifCond .eq 7, 3) := by decide +kernel
theorem dX7_wise_105 : decode cX7_wise 105 = .ok (.iload_n 3, 1) := by decide +kernel
theorem dX7_wise_106 : decode cX7_wise 106 = .ok (.goto 8, 3) := by decide +kernel
theorem dX7_wise_109 : decode cX7_wise 109 = .ok (.aload_n 0, 1) := by decide +kernel
theorem dX7_wise_110 : decode cX7_wise 110 = .ok (.iconst 3, 1) := by decide +kernel
theorem dX7_wise_111 : decode cX7_wise 111 = .ok (.invokevirtual 128, 3) := by decide +kernel
theorem dX7_wise_114 : decode cX7_wise 114 = .ok (.ireturn, 1) := by decide +kernel
theorem dX7_areKnown_0 : decode cX7_areKnown 0 = .ok (.iload_n 1, 1) := by decide +kernel
theorem dX7_areKnown_1 : decode cX7_areKnown 1 = .ok (.aload_n 0, 1) := by decide +kernel
theorem dX7_areKnown_2 : decode cX7_areKnown 2 = .ok (.invokevirtual 155, 3) := by decide +kernel
theorem dX7_areKnown_5 : decode cX7_areKnown 5 = .ok (.aload_n 0, 1) := by decide +kernel
theorem dX7_areKnown_6 : decode cX7_areKnown 6 = .ok (.invokevirtual 158, 3) := by decide +kernel
theorem dX7_areKnown_9 : decode cX7_areKnown 9 = .ok (.ior, 1) := by decide +kernel
theorem dX7_areKnown_10 : decode cX7_areKnown 10 = .ok (.iconst (-1), 1) := by decide +kernel
theorem dX7_areKnown_11 : decode cX7_areKnown 11 = .ok (.ixor, 1) := by decide +kernel
theorem dX7_areKnown_12 : decode cX7_areKnown 12 = .ok (.iand, 1) := by decide +kernel
theorem dX7_areKnown_13 : decode cX7_areKnown 13 = .ok (.ifCond .ne 7, 3) := by decide +kernel
theorem dX7_areKnown_16 : decode cX7_areKnown 16 = .ok (.iconst 1, 1) := by decide +kernel
theorem dX7_areKnown_17 : decode cX7_areKnown 17 = .ok (.goto 4, 3) := by decide +kernel
theorem dX7_areKnown_20 : decode cX7_areKnown 20 = .ok (.iconst 0, 1) := by decide +kernel
theorem dX7_areKnown_21 : decode cX7_areKnown 21 = .ok (.ireturn, 1) := by decide +kernel
theorem dX7_out_0 : decode cX7_out 0 = .ok (.iload_n 1, 1) := by decide +kernel
theorem dX7_out_1 : decode cX7_out 1 = .ok (.invokestatic 178, 3) := by decide +kernel
theorem dX7_out_4 : decode cX7_out 4 = .ok (.ifCond .ne 9, 3) := by decide +kernel
theorem dX7_out_7 : decode cX7_out 7 = .ok (.aload_n 0, 1) := by decide +kernel
theorem dX7_out_8 : decode cX7_out 8 = .ok (.iconst 0, 1) := by decide +kernel
theorem dX7_out_9 : decode cX7_out 9 = .ok (.invokevirtual 128, 3) := by decide +kernel
theorem dX7_out_12 : decode cX7_out 12 = .ok (.ireturn, 1) := by decide +kernel
theorem dX7_out_13 : decode cX7_out 13 = .ok (.aload_n 0, 1) := by decide +kernel
theorem dX7_out_14 : decode cX7_out 14 = .ok (.getfield 7, 3) := by decide +kernel
theorem dX7_out_17 : decode cX7_out 17 = .ok (.aload_n 0, 1) := by decide +kernel
theorem dX7_out_18 : decode cX7_out 18 = .ok (.getfield 16, 3) := by decide +kernel
theorem dX7_out_21 : decode cX7_out 21 = .ok (.invokestatic 167, 3) := by decide +kernel
theorem dX7_out_24 : decode cX7_out 24 = .ok (.iconst 0, 1) := by decide +kernel
theorem dX7_out_25 : decode cX7_out 25 = .ok (.istore_n 2, 1) := by decide +kernel
theorem dX7_out_26 : decode cX7_out 26 = .ok (.iload_n 2, 1) := by decide +kernel
theorem dX7_out_27 : decode cX7_out 27 = .ok (.sipush 200, 3) := by decide +kernel
theorem dX7_out_30 : decode cX7_out 30 = .ok (.if_icmp .ge 21, 3) := by decide +kernel
theorem dX7_out_33 : decode cX7_out 33 = .ok (.aload_n 0, 1) := by decide +kernel
theorem dX7_out_34 : decode cX7_out 34 = .ok (.iload_n 1, 1) := by decide +kernel
theorem dX7_out_35 : decode cX7_out 35 = .ok (.invokevirtual 181, 3) := by decide +kernel
theorem dX7_out_38 : decode cX7_out 38 = .ok (.ifCond .ne 13, 3) := by decide +kernel
theorem dX7_out_41 : decode cX7_out 41 = .ok (.aload_n 0, 1) := by decide +kernel
theorem dX7_out_42 : decode cX7_out 42 = .ok (.invokevirtual 113, 3) := by decide +kernel
theorem dX7_out_45 : decode cX7_out 45 = .ok (.iinc 2 1, 3) := by decide +kernel
theorem dX7_out_48 : decode cX7_out 48 = .ok (.goto (-22), 3) := by decide +kernel
theorem dX7_out_51 : decode cX7_out 51 = .ok (.aload_n 0, 1) := by decide +kernel
theorem dX7_out_52 : decode cX7_out 52 = .ok (.iload_n 1, 1) := by decide +kernel
theorem dX7_out_53 : decode cX7_out 53 = .ok (.invokevirtual 181, 3) := by decide +kernel
theorem dX7_out_56 : decode cX7_out 56 = .ok (.istore_n 3, 1) := by decide +kernel
theorem dX7_out_57 : decode cX7_out 57 = .ok (.aload_n 0, 1) := by decide +kernel
theorem dX7_out_58 : decode cX7_out 58 = .ok (.getfield 16, 3) := by decide +kernel
theorem dX7_out_61 : decode cX7_out 61 = .ok (.aload_n 0, 1) := by decide +kernel
theorem dX7_out_62 : decode cX7_out 62 = .ok (.getfield 7, 3) := by decide +kernel
theorem dX7_out_65 : decode cX7_out 65 = .ok (.invokestatic 167, 3) := by decide +kernel
theorem dX7_out_68 : decode cX7_out 68 = .ok (.iload_n 3, 1) := by decide +kernel
theorem dX7_out_69 : decode cX7_out 69 = .ok (.ifCond .eq 7, 3) := by decide +kernel
theorem dX7_out_72 : decode cX7_out 72 = .ok (.iload_n 2, 1) := by decide +kernel
theorem dX7_out_73 : decode cX7_out 73 = .ok (.goto 8, 3) := by decide +kernel
theorem dX7_out_76 : decode cX7_out 76 = .ok (.aload_n 0, 1) := by decide +kernel
theorem dX7_out_77 : decode cX7_out 77 = .ok (.iconst 3, 1) := by decide +kernel
theorem dX7_out_78 : decode cX7_out 78 = .ok (.invokevirtual 128, 3) := by decide +kernel
theorem dX7_out_81 : decode cX7_out 81 = .ok (.ireturn, 1) := by decide +kernel
theorem dX7_bestOf_0 : decode cX7_bestOf 0 = .ok (.aload_n 0, 1) := by decide +kernel
theorem dX7_bestOf_1 : decode cX7_bestOf 1 = .ok (.getfield 7, 3) := by decide +kernel
theorem dX7_bestOf_4 : decode cX7_bestOf 4 = .ok (.aload_n 0, 1) := by decide +kernel
theorem dX7_bestOf_5 : decode cX7_bestOf 5 = .ok (.getfield 16, 3) := by decide +kernel
theorem dX7_bestOf_8 : decode cX7_bestOf 8 = .ok (.invokestatic 167, 3) := by decide +kernel
theorem dX7_bestOf_11 : decode cX7_bestOf 11 = .ok (.iconst 0, 1) := by decide +kernel
theorem dX7_bestOf_12 : decode cX7_bestOf 12 = .ok (.istore 5, 2) := by decide +kernel
theorem dX7_bestOf_14 : decode cX7_bestOf 14 = .ok (.iconst (-1), 1) := by decide +kernel
theorem dX7_bestOf_15 : decode cX7_bestOf 15 = .ok (.istore 6, 2) := by decide +kernel
theorem dX7_bestOf_17 : decode cX7_bestOf 17 = .ok (.iconst 0, 1) := by decide +kernel
theorem dX7_bestOf_18 : decode cX7_bestOf 18 = .ok (.istore 7, 2) := by decide +kernel
theorem dX7_bestOf_20 : decode cX7_bestOf 20 = .ok (.iload 7, 2) := by decide +kernel
theorem dX7_bestOf_22 : decode cX7_bestOf 22 = .ok (.iload_n 3, 1) := by decide +kernel
theorem dX7_bestOf_23 : decode cX7_bestOf 23 = .ok (.if_icmp .gt 47, 3) := by decide +kernel
theorem dX7_bestOf_26 : decode cX7_bestOf 26 = .ok (.aload_n 0, 1) := by decide +kernel
theorem dX7_bestOf_27 : decode cX7_bestOf 27 = .ok (.iload_n 1, 1) := by decide +kernel
theorem dX7_bestOf_28 : decode cX7_bestOf 28 = .ok (.iload_n 2, 1) := by decide +kernel
theorem dX7_bestOf_29 : decode cX7_bestOf 29 = .ok (.iload 7, 2) := by decide +kernel
theorem dX7_bestOf_31 : decode cX7_bestOf 31 = .ok (.invokevirtual 90, 3) := by decide +kernel
theorem dX7_bestOf_34 : decode cX7_bestOf 34 = .ok (.aload_n 0, 1) := by decide +kernel
theorem dX7_bestOf_35 : decode cX7_bestOf 35 = .ok (.iload 4, 2) := by decide +kernel
theorem dX7_bestOf_37 : decode cX7_bestOf 37 = .ok (.bipush 49, 2) := by decide +kernel
theorem dX7_bestOf_39 : decode cX7_bestOf 39 = .ok (.iload_n 1, 1) := by decide +kernel
theorem dX7_bestOf_40 : decode cX7_bestOf 40 = .ok (.iadd, 1) := by decide +kernel
theorem dX7_bestOf_41 : decode cX7_bestOf 41 = .ok (.invokevirtual 173, 3) := by decide +kernel
theorem dX7_bestOf_44 : decode cX7_bestOf 44 = .ok (.invokestatic 84, 3) := by decide +kernel
theorem dX7_bestOf_47 : decode cX7_bestOf 47 = .ok (.istore 8, 2) := by decide +kernel
theorem dX7_bestOf_49 : decode cX7_bestOf 49 = .ok (.iload 8, 2) := by decide +kernel
theorem dX7_bestOf_51 : decode cX7_bestOf 51 = .ok (.iload 6, 2) := by decide +kernel
theorem dX7_bestOf_53 : decode cX7_bestOf 53 = .ok (.if_icmp .le 11, 3) := by decide +kernel
theorem dX7_bestOf_56 : decode cX7_bestOf 56 = .ok (.iload 7, 2) := by decide +kernel
theorem dX7_bestOf_58 : decode cX7_bestOf 58 = .ok (.istore 5, 2) := by decide +kernel
theorem dX7_bestOf_60 : decode cX7_bestOf 60 = .ok (.iload 8, 2) := by decide +kernel
theorem dX7_bestOf_62 : decode cX7_bestOf 62 = .ok (.istore 6, 2) := by decide +kernel
theorem dX7_bestOf_64 : decode cX7_bestOf 64 = .ok (.iinc 7 1, 3) := by decide +kernel
theorem dX7_bestOf_67 : decode cX7_bestOf 67 = .ok (.goto (-47), 3) := by decide +kernel
theorem dX7_bestOf_70 : decode cX7_bestOf 70 = .ok (.iload 5, 2) := by decide +kernel
theorem dX7_bestOf_72 : decode cX7_bestOf 72 = .ok (.ireturn, 1) := by decide +kernel
theorem dX7_leave_0 : decode cX7_leave 0 = .ok (.aload_n 0, 1) := by decide +kernel
theorem dX7_leave_1 : decode cX7_leave 1 = .ok (.iload_n 1, 1) := by decide +kernel
theorem dX7_leave_2 : decode cX7_leave 2 = .ok (.invokevirtual 138, 3) := by decide +kernel
theorem dX7_leave_5 : decode cX7_leave 5 = .ok (.ifCond .eq 26, 3) := by decide +kernel
theorem dX7_leave_8 : decode cX7_leave 8 = .ok (.iload_n 2, 1) := by decide +kernel
theorem dX7_leave_9 : decode cX7_leave 9 = .ok (.i2l, 1) := by decide +kernel
theorem dX7_leave_10 : decode cX7_leave 10 = .ok (.lconst 0, 1) := by decide +kernel
theorem dX7_leave_11 : decode cX7_leave 11 = .ok (.ldc2_w 150, 3) := by decide +kernel
theorem dX7_leave_14 : decode cX7_leave 14 = .ok (.invokestatic 42, 3) := by decide +kernel
theorem dX7_leave_17 : decode cX7_leave 17 = .ok (.ifCond .eq 14, 3) := by decide +kernel
theorem dX7_leave_20 : decode cX7_leave 20 = .ok (.aload_n 0, 1) := by decide +kernel
theorem dX7_leave_21 : decode cX7_leave 21 = .ok (.iload_n 1, 1) := by decide +kernel
theorem dX7_leave_22 : decode cX7_leave 22 = .ok (.iconst 1, 1) := by decide +kernel
theorem dX7_leave_23 : decode cX7_leave 23 = .ok (.iconst 5, 1) := by decide +kernel
theorem dX7_leave_24 : decode cX7_leave 24 = .ok (.iload_n 2, 1) := by decide +kernel
theorem dX7_leave_25 : decode cX7_leave 25 = .ok (.invokevirtual 184, 3) := by decide +kernel
theorem dX7_leave_28 : decode cX7_leave 28 = .ok (.goto 8, 3) := by decide +kernel
theorem dX7_leave_31 : decode cX7_leave 31 = .ok (.aload_n 0, 1) := by decide +kernel
theorem dX7_leave_32 : decode cX7_leave 32 = .ok (.iconst 0, 1) := by decide +kernel
theorem dX7_leave_33 : decode cX7_leave 33 = .ok (.invokevirtual 128, 3) := by decide +kernel
theorem dX7_leave_36 : decode cX7_leave 36 = .ok (.ireturn, 1) := by decide +kernel
theorem dX7_openFor_0 : decode cX7_openFor 0 = .ok (.aload_n 0, 1) := by decide +kernel
theorem dX7_openFor_1 : decode cX7_openFor 1 = .ok (.iload_n 1, 1) := by decide +kernel
theorem dX7_openFor_2 : decode cX7_openFor 2 = .ok (.invokevirtual 138, 3) := by decide +kernel
theorem dX7_openFor_5 : decode cX7_openFor 5 = .ok (.ifCond .eq 27, 3) := by decide +kernel
theorem dX7_openFor_8 : decode cX7_openFor 8 = .ok (.iload_n 2, 1) := by decide +kernel
theorem dX7_openFor_9 : decode cX7_openFor 9 = .ok (.i2l, 1) := by decide +kernel
theorem dX7_openFor_10 : decode cX7_openFor 10 = .ok (.lconst 0, 1) := by decide +kernel
theorem dX7_openFor_11 : decode cX7_openFor 11 = .ok (.ldc2_w 176, 3) := by decide +kernel
theorem dX7_openFor_14 : decode cX7_openFor 14 = .ok (.invokestatic 42, 3) := by decide +kernel
theorem dX7_openFor_17 : decode cX7_openFor 17 = .ok (.ifCond .eq 15, 3) := by decide +kernel
theorem dX7_openFor_20 : decode cX7_openFor 20 = .ok (.iload_n 3, 1) := by decide +kernel
theorem dX7_openFor_21 : decode cX7_openFor 21 = .ok (.i2l, 1) := by decide +kernel
theorem dX7_openFor_22 : decode cX7_openFor 22 = .ok (.lconst 0, 1) := by decide +kernel
theorem dX7_openFor_23 : decode cX7_openFor 23 = .ok (.ldc2_w 150, 3) := by decide +kernel
theorem dX7_openFor_26 : decode cX7_openFor 26 = .ok (.invokestatic 42, 3) := by decide +kernel
theorem dX7_openFor_29 : decode cX7_openFor 29 = .ok (.ifCond .ne 9, 3) := by decide +kernel
theorem dX7_openFor_32 : decode cX7_openFor 32 = .ok (.aload_n 0, 1) := by decide +kernel
theorem dX7_openFor_33 : decode cX7_openFor 33 = .ok (.iconst 0, 1) := by decide +kernel
theorem dX7_openFor_34 : decode cX7_openFor 34 = .ok (.invokevirtual 128, 3) := by decide +kernel
theorem dX7_openFor_37 : decode cX7_openFor 37 = .ok (.ireturn, 1) := by decide +kernel
theorem dX7_openFor_38 : decode cX7_openFor 38 = .ok (.aload_n 0, 1) := by decide +kernel
theorem dX7_openFor_39 : decode cX7_openFor 39 = .ok (.getfield 7, 3) := by decide +kernel
theorem dX7_openFor_42 : decode cX7_openFor 42 = .ok (.aload_n 0, 1) := by decide +kernel
theorem dX7_openFor_43 : decode cX7_openFor 43 = .ok (.getfield 16, 3) := by decide +kernel
theorem dX7_openFor_46 : decode cX7_openFor 46 = .ok (.invokestatic 167, 3) := by decide +kernel
theorem dX7_openFor_49 : decode cX7_openFor 49 = .ok (.iconst 0, 1) := by decide +kernel
theorem dX7_openFor_50 : decode cX7_openFor 50 = .ok (.istore 4, 2) := by decide +kernel
theorem dX7_openFor_52 : decode cX7_openFor 52 = .ok (.iload 4, 2) := by decide +kernel
theorem dX7_openFor_54 : decode cX7_openFor 54 = .ok (.bipush 10, 2) := by decide +kernel
theorem dX7_openFor_56 : decode cX7_openFor 56 = .ok (.if_icmp .ge 36, 3) := by decide +kernel
theorem dX7_openFor_59 : decode cX7_openFor 59 = .ok (.aload_n 0, 1) := by decide +kernel
theorem dX7_openFor_60 : decode cX7_openFor 60 = .ok (.iload_n 1, 1) := by decide +kernel
theorem dX7_openFor_61 : decode cX7_openFor 61 = .ok (.iconst 2, 1) := by decide +kernel
theorem dX7_openFor_62 : decode cX7_openFor 62 = .ok (.iload 4, 2) := by decide +kernel
theorem dX7_openFor_64 : decode cX7_openFor 64 = .ok (.invokevirtual 90, 3) := by decide +kernel
theorem dX7_openFor_67 : decode cX7_openFor 67 = .ok (.aload_n 0, 1) := by decide +kernel
theorem dX7_openFor_68 : decode cX7_openFor 68 = .ok (.iload_n 3, 1) := by decide +kernel
theorem dX7_openFor_69 : decode cX7_openFor 69 = .ok (.bipush 49, 2) := by decide +kernel
theorem dX7_openFor_71 : decode cX7_openFor 71 = .ok (.iload_n 1, 1) := by decide +kernel
theorem dX7_openFor_72 : decode cX7_openFor 72 = .ok (.iadd, 1) := by decide +kernel
theorem dX7_openFor_73 : decode cX7_openFor 73 = .ok (.invokevirtual 173, 3) := by decide +kernel
theorem dX7_openFor_76 : decode cX7_openFor 76 = .ok (.invokestatic 84, 3) := by decide +kernel
theorem dX7_openFor_79 : decode cX7_openFor 79 = .ok (.iload_n 2, 1) := by decide +kernel
theorem dX7_openFor_80 : decode cX7_openFor 80 = .ok (.if_icmp .lt 6, 3) := by decide +kernel
theorem dX7_openFor_83 : decode cX7_openFor 83 = .ok (.iload 4, 2) := by decide +kernel
theorem dX7_openFor_85 : decode cX7_openFor 85 = .ok (.ireturn, 1) := by decide +kernel
theorem dX7_openFor_86 : decode cX7_openFor 86 = .ok (.iinc 4 1, 3) := by decide +kernel
theorem dX7_openFor_89 : decode cX7_openFor 89 = .ok (.goto (-37), 3) := by decide +kernel
theorem dX7_openFor_92 : decode cX7_openFor 92 = .ok (.aload_n 0, 1) := by decide +kernel
theorem dX7_openFor_93 : decode cX7_openFor 93 = .ok (.iconst 3, 1) := by decide +kernel
theorem dX7_openFor_94 : decode cX7_openFor 94 = .ok (.invokevirtual 128, 3) := by decide +kernel
theorem dX7_openFor_97 : decode cX7_openFor 97 = .ok (.ireturn, 1) := by decide +kernel
theorem dX7_kindFor_0 : decode cX7_kindFor 0 = .ok (.aload_n 0, 1) := by decide +kernel
theorem dX7_kindFor_1 : decode cX7_kindFor 1 = .ok (.iload_n 1, 1) := by decide +kernel
theorem dX7_kindFor_2 : decode cX7_kindFor 2 = .ok (.invokevirtual 138, 3) := by decide +kernel
theorem dX7_kindFor_5 : decode cX7_kindFor 5 = .ok (.ifCond .eq 27, 3) := by decide +kernel
theorem dX7_kindFor_8 : decode cX7_kindFor 8 = .ok (.iload_n 2, 1) := by decide +kernel
theorem dX7_kindFor_9 : decode cX7_kindFor 9 = .ok (.i2l, 1) := by decide +kernel
theorem dX7_kindFor_10 : decode cX7_kindFor 10 = .ok (.lconst 0, 1) := by decide +kernel
theorem dX7_kindFor_11 : decode cX7_kindFor 11 = .ok (.ldc2_w 150, 3) := by decide +kernel
theorem dX7_kindFor_14 : decode cX7_kindFor 14 = .ok (.invokestatic 42, 3) := by decide +kernel
theorem dX7_kindFor_17 : decode cX7_kindFor 17 = .ok (.ifCond .eq 15, 3) := by decide +kernel
theorem dX7_kindFor_20 : decode cX7_kindFor 20 = .ok (.aload_n 0, 1) := by decide +kernel
theorem dX7_kindFor_21 : decode cX7_kindFor 21 = .ok (.iload_n 1, 1) := by decide +kernel
theorem dX7_kindFor_22 : decode cX7_kindFor 22 = .ok (.iconst 0, 1) := by decide +kernel
theorem dX7_kindFor_23 : decode cX7_kindFor 23 = .ok (.bipush 6, 2) := by decide +kernel
theorem dX7_kindFor_25 : decode cX7_kindFor 25 = .ok (.iload_n 2, 1) := by decide +kernel
theorem dX7_kindFor_26 : decode cX7_kindFor 26 = .ok (.invokevirtual 184, 3) := by decide +kernel
theorem dX7_kindFor_29 : decode cX7_kindFor 29 = .ok (.goto 8, 3) := by decide +kernel
theorem dX7_kindFor_32 : decode cX7_kindFor 32 = .ok (.aload_n 0, 1) := by decide +kernel
theorem dX7_kindFor_33 : decode cX7_kindFor 33 = .ok (.iconst 0, 1) := by decide +kernel
theorem dX7_kindFor_34 : decode cX7_kindFor 34 = .ok (.invokevirtual 128, 3) := by decide +kernel
theorem dX7_kindFor_37 : decode cX7_kindFor 37 = .ok (.ireturn, 1) := by decide +kernel
theorem dX7_lower_0 : decode cX7_lower 0 = .ok (.iload_n 1, 1) := by decide +kernel
theorem dX7_lower_1 : decode cX7_lower 1 = .ok (.invokestatic 119, 3) := by decide +kernel
theorem dX7_lower_4 : decode cX7_lower 4 = .ok (.ifCond .ne 9, 3) := by decide +kernel
theorem dX7_lower_7 : decode cX7_lower 7 = .ok (.aload_n 0, 1) := by decide +kernel
theorem dX7_lower_8 : decode cX7_lower 8 = .ok (.iconst 0, 1) := by decide +kernel
theorem dX7_lower_9 : decode cX7_lower 9 = .ok (.invokevirtual 128, 3) := by decide +kernel
theorem dX7_lower_12 : decode cX7_lower 12 = .ok (.ireturn, 1) := by decide +kernel
theorem dX7_lower_13 : decode cX7_lower 13 = .ok (.aload_n 0, 1) := by decide +kernel
theorem dX7_lower_14 : decode cX7_lower 14 = .ok (.getfield 7, 3) := by decide +kernel
theorem dX7_lower_17 : decode cX7_lower 17 = .ok (.iconst 3, 1) := by decide +kernel
theorem dX7_lower_18 : decode cX7_lower 18 = .ok (.iload_n 1, 1) := by decide +kernel
theorem dX7_lower_19 : decode cX7_lower 19 = .ok (.iadd, 1) := by decide +kernel
theorem dX7_lower_20 : decode cX7_lower 20 = .ok (.iaload, 1) := by decide +kernel
theorem dX7_lower_21 : decode cX7_lower 21 = .ok (.aload_n 0, 1) := by decide +kernel
theorem dX7_lower_22 : decode cX7_lower 22 = .ok (.getfield 7, 3) := by decide +kernel
theorem dX7_lower_25 : decode cX7_lower 25 = .ok (.iconst 3, 1) := by decide +kernel
theorem dX7_lower_26 : decode cX7_lower 26 = .ok (.iload_n 1, 1) := by decide +kernel
theorem dX7_lower_27 : decode cX7_lower 27 = .ok (.iadd, 1) := by decide +kernel
theorem dX7_lower_28 : decode cX7_lower 28 = .ok (.iaload, 1) := by decide +kernel
theorem dX7_lower_29 : decode cX7_lower 29 = .ok (.bipush 10, 2) := by decide +kernel
theorem dX7_lower_31 : decode cX7_lower 31 = .ok (.irem, 1) := by decide +kernel
theorem dX7_lower_32 : decode cX7_lower 32 = .ok (.isub, 1) := by decide +kernel
theorem dX7_lower_33 : decode cX7_lower 33 = .ok (.istore_n 2, 1) := by decide +kernel
theorem dX7_lower_34 : decode cX7_lower 34 = .ok (.bipush 9, 2) := by decide +kernel
theorem dX7_lower_36 : decode cX7_lower 36 = .ok (.istore_n 3, 1) := by decide +kernel
theorem dX7_lower_37 : decode cX7_lower 37 = .ok (.iload_n 3, 1) := by decide +kernel
theorem dX7_lower_38 : decode cX7_lower 38 = .ok (.ifCond .lt 21, 3) := by decide +kernel
theorem dX7_lower_41 : decode cX7_lower 41 = .ok (.aload_n 0, 1) := by decide +kernel
theorem dX7_lower_42 : decode cX7_lower 42 = .ok (.iload_n 2, 1) := by decide +kernel
theorem dX7_lower_43 : decode cX7_lower 43 = .ok (.iload_n 3, 1) := by decide +kernel
theorem dX7_lower_44 : decode cX7_lower 44 = .ok (.iadd, 1) := by decide +kernel
theorem dX7_lower_45 : decode cX7_lower 45 = .ok (.invokevirtual 98, 3) := by decide +kernel
theorem dX7_lower_48 : decode cX7_lower 48 = .ok (.ifCond .ne 5, 3) := by decide +kernel
theorem dX7_lower_51 : decode cX7_lower 51 = .ok (.iload_n 3, 1) := by decide +kernel
theorem dX7_lower_52 : decode cX7_lower 52 = .ok (.ireturn, 1) := by decide +kernel
theorem dX7_lower_53 : decode cX7_lower 53 = .ok (.iinc 3 (-1), 3) := by decide +kernel
theorem dX7_lower_56 : decode cX7_lower 56 = .ok (.goto (-19), 3) := by decide +kernel
theorem dX7_lower_59 : decode cX7_lower 59 = .ok (.aload_n 0, 1) := by decide +kernel
theorem dX7_lower_60 : decode cX7_lower 60 = .ok (.iconst 3, 1) := by decide +kernel
theorem dX7_lower_61 : decode cX7_lower 61 = .ok (.invokevirtual 128, 3) := by decide +kernel
theorem dX7_lower_64 : decode cX7_lower 64 = .ok (.ireturn, 1) := by decide +kernel
theorem dX7_cover_0 : decode cX7_cover 0 = .ok (.iload_n 1, 1) := by decide +kernel
theorem dX7_cover_1 : decode cX7_cover 1 = .ok (.invokestatic 178, 3) := by decide +kernel
theorem dX7_cover_4 : decode cX7_cover 4 = .ok (.ifCond .ne 9, 3) := by decide +kernel
theorem dX7_cover_7 : decode cX7_cover 7 = .ok (.aload_n 0, 1) := by decide +kernel
theorem dX7_cover_8 : decode cX7_cover 8 = .ok (.iconst 0, 1) := by decide +kernel
theorem dX7_cover_9 : decode cX7_cover 9 = .ok (.invokevirtual 128, 3) := by decide +kernel
theorem dX7_cover_12 : decode cX7_cover 12 = .ok (.ireturn, 1) := by decide +kernel
theorem dX7_cover_13 : decode cX7_cover 13 = .ok (.iconst (-1), 1) := by decide +kernel
theorem dX7_cover_14 : decode cX7_cover 14 = .ok (.istore_n 2, 1) := by decide +kernel
theorem dX7_cover_15 : decode cX7_cover 15 = .ok (.iconst 0, 1) := by decide +kernel
theorem dX7_cover_16 : decode cX7_cover 16 = .ok (.istore_n 3, 1) := by decide +kernel
theorem dX7_cover_17 : decode cX7_cover 17 = .ok (.iload_n 3, 1) := by decide +kernel
theorem dX7_cover_18 : decode cX7_cover 18 = .ok (.iconst 1, 1) := by decide +kernel
theorem dX7_cover_19 : decode cX7_cover 19 = .ok (.aload_n 0, 1) := by decide +kernel
theorem dX7_cover_20 : decode cX7_cover 20 = .ok (.getfield 7, 3) := by decide +kernel
theorem dX7_cover_23 : decode cX7_cover 23 = .ok (.iconst 0, 1) := by decide +kernel
theorem dX7_cover_24 : decode cX7_cover 24 = .ok (.iaload, 1) := by decide +kernel
theorem dX7_cover_25 : decode cX7_cover 25 = .ok (.ishl, 1) := by decide +kernel
theorem dX7_cover_26 : decode cX7_cover 26 = .ok (.if_icmp .ge 62, 3) := by decide +kernel
theorem dX7_cover_29 : decode cX7_cover 29 = .ok (.iload_n 1, 1) := by decide +kernel
theorem dX7_cover_30 : decode cX7_cover 30 = .ok (.aload_n 0, 1) := by decide +kernel
theorem dX7_cover_31 : decode cX7_cover 31 = .ok (.iload_n 3, 1) := by decide +kernel
theorem dX7_cover_32 : decode cX7_cover 32 = .ok (.iconst 3, 1) := by decide +kernel
theorem dX7_cover_33 : decode cX7_cover 33 = .ok (.invokevirtual 116, 3) := by decide +kernel
theorem dX7_cover_36 : decode cX7_cover 36 = .ok (.aload_n 0, 1) := by decide +kernel
theorem dX7_cover_37 : decode cX7_cover 37 = .ok (.iload_n 3, 1) := by decide +kernel
theorem dX7_cover_38 : decode cX7_cover 38 = .ok (.iconst 5, 1) := by decide +kernel
theorem dX7_cover_39 : decode cX7_cover 39 = .ok (.invokevirtual 116, 3) := by decide +kernel
theorem dX7_cover_42 : decode cX7_cover 42 = .ok (.ior, 1) := by decide +kernel
theorem dX7_cover_43 : decode cX7_cover 43 = .ok (.iconst (-1), 1) := by decide +kernel
theorem dX7_cover_44 : decode cX7_cover 44 = .ok (.ixor, 1) := by decide +kernel
theorem dX7_cover_45 : decode cX7_cover 45 = .ok (.iand, 1) := by decide +kernel
theorem dX7_cover_46 : decode cX7_cover 46 = .ok (.ifCond .ne 7, 3) := by decide +kernel
theorem dX7_cover_49 : decode cX7_cover 49 = .ok (.iconst 1, 1) := by decide +kernel
theorem dX7_cover_50 : decode cX7_cover 50 = .ok (.goto 4, 3) := by decide +kernel
theorem dX7_cover_53 : decode cX7_cover 53 = .ok (.iconst 0, 1) := by decide +kernel
theorem dX7_cover_54 : decode cX7_cover 54 = .ok (.istore 4, 2) := by decide +kernel
theorem dX7_cover_56 : decode cX7_cover 56 = .ok (.iload 4, 2) := by decide +kernel
theorem dX7_cover_58 : decode cX7_cover 58 = .ok (.ifCond .eq 22, 3) := by decide +kernel
theorem dX7_cover_61 : decode cX7_cover 61 = .ok (.iload_n 2, 1) := by decide +kernel
theorem dX7_cover_62 : decode cX7_cover 62 = .ok (.ifCond .lt 14, 3) := by decide +kernel
theorem dX7_cover_65 : decode cX7_cover 65 = .ok (.iload_n 3, 1) := by decide +kernel
theorem dX7_cover_66 : decode cX7_cover 66 = .ok (.invokestatic 84, 3) := by decide +kernel
theorem dX7_cover_69 : decode cX7_cover 69 = .ok (.iload_n 2, 1) := by decide +kernel
theorem dX7_cover_70 : decode cX7_cover 70 = .ok (.invokestatic 84, 3) := by decide +kernel
theorem dX7_cover_73 : decode cX7_cover 73 = .ok (.if_icmp .ge 7, 3) := by decide +kernel
theorem dX7_cover_76 : decode cX7_cover 76 = .ok (.iload_n 3, 1) := by decide +kernel
theorem dX7_cover_77 : decode cX7_cover 77 = .ok (.goto 4, 3) := by decide +kernel
theorem dX7_cover_80 : decode cX7_cover 80 = .ok (.iload_n 2, 1) := by decide +kernel
theorem dX7_cover_81 : decode cX7_cover 81 = .ok (.istore_n 2, 1) := by decide +kernel
theorem dX7_cover_82 : decode cX7_cover 82 = .ok (.iinc 3 1, 3) := by decide +kernel
theorem dX7_cover_85 : decode cX7_cover 85 = .ok (.goto (-68), 3) := by decide +kernel
theorem dX7_cover_88 : decode cX7_cover 88 = .ok (.iload_n 2, 1) := by decide +kernel
theorem dX7_cover_89 : decode cX7_cover 89 = .ok (.ifCond .ge 11, 3) := by decide +kernel
theorem dX7_cover_92 : decode cX7_cover 92 = .ok (.aload_n 0, 1) := by decide +kernel
theorem dX7_cover_93 : decode cX7_cover 93 = .ok (.iconst 3, 1) := by decide +kernel
theorem dX7_cover_94 : decode cX7_cover 94 = .ok (.invokevirtual 128, 3) := by decide +kernel
theorem dX7_cover_97 : decode cX7_cover 97 = .ok (.goto 4, 3) := by decide +kernel
theorem dX7_cover_100 : decode cX7_cover 100 = .ok (.iload_n 2, 1) := by decide +kernel
theorem dX7_cover_101 : decode cX7_cover 101 = .ok (.ireturn, 1) := by decide +kernel
theorem dX7_away_0 : decode cX7_away 0 = .ok (.aload_n 0, 1) := by decide +kernel
theorem dX7_away_1 : decode cX7_away 1 = .ok (.iload_n 1, 1) := by decide +kernel
theorem dX7_away_2 : decode cX7_away 2 = .ok (.invokevirtual 138, 3) := by decide +kernel
theorem dX7_away_5 : decode cX7_away 5 = .ok (.ifCond .eq 22, 3) := by decide +kernel
theorem dX7_away_8 : decode cX7_away 8 = .ok (.iload_n 2, 1) := by decide +kernel
theorem dX7_away_9 : decode cX7_away 9 = .ok (.invokestatic 147, 3) := by decide +kernel
theorem dX7_away_12 : decode cX7_away 12 = .ok (.ifCond .eq 15, 3) := by decide +kernel
theorem dX7_away_15 : decode cX7_away 15 = .ok (.iload_n 3, 1) := by decide +kernel
theorem dX7_away_16 : decode cX7_away 16 = .ok (.i2l, 1) := by decide +kernel
theorem dX7_away_17 : decode cX7_away 17 = .ok (.lconst 0, 1) := by decide +kernel
theorem dX7_away_18 : decode cX7_away 18 = .ok (.ldc2_w 188, 3) := by decide +kernel
theorem dX7_away_21 : decode cX7_away 21 = .ok (.invokestatic 42, 3) := by decide +kernel
theorem dX7_away_24 : decode cX7_away 24 = .ok (.ifCond .ne 9, 3) := by decide +kernel
theorem dX7_away_27 : decode cX7_away 27 = .ok (.aload_n 0, 1) := by decide +kernel
theorem dX7_away_28 : decode cX7_away 28 = .ok (.iconst 0, 1) := by decide +kernel
theorem dX7_away_29 : decode cX7_away 29 = .ok (.invokevirtual 128, 3) := by decide +kernel
theorem dX7_away_32 : decode cX7_away 32 = .ok (.ireturn, 1) := by decide +kernel
theorem dX7_away_33 : decode cX7_away 33 = .ok (.aload_n 0, 1) := by decide +kernel
theorem dX7_away_34 : decode cX7_away 34 = .ok (.getfield 7, 3) := by decide +kernel
theorem dX7_away_37 : decode cX7_away 37 = .ok (.aload_n 0, 1) := by decide +kernel
theorem dX7_away_38 : decode cX7_away 38 = .ok (.getfield 16, 3) := by decide +kernel
theorem dX7_away_41 : decode cX7_away 41 = .ok (.invokestatic 167, 3) := by decide +kernel
theorem dX7_away_44 : decode cX7_away 44 = .ok (.iconst (-1), 1) := by decide +kernel
theorem dX7_away_45 : decode cX7_away 45 = .ok (.istore 4, 2) := by decide +kernel
theorem dX7_away_47 : decode cX7_away 47 = .ok (.iconst 0, 1) := by decide +kernel
theorem dX7_away_48 : decode cX7_away 48 = .ok (.istore 5, 2) := by decide +kernel
theorem dX7_away_50 : decode cX7_away 50 = .ok (.iload 5, 2) := by decide +kernel
theorem dX7_away_52 : decode cX7_away 52 = .ok (.iconst 1, 1) := by decide +kernel
theorem dX7_away_53 : decode cX7_away 53 = .ok (.aload_n 0, 1) := by decide +kernel
theorem dX7_away_54 : decode cX7_away 54 = .ok (.getfield 7, 3) := by decide +kernel
theorem dX7_away_57 : decode cX7_away 57 = .ok (.iconst 0, 1) := by decide +kernel
theorem dX7_away_58 : decode cX7_away 58 = .ok (.iaload, 1) := by decide +kernel
theorem dX7_away_59 : decode cX7_away 59 = .ok (.ishl, 1) := by decide +kernel
theorem dX7_away_60 : decode cX7_away 60 = .ok (.if_icmp .ge 96, 3) := by decide +kernel
theorem dX7_away_63 : decode cX7_away 63 = .ok (.iload 5, 2) := by decide +kernel
theorem dX7_away_65 : decode cX7_away 65 = .ok (.iload_n 1, 1) := by decide +kernel
theorem dX7_away_66 : decode cX7_away 66 = .ok (.ishr, 1) := by decide +kernel
theorem dX7_away_67 : decode cX7_away 67 = .ok (.iconst 1, 1) := by decide +kernel
theorem dX7_away_68 : decode cX7_away 68 = .ok (.iand, 1) := by decide +kernel
theorem dX7_away_69 : decode cX7_away 69 = .ok (.iconst 1, 1) := by decide +kernel
theorem dX7_away_70 : decode cX7_away 70 = .ok (.if_icmp .eq 80, 3) := by decide +kernel
theorem dX7_away_73 : decode cX7_away 73 = .ok (.iload 4, 2) := by decide +kernel
theorem dX7_away_75 : decode cX7_away 75 = .ok (.ifCond .lt 19, 3) := by decide +kernel
theorem dX7_away_78 : decode cX7_away 78 = .ok (.iload 5, 2) := by decide +kernel
theorem dX7_away_80 : decode cX7_away 80 = .ok (.invokestatic 84, 3) := by decide +kernel
theorem dX7_away_83 : decode cX7_away 83 = .ok (.iload 4, 2) := by decide +kernel
theorem dX7_away_85 : decode cX7_away 85 = .ok (.invokestatic 84, 3) := by decide +kernel
theorem dX7_away_88 : decode cX7_away 88 = .ok (.if_icmp .lt 6, 3) := by decide +kernel
theorem dX7_away_91 : decode cX7_away 91 = .ok (.goto 59, 3) := by decide +kernel
theorem dX7_away_94 : decode cX7_away 94 = .ok (.aload_n 0, 1) := by decide +kernel
theorem dX7_away_95 : decode cX7_away 95 = .ok (.iload 5, 2) := by decide +kernel
theorem dX7_away_97 : decode cX7_away 97 = .ok (.putfield 54, 3) := by decide +kernel
theorem dX7_away_100 : decode cX7_away 100 = .ok (.aload_n 0, 1) := by decide +kernel
theorem dX7_away_101 : decode cX7_away 101 = .ok (.iload_n 3, 1) := by decide +kernel
theorem dX7_away_102 : decode cX7_away 102 = .ok (.invokevirtual 152, 3) := by decide +kernel
theorem dX7_away_105 : decode cX7_away 105 = .ok (.aload_n 0, 1) := by decide +kernel
theorem dX7_away_106 : decode cX7_away 106 = .ok (.iload_n 1, 1) := by decide +kernel
theorem dX7_away_107 : decode cX7_away 107 = .ok (.iconst 3, 1) := by decide +kernel
theorem dX7_away_108 : decode cX7_away 108 = .ok (.invokevirtual 58, 3) := by decide +kernel
theorem dX7_away_111 : decode cX7_away 111 = .ok (.aload_n 0, 1) := by decide +kernel
theorem dX7_away_112 : decode cX7_away 112 = .ok (.iload_n 1, 1) := by decide +kernel
theorem dX7_away_113 : decode cX7_away 113 = .ok (.iconst 5, 1) := by decide +kernel
theorem dX7_away_114 : decode cX7_away 114 = .ok (.invokevirtual 58, 3) := by decide +kernel
theorem dX7_away_117 : decode cX7_away 117 = .ok (.ior, 1) := by decide +kernel
theorem dX7_away_118 : decode cX7_away 118 = .ok (.istore 6, 2) := by decide +kernel
theorem dX7_away_120 : decode cX7_away 120 = .ok (.aload_n 0, 1) := by decide +kernel
theorem dX7_away_121 : decode cX7_away 121 = .ok (.getfield 16, 3) := by decide +kernel
theorem dX7_away_124 : decode cX7_away 124 = .ok (.aload_n 0, 1) := by decide +kernel
theorem dX7_away_125 : decode cX7_away 125 = .ok (.getfield 7, 3) := by decide +kernel
theorem dX7_away_128 : decode cX7_away 128 = .ok (.invokestatic 167, 3) := by decide +kernel
theorem dX7_away_131 : decode cX7_away 131 = .ok (.iload 6, 2) := by decide +kernel
theorem dX7_away_133 : decode cX7_away 133 = .ok (.iload_n 2, 1) := by decide +kernel
theorem dX7_away_134 : decode cX7_away 134 = .ok (.ishr, 1) := by decide +kernel
theorem dX7_away_135 : decode cX7_away 135 = .ok (.iconst 1, 1) := by decide +kernel
theorem dX7_away_136 : decode cX7_away 136 = .ok (.iand, 1) := by decide +kernel
theorem dX7_away_137 : decode cX7_away 137 = .ok (.iconst 1, 1) := by decide +kernel
theorem dX7_away_138 : decode cX7_away 138 = .ok (.if_icmp .ne 8, 3) := by decide +kernel
theorem dX7_away_141 : decode cX7_away 141 = .ok (.iload 5, 2) := by decide +kernel
theorem dX7_away_143 : decode cX7_away 143 = .ok (.goto 5, 3) := by decide +kernel
theorem dX7_away_146 : decode cX7_away 146 = .ok (.iload 4, 2) := by decide +kernel
theorem dX7_away_148 : decode cX7_away 148 = .ok (.istore 4, 2) := by decide +kernel
theorem dX7_away_150 : decode cX7_away 150 = .ok (.iinc 5 1, 3) := by decide +kernel
theorem dX7_away_153 : decode cX7_away 153 = .ok (.goto (-103), 3) := by decide +kernel
theorem dX7_away_156 : decode cX7_away 156 = .ok (.aload_n 0, 1) := by decide +kernel
theorem dX7_away_157 : decode cX7_away 157 = .ok (.iconst 0, 1) := by decide +kernel
theorem dX7_away_158 : decode cX7_away 158 = .ok (.putfield 54, 3) := by decide +kernel
theorem dX7_away_161 : decode cX7_away 161 = .ok (.iload 4, 2) := by decide +kernel
theorem dX7_away_163 : decode cX7_away 163 = .ok (.ifCond .ge 11, 3) := by decide +kernel
theorem dX7_away_166 : decode cX7_away 166 = .ok (.aload_n 0, 1) := by decide +kernel
theorem dX7_away_167 : decode cX7_away 167 = .ok (.iconst 3, 1) := by decide +kernel
theorem dX7_away_168 : decode cX7_away 168 = .ok (.invokevirtual 128, 3) := by decide +kernel
theorem dX7_away_171 : decode cX7_away 171 = .ok (.goto 5, 3) := by decide +kernel
theorem dX7_away_174 : decode cX7_away 174 = .ok (.iload 4, 2) := by decide +kernel
theorem dX7_away_176 : decode cX7_away 176 = .ok (.ireturn, 1) := by decide +kernel
theorem dX7_fitting_0 : decode cX7_fitting 0 = .ok (.aload_n 0, 1) := by decide +kernel
theorem dX7_fitting_1 : decode cX7_fitting 1 = .ok (.getfield 7, 3) := by decide +kernel
theorem dX7_fitting_4 : decode cX7_fitting 4 = .ok (.aload_n 0, 1) := by decide +kernel
theorem dX7_fitting_5 : decode cX7_fitting 5 = .ok (.getfield 16, 3) := by decide +kernel
theorem dX7_fitting_8 : decode cX7_fitting 8 = .ok (.invokestatic 167, 3) := by decide +kernel
theorem dX7_fitting_11 : decode cX7_fitting 11 = .ok (.iconst 0, 1) := by decide +kernel
theorem dX7_fitting_12 : decode cX7_fitting 12 = .ok (.istore 5, 2) := by decide +kernel
theorem dX7_fitting_14 : decode cX7_fitting 14 = .ok (.iconst 0, 1) := by decide +kernel
theorem dX7_fitting_15 : decode cX7_fitting 15 = .ok (.istore 6, 2) := by decide +kernel
theorem dX7_fitting_17 : decode cX7_fitting 17 = .ok (.iload 6, 2) := by decide +kernel
theorem dX7_fitting_19 : decode cX7_fitting 19 = .ok (.iload 4, 2) := by decide +kernel
theorem dX7_fitting_21 : decode cX7_fitting 21 = .ok (.if_icmp .gt 116, 3) := by decide +kernel
theorem dX7_fitting_24 : decode cX7_fitting 24 = .ok (.aload_n 0, 1) := by decide +kernel
theorem dX7_fitting_25 : decode cX7_fitting 25 = .ok (.iload_n 2, 1) := by decide +kernel
theorem dX7_fitting_26 : decode cX7_fitting 26 = .ok (.iload_n 3, 1) := by decide +kernel
theorem dX7_fitting_27 : decode cX7_fitting 27 = .ok (.iload 6, 2) := by decide +kernel
theorem dX7_fitting_29 : decode cX7_fitting 29 = .ok (.invokevirtual 90, 3) := by decide +kernel
theorem dX7_fitting_32 : decode cX7_fitting 32 = .ok (.iconst 1, 1) := by decide +kernel
theorem dX7_fitting_33 : decode cX7_fitting 33 = .ok (.istore 7, 2) := by decide +kernel
theorem dX7_fitting_35 : decode cX7_fitting 35 = .ok (.iconst 0, 1) := by decide +kernel
theorem dX7_fitting_36 : decode cX7_fitting 36 = .ok (.istore 8, 2) := by decide +kernel
theorem dX7_fitting_38 : decode cX7_fitting 38 = .ok (.iload 8, 2) := by decide +kernel
theorem dX7_fitting_40 : decode cX7_fitting 40 = .ok (.aload_n 0, 1) := by decide +kernel
theorem dX7_fitting_41 : decode cX7_fitting 41 = .ok (.getfield 32, 3) := by decide +kernel
theorem dX7_fitting_44 : decode cX7_fitting 44 = .ok (.iload_n 1, 1) := by decide +kernel
theorem dX7_fitting_45 : decode cX7_fitting 45 = .ok (.iaload, 1) := by decide +kernel
theorem dX7_fitting_46 : decode cX7_fitting 46 = .ok (.if_icmp .ge 56, 3) := by decide +kernel
theorem dX7_fitting_49 : decode cX7_fitting 49 = .ok (.iload 7, 2) := by decide +kernel
theorem dX7_fitting_51 : decode cX7_fitting 51 = .ok (.ifCond .eq 51, 3) := by decide +kernel
theorem dX7_fitting_54 : decode cX7_fitting 54 = .ok (.aload_n 0, 1) := by decide +kernel
theorem dX7_fitting_55 : decode cX7_fitting 55 = .ok (.getfield 35, 3) := by decide +kernel
theorem dX7_fitting_58 : decode cX7_fitting 58 = .ok (.bipush 40, 2) := by decide +kernel
theorem dX7_fitting_60 : decode cX7_fitting 60 = .ok (.iload_n 1, 1) := by decide +kernel
theorem dX7_fitting_61 : decode cX7_fitting 61 = .ok (.imul, 1) := by decide +kernel
theorem dX7_fitting_62 : decode cX7_fitting 62 = .ok (.iload 8, 2) := by decide +kernel
theorem dX7_fitting_64 : decode cX7_fitting 64 = .ok (.iadd, 1) := by decide +kernel
theorem dX7_fitting_65 : decode cX7_fitting 65 = .ok (.iaload, 1) := by decide +kernel
theorem dX7_fitting_66 : decode cX7_fitting 66 = .ok (.istore 9, 2) := by decide +kernel
theorem dX7_fitting_68 : decode cX7_fitting 68 = .ok (.iload 9, 2) := by decide +kernel
theorem dX7_fitting_70 : decode cX7_fitting 70 = .ok (.iconst (-1), 1) := by decide +kernel
theorem dX7_fitting_71 : decode cX7_fitting 71 = .ok (.if_icmp .eq 14, 3) := by decide +kernel
theorem dX7_fitting_74 : decode cX7_fitting 74 = .ok (.iload 9, 2) := by decide +kernel
theorem dX7_fitting_76 : decode cX7_fitting 76 = .ok (.aload_n 0, 1) := by decide +kernel
theorem dX7_fitting_77 : decode cX7_fitting 77 = .ok (.iload_n 2, 1) := by decide +kernel
theorem dX7_fitting_78 : decode cX7_fitting 78 = .ok (.iconst 3, 1) := by decide +kernel
theorem dX7_fitting_79 : decode cX7_fitting 79 = .ok (.invokevirtual 58, 3) := by decide +kernel
theorem dX7_fitting_82 : decode cX7_fitting 82 = .ok (.if_icmp .ne 7, 3) := by decide +kernel
theorem dX7_fitting_85 : decode cX7_fitting 85 = .ok (.iconst 1, 1) := by decide +kernel
theorem dX7_fitting_86 : decode cX7_fitting 86 = .ok (.goto 4, 3) := by decide +kernel
theorem dX7_fitting_89 : decode cX7_fitting 89 = .ok (.iconst 0, 1) := by decide +kernel
theorem dX7_fitting_90 : decode cX7_fitting 90 = .ok (.istore 7, 2) := by decide +kernel
theorem dX7_fitting_92 : decode cX7_fitting 92 = .ok (.aload_n 0, 1) := by decide +kernel
theorem dX7_fitting_93 : decode cX7_fitting 93 = .ok (.invokevirtual 113, 3) := by decide +kernel
theorem dX7_fitting_96 : decode cX7_fitting 96 = .ok (.iinc 8 1, 3) := by decide +kernel
theorem dX7_fitting_99 : decode cX7_fitting 99 = .ok (.goto (-61), 3) := by decide +kernel
theorem dX7_fitting_102 : decode cX7_fitting 102 = .ok (.aload_n 0, 1) := by decide +kernel
theorem dX7_fitting_103 : decode cX7_fitting 103 = .ok (.getfield 16, 3) := by decide +kernel
theorem dX7_fitting_106 : decode cX7_fitting 106 = .ok (.aload_n 0, 1) := by decide +kernel
theorem dX7_fitting_107 : decode cX7_fitting 107 = .ok (.getfield 7, 3) := by decide +kernel
theorem dX7_fitting_110 : decode cX7_fitting 110 = .ok (.invokestatic 167, 3) := by decide +kernel
theorem dX7_fitting_113 : decode cX7_fitting 113 = .ok (.iload 5, 2) := by decide +kernel
theorem dX7_fitting_115 : decode cX7_fitting 115 = .ok (.iload 7, 2) := by decide +kernel
theorem dX7_fitting_117 : decode cX7_fitting 117 = .ok (.ifCond .eq 10, 3) := by decide +kernel
theorem dX7_fitting_120 : decode cX7_fitting 120 = .ok (.iconst 1, 1) := by decide +kernel
theorem dX7_fitting_121 : decode cX7_fitting 121 = .ok (.iload 6, 2) := by decide +kernel
theorem dX7_fitting_123 : decode cX7_fitting 123 = .ok (.ishl, 1) := by decide +kernel
theorem dX7_fitting_124 : decode cX7_fitting 124 = .ok (.goto 4, 3) := by decide +kernel
theorem dX7_fitting_127 : decode cX7_fitting 127 = .ok (.iconst 0, 1) := by decide +kernel
theorem dX7_fitting_128 : decode cX7_fitting 128 = .ok (.ior, 1) := by decide +kernel
theorem dX7_fitting_129 : decode cX7_fitting 129 = .ok (.istore 5, 2) := by decide +kernel
theorem dX7_fitting_131 : decode cX7_fitting 131 = .ok (.iinc 6 1, 3) := by decide +kernel
theorem dX7_fitting_134 : decode cX7_fitting 134 = .ok (.goto (-117), 3) := by decide +kernel
theorem dX7_fitting_137 : decode cX7_fitting 137 = .ok (.iload 5, 2) := by decide +kernel
theorem dX7_fitting_139 : decode cX7_fitting 139 = .ok (.ireturn, 1) := by decide +kernel
theorem dX7_whyNot_0 : decode cX7_whyNot 0 = .ok (.aload_n 0, 1) := by decide +kernel
theorem dX7_whyNot_1 : decode cX7_whyNot 1 = .ok (.iload_n 1, 1) := by decide +kernel
theorem dX7_whyNot_2 : decode cX7_whyNot 2 = .ok (.invokevirtual 190, 3) := by decide +kernel
theorem dX7_whyNot_5 : decode cX7_whyNot 5 = .ok (.istore_n 3, 1) := by decide +kernel
theorem dX7_whyNot_6 : decode cX7_whyNot 6 = .ok (.iload_n 3, 1) := by decide +kernel
theorem dX7_whyNot_7 : decode cX7_whyNot 7 = .ok (.ifCond .lt 7, 3) := by decide +kernel
theorem dX7_whyNot_10 : decode cX7_whyNot 10 = .ok (.iload_n 3, 1) := by decide +kernel
theorem dX7_whyNot_11 : decode cX7_whyNot 11 = .ok (.goto 16, 3) := by decide +kernel
theorem dX7_whyNot_14 : decode cX7_whyNot 14 = .ok (.aload_n 0, 1) := by decide +kernel
theorem dX7_whyNot_15 : decode cX7_whyNot 15 = .ok (.iload_n 2, 1) := by decide +kernel
theorem dX7_whyNot_16 : decode cX7_whyNot 16 = .ok (.invokevirtual 138, 3) := by decide +kernel
theorem dX7_whyNot_19 : decode cX7_whyNot 19 = .ok (.ifCond .eq 7, 3) := by decide +kernel
theorem dX7_whyNot_22 : decode cX7_whyNot 22 = .ok (.iconst (-1), 1) := by decide +kernel
theorem dX7_whyNot_23 : decode cX7_whyNot 23 = .ok (.goto 4, 3) := by decide +kernel
theorem dX7_whyNot_26 : decode cX7_whyNot 26 = .ok (.iconst 0, 1) := by decide +kernel
theorem dX7_whyNot_27 : decode cX7_whyNot 27 = .ok (.ireturn, 1) := by decide +kernel
theorem dX7_fits_0 : decode cX7_fits 0 = .ok (.aload_n 0, 1) := by decide +kernel
theorem dX7_fits_1 : decode cX7_fits 1 = .ok (.iload_n 1, 1) := by decide +kernel
theorem dX7_fits_2 : decode cX7_fits 2 = .ok (.iload_n 2, 1) := by decide +kernel
theorem dX7_fits_3 : decode cX7_fits 3 = .ok (.invokevirtual 193, 3) := by decide +kernel
theorem dX7_fits_6 : decode cX7_fits 6 = .ok (.istore_n 3, 1) := by decide +kernel
theorem dX7_fits_7 : decode cX7_fits 7 = .ok (.iload_n 3, 1) := by decide +kernel
theorem dX7_fits_8 : decode cX7_fits 8 = .ok (.ifCond .lt 11, 3) := by decide +kernel
theorem dX7_fits_11 : decode cX7_fits 11 = .ok (.aload_n 0, 1) := by decide +kernel
theorem dX7_fits_12 : decode cX7_fits 12 = .ok (.iload_n 3, 1) := by decide +kernel
theorem dX7_fits_13 : decode cX7_fits 13 = .ok (.invokevirtual 128, 3) := by decide +kernel
theorem dX7_fits_16 : decode cX7_fits 16 = .ok (.goto 11, 3) := by decide +kernel
theorem dX7_fits_19 : decode cX7_fits 19 = .ok (.aload_n 0, 1) := by decide +kernel
theorem dX7_fits_20 : decode cX7_fits 20 = .ok (.iload_n 1, 1) := by decide +kernel
theorem dX7_fits_21 : decode cX7_fits 21 = .ok (.iload_n 2, 1) := by decide +kernel
theorem dX7_fits_22 : decode cX7_fits 22 = .ok (.iconst 1, 1) := by decide +kernel
theorem dX7_fits_23 : decode cX7_fits 23 = .ok (.iconst 5, 1) := by decide +kernel
theorem dX7_fits_24 : decode cX7_fits 24 = .ok (.invokevirtual 196, 3) := by decide +kernel
theorem dX7_fits_27 : decode cX7_fits 27 = .ok (.ireturn, 1) := by decide +kernel
theorem dX7_kinds_0 : decode cX7_kinds 0 = .ok (.aload_n 0, 1) := by decide +kernel
theorem dX7_kinds_1 : decode cX7_kinds 1 = .ok (.iload_n 1, 1) := by decide +kernel
theorem dX7_kinds_2 : decode cX7_kinds 2 = .ok (.iload_n 2, 1) := by decide +kernel
theorem dX7_kinds_3 : decode cX7_kinds 3 = .ok (.invokevirtual 193, 3) := by decide +kernel
theorem dX7_kinds_6 : decode cX7_kinds 6 = .ok (.istore_n 3, 1) := by decide +kernel
theorem dX7_kinds_7 : decode cX7_kinds 7 = .ok (.iload_n 3, 1) := by decide +kernel
theorem dX7_kinds_8 : decode cX7_kinds 8 = .ok (.ifCond .lt 11, 3) := by decide +kernel
theorem dX7_kinds_11 : decode cX7_kinds 11 = .ok (.aload_n 0, 1) := by decide +kernel
theorem dX7_kinds_12 : decode cX7_kinds 12 = .ok (.iload_n 3, 1) := by decide +kernel
theorem dX7_kinds_13 : decode cX7_kinds 13 = .ok (.invokevirtual 128, 3) := by decide +kernel
theorem dX7_kinds_16 : decode cX7_kinds 16 = .ok (.goto 12, 3) := by decide +kernel
theorem dX7_kinds_19 : decode cX7_kinds 19 = .ok (.aload_n 0, 1) := by decide +kernel
theorem dX7_kinds_20 : decode cX7_kinds 20 = .ok (.iload_n 1, 1) := by decide +kernel
theorem dX7_kinds_21 : decode cX7_kinds 21 = .ok (.iload_n 2, 1) := by decide +kernel
theorem dX7_kinds_22 : decode cX7_kinds 22 = .ok (.iconst 0, 1) := by decide +kernel
theorem dX7_kinds_23 : decode cX7_kinds 23 = .ok (.bipush 6, 2) := by decide +kernel
theorem dX7_kinds_25 : decode cX7_kinds 25 = .ok (.invokevirtual 196, 3) := by decide +kernel
theorem dX7_kinds_28 : decode cX7_kinds 28 = .ok (.ireturn, 1) := by decide +kernel
theorem dX7_drawOne_0 : decode cX7_drawOne 0 = .ok (.aload_n 0, 1) := by decide +kernel
theorem dX7_drawOne_1 : decode cX7_drawOne 1 = .ok (.getfield 7, 3) := by decide +kernel
theorem dX7_drawOne_4 : decode cX7_drawOne 4 = .ok (.iconst 2, 1) := by decide +kernel
theorem dX7_drawOne_5 : decode cX7_drawOne 5 = .ok (.aload_n 0, 1) := by decide +kernel
theorem dX7_drawOne_6 : decode cX7_drawOne 6 = .ok (.getfield 7, 3) := by decide +kernel
theorem dX7_drawOne_9 : decode cX7_drawOne 9 = .ok (.iconst 2, 1) := by decide +kernel
theorem dX7_drawOne_10 : decode cX7_drawOne 10 = .ok (.iaload, 1) := by decide +kernel
theorem dX7_drawOne_11 : decode cX7_drawOne 11 = .ok (.ldc 199, 2) := by decide +kernel
theorem dX7_drawOne_13 : decode cX7_drawOne 13 = .ok (.imul, 1) := by decide +kernel
theorem dX7_drawOne_14 : decode cX7_drawOne 14 = .ok (.sipush 12345, 3) := by decide +kernel
theorem dX7_drawOne_17 : decode cX7_drawOne 17 = .ok (.iadd, 1) := by decide +kernel
theorem dX7_drawOne_18 : decode cX7_drawOne 18 = .ok (.iastore, 1) := by decide +kernel
theorem dX7_drawOne_19 : decode cX7_drawOne 19 = .ok (.aload_n 0, 1) := by decide +kernel
theorem dX7_drawOne_20 : decode cX7_drawOne 20 = .ok (.getfield 7, 3) := by decide +kernel
theorem dX7_drawOne_23 : decode cX7_drawOne 23 = .ok (.iconst 2, 1) := by decide +kernel
theorem dX7_drawOne_24 : decode cX7_drawOne 24 = .ok (.iaload, 1) := by decide +kernel
theorem dX7_drawOne_25 : decode cX7_drawOne 25 = .ok (.bipush 8, 2) := by decide +kernel
theorem dX7_drawOne_27 : decode cX7_drawOne 27 = .ok (.iushr, 1) := by decide +kernel
theorem dX7_drawOne_28 : decode cX7_drawOne 28 = .ok (.ireturn, 1) := by decide +kernel
theorem dX7_talk_0 : decode cX7_talk 0 = .ok (.iload_n 1, 1) := by decide +kernel
theorem dX7_talk_1 : decode cX7_talk 1 = .ok (.i2l, 1) := by decide +kernel
theorem dX7_talk_2 : decode cX7_talk 2 = .ok (.lconst 1, 1) := by decide +kernel
theorem dX7_talk_3 : decode cX7_talk 3 = .ok (.ldc2_w 188, 3) := by decide +kernel
theorem dX7_talk_6 : decode cX7_talk 6 = .ok (.invokestatic 42, 3) := by decide +kernel
theorem dX7_talk_9 : decode cX7_talk 9 = .ok (.ifCond .ne 9, 3) := by decide +kernel
theorem dX7_talk_12 : decode cX7_talk 12 = .ok (.aload_n 0, 1) := by decide +kernel
theorem dX7_talk_13 : decode cX7_talk 13 = .ok (.iconst 0, 1) := by decide +kernel
theorem dX7_talk_14 : decode cX7_talk 14 = .ok (.invokevirtual 128, 3) := by decide +kernel
theorem dX7_talk_17 : decode cX7_talk 17 = .ok (.ireturn, 1) := by decide +kernel
theorem dX7_talk_18 : decode cX7_talk 18 = .ok (.aload_n 0, 1) := by decide +kernel
theorem dX7_talk_19 : decode cX7_talk 19 = .ok (.getfield 7, 3) := by decide +kernel
theorem dX7_talk_22 : decode cX7_talk 22 = .ok (.iconst 1, 1) := by decide +kernel
theorem dX7_talk_23 : decode cX7_talk 23 = .ok (.iaload, 1) := by decide +kernel
theorem dX7_talk_24 : decode cX7_talk 24 = .ok (.iload_n 1, 1) := by decide +kernel
theorem dX7_talk_25 : decode cX7_talk 25 = .ok (.iadd, 1) := by decide +kernel
theorem dX7_talk_26 : decode cX7_talk 26 = .ok (.ldc 112, 2) := by decide +kernel
theorem dX7_talk_28 : decode cX7_talk 28 = .ok (.if_icmp .le 9, 3) := by decide +kernel
theorem dX7_talk_31 : decode cX7_talk 31 = .ok (.aload_n 0, 1) := by decide +kernel
theorem dX7_talk_32 : decode cX7_talk 32 = .ok (.iconst 4, 1) := by decide +kernel
theorem dX7_talk_33 : decode cX7_talk 33 = .ok (.invokevirtual 128, 3) := by decide +kernel
theorem dX7_talk_36 : decode cX7_talk 36 = .ok (.ireturn, 1) := by decide +kernel
theorem dX7_talk_37 : decode cX7_talk 37 = .ok (.iconst 0, 1) := by decide +kernel
theorem dX7_talk_38 : decode cX7_talk 38 = .ok (.istore_n 2, 1) := by decide +kernel
theorem dX7_talk_39 : decode cX7_talk 39 = .ok (.iload_n 2, 1) := by decide +kernel
theorem dX7_talk_40 : decode cX7_talk 40 = .ok (.iload_n 1, 1) := by decide +kernel
theorem dX7_talk_41 : decode cX7_talk 41 = .ok (.if_icmp .ge 69, 3) := by decide +kernel
theorem dX7_talk_44 : decode cX7_talk 44 = .ok (.aload_n 0, 1) := by decide +kernel
theorem dX7_talk_45 : decode cX7_talk 45 = .ok (.invokevirtual 200, 3) := by decide +kernel
theorem dX7_talk_48 : decode cX7_talk 48 = .ok (.bipush 6, 2) := by decide +kernel
theorem dX7_talk_50 : decode cX7_talk 50 = .ok (.irem, 1) := by decide +kernel
theorem dX7_talk_51 : decode cX7_talk 51 = .ok (.istore_n 3, 1) := by decide +kernel
theorem dX7_talk_52 : decode cX7_talk 52 = .ok (.aload_n 0, 1) := by decide +kernel
theorem dX7_talk_53 : decode cX7_talk 53 = .ok (.invokevirtual 200, 3) := by decide +kernel
theorem dX7_talk_56 : decode cX7_talk 56 = .ok (.bipush 16, 2) := by decide +kernel
theorem dX7_talk_58 : decode cX7_talk 58 = .ok (.irem, 1) := by decide +kernel
theorem dX7_talk_59 : decode cX7_talk 59 = .ok (.istore 4, 2) := by decide +kernel
theorem dX7_talk_61 : decode cX7_talk 61 = .ok (.aload_n 0, 1) := by decide +kernel
theorem dX7_talk_62 : decode cX7_talk 62 = .ok (.invokevirtual 200, 3) := by decide +kernel
theorem dX7_talk_65 : decode cX7_talk 65 = .ok (.bipush 10, 2) := by decide +kernel
theorem dX7_talk_67 : decode cX7_talk 67 = .ok (.irem, 1) := by decide +kernel
theorem dX7_talk_68 : decode cX7_talk 68 = .ok (.istore 5, 2) := by decide +kernel
theorem dX7_talk_70 : decode cX7_talk 70 = .ok (.aload_n 0, 1) := by decide +kernel
theorem dX7_talk_71 : decode cX7_talk 71 = .ok (.getfield 7, 3) := by decide +kernel
theorem dX7_talk_74 : decode cX7_talk 74 = .ok (.iconst 3, 1) := by decide +kernel
theorem dX7_talk_75 : decode cX7_talk 75 = .ok (.aload_n 0, 1) := by decide +kernel
theorem dX7_talk_76 : decode cX7_talk 76 = .ok (.getfield 7, 3) := by decide +kernel
theorem dX7_talk_79 : decode cX7_talk 79 = .ok (.iconst 1, 1) := by decide +kernel
theorem dX7_talk_80 : decode cX7_talk 80 = .ok (.iaload, 1) := by decide +kernel
theorem dX7_talk_81 : decode cX7_talk 81 = .ok (.bipush 6, 2) := by decide +kernel
theorem dX7_talk_83 : decode cX7_talk 83 = .ok (.irem, 1) := by decide +kernel
theorem dX7_talk_84 : decode cX7_talk 84 = .ok (.iadd, 1) := by decide +kernel
theorem dX7_talk_85 : decode cX7_talk 85 = .ok (.sipush 1000, 3) := by decide +kernel
theorem dX7_talk_88 : decode cX7_talk 88 = .ok (.iload_n 3, 1) := by decide +kernel
theorem dX7_talk_89 : decode cX7_talk 89 = .ok (.imul, 1) := by decide +kernel
theorem dX7_talk_90 : decode cX7_talk 90 = .ok (.bipush 10, 2) := by decide +kernel
theorem dX7_talk_92 : decode cX7_talk 92 = .ok (.iload 4, 2) := by decide +kernel
theorem dX7_talk_94 : decode cX7_talk 94 = .ok (.imul, 1) := by decide +kernel
theorem dX7_talk_95 : decode cX7_talk 95 = .ok (.iadd, 1) := by decide +kernel
theorem dX7_talk_96 : decode cX7_talk 96 = .ok (.iload 5, 2) := by decide +kernel
theorem dX7_talk_98 : decode cX7_talk 98 = .ok (.iadd, 1) := by decide +kernel
theorem dX7_talk_99 : decode cX7_talk 99 = .ok (.iastore, 1) := by decide +kernel
theorem dX7_talk_100 : decode cX7_talk 100 = .ok (.aload_n 0, 1) := by decide +kernel
theorem dX7_talk_101 : decode cX7_talk 101 = .ok (.invokevirtual 113, 3) := by decide +kernel
theorem dX7_talk_104 : decode cX7_talk 104 = .ok (.iinc 2 1, 3) := by decide +kernel
theorem dX7_talk_107 : decode cX7_talk 107 = .ok (.goto (-68), 3) := by decide +kernel
theorem dX7_talk_110 : decode cX7_talk 110 = .ok (.aload_n 0, 1) := by decide +kernel
theorem dX7_talk_111 : decode cX7_talk 111 = .ok (.invokevirtual 155, 3) := by decide +kernel
theorem dX7_talk_114 : decode cX7_talk 114 = .ok (.ireturn, 1) := by decide +kernel
theorem dX7_odds_0 : decode cX7_odds 0 = .ok (.aload_n 0, 1) := by decide +kernel
theorem dX7_odds_1 : decode cX7_odds 1 = .ok (.iload_n 1, 1) := by decide +kernel
theorem dX7_odds_2 : decode cX7_odds 2 = .ok (.invokevirtual 138, 3) := by decide +kernel
theorem dX7_odds_5 : decode cX7_odds 5 = .ok (.ifCond .eq 25, 3) := by decide +kernel
theorem dX7_odds_8 : decode cX7_odds 8 = .ok (.iload_n 2, 1) := by decide +kernel
theorem dX7_odds_9 : decode cX7_odds 9 = .ok (.i2l, 1) := by decide +kernel
theorem dX7_odds_10 : decode cX7_odds 10 = .ok (.lconst 0, 1) := by decide +kernel
theorem dX7_odds_11 : decode cX7_odds 11 = .ok (.ldc2_w 46, 3) := by decide +kernel
theorem dX7_odds_14 : decode cX7_odds 14 = .ok (.invokestatic 42, 3) := by decide +kernel
theorem dX7_odds_17 : decode cX7_odds 17 = .ok (.ifCond .eq 13, 3) := by decide +kernel
theorem dX7_odds_20 : decode cX7_odds 20 = .ok (.iload_n 3, 1) := by decide +kernel
theorem dX7_odds_21 : decode cX7_odds 21 = .ok (.i2l, 1) := by decide +kernel
theorem dX7_odds_22 : decode cX7_odds 22 = .ok (.lconst 0, 1) := by decide +kernel
theorem dX7_odds_23 : decode cX7_odds 23 = .ok (.lconst 1, 1) := by decide +kernel
theorem dX7_odds_24 : decode cX7_odds 24 = .ok (.invokestatic 42, 3) := by decide +kernel
theorem dX7_odds_27 : decode cX7_odds 27 = .ok (.ifCond .ne 10, 3) := by decide +kernel
theorem dX7_odds_30 : decode cX7_odds 30 = .ok (.aload_n 0, 1) := by decide +kernel
theorem dX7_odds_31 : decode cX7_odds 31 = .ok (.iconst 0, 1) := by decide +kernel
theorem dX7_odds_32 : decode cX7_odds 32 = .ok (.invokevirtual 128, 3) := by decide +kernel
theorem dX7_odds_35 : decode cX7_odds 35 = .ok (.i2l, 1) := by decide +kernel
theorem dX7_odds_36 : decode cX7_odds 36 = .ok (.lreturn, 1) := by decide +kernel
theorem dX7_odds_37 : decode cX7_odds 37 = .ok (.aload_n 0, 1) := by decide +kernel
theorem dX7_odds_38 : decode cX7_odds 38 = .ok (.iload_n 1, 1) := by decide +kernel
theorem dX7_odds_39 : decode cX7_odds 39 = .ok (.iconst 5, 1) := by decide +kernel
theorem dX7_odds_40 : decode cX7_odds 40 = .ok (.invokevirtual 58, 3) := by decide +kernel
theorem dX7_odds_43 : decode cX7_odds 43 = .ok (.invokestatic 84, 3) := by decide +kernel
theorem dX7_odds_46 : decode cX7_odds 46 = .ok (.istore 4, 2) := by decide +kernel
theorem dX7_odds_48 : decode cX7_odds 48 = .ok (.bipush 16, 2) := by decide +kernel
theorem dX7_odds_50 : decode cX7_odds 50 = .ok (.istore 5, 2) := by decide +kernel
theorem dX7_odds_52 : decode cX7_odds 52 = .ok (.iload 4, 2) := by decide +kernel
theorem dX7_odds_54 : decode cX7_odds 54 = .ok (.iconst 2, 1) := by decide +kernel
theorem dX7_odds_55 : decode cX7_odds 55 = .ok (.irem, 1) := by decide +kernel
theorem dX7_odds_56 : decode cX7_odds 56 = .ok (.ifCond .ne 24, 3) := by decide +kernel
theorem dX7_odds_59 : decode cX7_odds 59 = .ok (.iload 5, 2) := by decide +kernel
theorem dX7_odds_61 : decode cX7_odds 61 = .ok (.iconst 1, 1) := by decide +kernel
theorem dX7_odds_62 : decode cX7_odds 62 = .ok (.if_icmp .le 18, 3) := by decide +kernel
theorem dX7_odds_65 : decode cX7_odds 65 = .ok (.iload 4, 2) := by decide +kernel
theorem dX7_odds_67 : decode cX7_odds 67 = .ok (.iconst 2, 1) := by decide +kernel
theorem dX7_odds_68 : decode cX7_odds 68 = .ok (.idiv, 1) := by decide +kernel
theorem dX7_odds_69 : decode cX7_odds 69 = .ok (.istore 4, 2) := by decide +kernel
theorem dX7_odds_71 : decode cX7_odds 71 = .ok (.iload 5, 2) := by decide +kernel
theorem dX7_odds_73 : decode cX7_odds 73 = .ok (.iconst 2, 1) := by decide +kernel
theorem dX7_odds_74 : decode cX7_odds 74 = .ok (.idiv, 1) := by decide +kernel
theorem dX7_odds_75 : decode cX7_odds 75 = .ok (.istore 5, 2) := by decide +kernel
theorem dX7_odds_77 : decode cX7_odds 77 = .ok (.goto (-25), 3) := by decide +kernel
theorem dX7_odds_80 : decode cX7_odds 80 = .ok (.lconst 1, 1) := by decide +kernel
theorem dX7_odds_81 : decode cX7_odds 81 = .ok (.lstore 6, 2) := by decide +kernel
theorem dX7_odds_83 : decode cX7_odds 83 = .ok (.iconst 0, 1) := by decide +kernel
theorem dX7_odds_84 : decode cX7_odds 84 = .ok (.istore 8, 2) := by decide +kernel
theorem dX7_odds_86 : decode cX7_odds 86 = .ok (.iload 8, 2) := by decide +kernel
theorem dX7_odds_88 : decode cX7_odds 88 = .ok (.iload_n 2, 1) := by decide +kernel
theorem dX7_odds_89 : decode cX7_odds 89 = .ok (.if_icmp .ge 27, 3) := by decide +kernel
theorem dX7_odds_92 : decode cX7_odds 92 = .ok (.lload 6, 2) := by decide +kernel
theorem dX7_odds_94 : decode cX7_odds 94 = .ok (.iload_n 3, 1) := by decide +kernel
theorem dX7_odds_95 : decode cX7_odds 95 = .ok (.ifCond .ne 9, 3) := by decide +kernel
theorem dX7_odds_98 : decode cX7_odds 98 = .ok (.iload 4, 2) := by decide +kernel
theorem dX7_odds_100 : decode cX7_odds 100 = .ok (.i2l, 1) := by decide +kernel
theorem dX7_odds_101 : decode cX7_odds 101 = .ok (.goto 6, 3) := by decide +kernel
theorem dX7_odds_104 : decode cX7_odds 104 = .ok (.iload 5, 2) := by decide +kernel
theorem dX7_odds_106 : decode cX7_odds 106 = .ok (.i2l, 1) := by decide +kernel
theorem dX7_odds_107 : decode cX7_odds 107 = .ok (.lmul, 1) := by decide +kernel
theorem dX7_odds_108 : decode cX7_odds 108 = .ok (.lstore 6, 2) := by decide +kernel
theorem dX7_odds_110 : decode cX7_odds 110 = .ok (.iinc 8 1, 3) := by decide +kernel
theorem dX7_odds_113 : decode cX7_odds 113 = .ok (.goto (-27), 3) := by decide +kernel
theorem dX7_odds_116 : decode cX7_odds 116 = .ok (.lload 6, 2) := by decide +kernel
theorem dX7_odds_118 : decode cX7_odds 118 = .ok (.lreturn, 1) := by decide +kernel
theorem dX7_seed_0 : decode cX7_seed 0 = .ok (.aload_n 0, 1) := by decide +kernel
theorem dX7_seed_1 : decode cX7_seed 1 = .ok (.iconst 2, 1) := by decide +kernel
theorem dX7_seed_2 : decode cX7_seed 2 = .ok (.iload_n 1, 1) := by decide +kernel
theorem dX7_seed_3 : decode cX7_seed 3 = .ok (.invokevirtual 125, 3) := by decide +kernel
theorem dX7_seed_6 : decode cX7_seed 6 = .ok (.ireturn, 1) := by decide +kernel
theorem dX7_feed_0 : decode cX7_feed 0 = .ok (.iload_n 2, 1) := by decide +kernel
theorem dX7_feed_1 : decode cX7_feed 1 = .ok (.i2l, 1) := by decide +kernel
theorem dX7_feed_2 : decode cX7_feed 2 = .ok (.lconst 1, 1) := by decide +kernel
theorem dX7_feed_3 : decode cX7_feed 3 = .ok (.ldc2_w 203, 3) := by decide +kernel
theorem dX7_feed_6 : decode cX7_feed 6 = .ok (.invokestatic 42, 3) := by decide +kernel
theorem dX7_feed_9 : decode cX7_feed 9 = .ok (.ifCond .ne 9, 3) := by decide +kernel
theorem dX7_feed_12 : decode cX7_feed 12 = .ok (.aload_n 0, 1) := by decide +kernel
theorem dX7_feed_13 : decode cX7_feed 13 = .ok (.iconst 0, 1) := by decide +kernel
theorem dX7_feed_14 : decode cX7_feed 14 = .ok (.invokevirtual 128, 3) := by decide +kernel
theorem dX7_feed_17 : decode cX7_feed 17 = .ok (.ireturn, 1) := by decide +kernel
theorem dX7_feed_18 : decode cX7_feed 18 = .ok (.aload_n 0, 1) := by decide +kernel
theorem dX7_feed_19 : decode cX7_feed 19 = .ok (.getfield 205, 3) := by decide +kernel
theorem dX7_feed_22 : decode cX7_feed 22 = .ok (.iload_n 2, 1) := by decide +kernel
theorem dX7_feed_23 : decode cX7_feed 23 = .ok (.iadd, 1) := by decide +kernel
theorem dX7_feed_24 : decode cX7_feed 24 = .ok (.bipush 120, 2) := by decide +kernel
theorem dX7_feed_26 : decode cX7_feed 26 = .ok (.if_icmp .le 9, 3) := by decide +kernel
theorem dX7_feed_29 : decode cX7_feed 29 = .ok (.aload_n 0, 1) := by decide +kernel
theorem dX7_feed_30 : decode cX7_feed 30 = .ok (.iconst 1, 1) := by decide +kernel
theorem dX7_feed_31 : decode cX7_feed 31 = .ok (.invokevirtual 128, 3) := by decide +kernel
theorem dX7_feed_34 : decode cX7_feed 34 = .ok (.ireturn, 1) := by decide +kernel
theorem dX7_feed_35 : decode cX7_feed 35 = .ok (.iload_n 2, 1) := by decide +kernel
theorem dX7_feed_36 : decode cX7_feed 36 = .ok (.iconst 1, 1) := by decide +kernel
theorem dX7_feed_37 : decode cX7_feed 37 = .ok (.isub, 1) := by decide +kernel
theorem dX7_feed_38 : decode cX7_feed 38 = .ok (.istore_n 3, 1) := by decide +kernel
theorem dX7_feed_39 : decode cX7_feed 39 = .ok (.iload_n 3, 1) := by decide +kernel
theorem dX7_feed_40 : decode cX7_feed 40 = .ok (.ifCond .lt 35, 3) := by decide +kernel
theorem dX7_feed_43 : decode cX7_feed 43 = .ok (.aload_n 0, 1) := by decide +kernel
theorem dX7_feed_44 : decode cX7_feed 44 = .ok (.getfield 25, 3) := by decide +kernel
theorem dX7_feed_47 : decode cX7_feed 47 = .ok (.aload_n 0, 1) := by decide +kernel
theorem dX7_feed_48 : decode cX7_feed 48 = .ok (.getfield 205, 3) := by decide +kernel
theorem dX7_feed_51 : decode cX7_feed 51 = .ok (.iload_n 1, 1) := by decide +kernel
theorem dX7_feed_52 : decode cX7_feed 52 = .ok (.bipush 8, 2) := by decide +kernel
theorem dX7_feed_54 : decode cX7_feed 54 = .ok (.iload_n 3, 1) := by decide +kernel
theorem dX7_feed_55 : decode cX7_feed 55 = .ok (.imul, 1) := by decide +kernel
theorem dX7_feed_56 : decode cX7_feed 56 = .ok (.ishr, 1) := by decide +kernel
theorem dX7_feed_57 : decode cX7_feed 57 = .ok (.i2b, 1) := by decide +kernel
theorem dX7_feed_58 : decode cX7_feed 58 = .ok (.bastore, 1) := by decide +kernel
theorem dX7_feed_59 : decode cX7_feed 59 = .ok (.aload_n 0, 1) := by decide +kernel
theorem dX7_feed_60 : decode cX7_feed 60 = .ok (.dup, 1) := by decide +kernel
theorem dX7_feed_61 : decode cX7_feed 61 = .ok (.getfield 205, 3) := by decide +kernel
theorem dX7_feed_64 : decode cX7_feed 64 = .ok (.iconst 1, 1) := by decide +kernel
theorem dX7_feed_65 : decode cX7_feed 65 = .ok (.iadd, 1) := by decide +kernel
theorem dX7_feed_66 : decode cX7_feed 66 = .ok (.putfield 205, 3) := by decide +kernel
theorem dX7_feed_69 : decode cX7_feed 69 = .ok (.iinc 3 (-1), 3) := by decide +kernel
theorem dX7_feed_72 : decode cX7_feed 72 = .ok (.goto (-33), 3) := by decide +kernel
theorem dX7_feed_75 : decode cX7_feed 75 = .ok (.aload_n 0, 1) := by decide +kernel
theorem dX7_feed_76 : decode cX7_feed 76 = .ok (.getfield 205, 3) := by decide +kernel
theorem dX7_feed_79 : decode cX7_feed 79 = .ok (.ireturn, 1) := by decide +kernel
theorem dX7_wipe_0 : decode cX7_wipe 0 = .ok (.aload_n 0, 1) := by decide +kernel
theorem dX7_wipe_1 : decode cX7_wipe 1 = .ok (.getfield 205, 3) := by decide +kernel
theorem dX7_wipe_4 : decode cX7_wipe 4 = .ok (.istore_n 1, 1) := by decide +kernel
theorem dX7_wipe_5 : decode cX7_wipe 5 = .ok (.aload_n 0, 1) := by decide +kernel
theorem dX7_wipe_6 : decode cX7_wipe 6 = .ok (.iconst 0, 1) := by decide +kernel
theorem dX7_wipe_7 : decode cX7_wipe 7 = .ok (.putfield 205, 3) := by decide +kernel
theorem dX7_wipe_10 : decode cX7_wipe 10 = .ok (.iload_n 1, 1) := by decide +kernel
theorem dX7_wipe_11 : decode cX7_wipe 11 = .ok (.ireturn, 1) := by decide +kernel
theorem dX7_letter_0 : decode cX7_letter 0 = .ok (.iload_n 0, 1) := by decide +kernel
theorem dX7_letter_1 : decode cX7_letter 1 = .ok (.bipush 97, 2) := by decide +kernel
theorem dX7_letter_3 : decode cX7_letter 3 = .ok (.if_icmp .lt 18, 3) := by decide +kernel
theorem dX7_letter_6 : decode cX7_letter 6 = .ok (.iload_n 0, 1) := by decide +kernel
theorem dX7_letter_7 : decode cX7_letter 7 = .ok (.bipush 122, 2) := by decide +kernel
theorem dX7_letter_9 : decode cX7_letter 9 = .ok (.if_icmp .gt 12, 3) := by decide +kernel
theorem dX7_letter_12 : decode cX7_letter 12 = .ok (.iload_n 0, 1) := by decide +kernel
theorem dX7_letter_13 : decode cX7_letter 13 = .ok (.bipush 97, 2) := by decide +kernel
theorem dX7_letter_15 : decode cX7_letter 15 = .ok (.isub, 1) := by decide +kernel
theorem dX7_letter_16 : decode cX7_letter 16 = .ok (.iconst 1, 1) := by decide +kernel
theorem dX7_letter_17 : decode cX7_letter 17 = .ok (.iadd, 1) := by decide +kernel
theorem dX7_letter_18 : decode cX7_letter 18 = .ok (.goto 4, 3) := by decide +kernel
theorem dX7_letter_21 : decode cX7_letter 21 = .ok (.iconst 0, 1) := by decide +kernel
theorem dX7_letter_22 : decode cX7_letter 22 = .ok (.ireturn, 1) := by decide +kernel
theorem dX7_isDigit_0 : decode cX7_isDigit 0 = .ok (.iload_n 0, 1) := by decide +kernel
theorem dX7_isDigit_1 : decode cX7_isDigit 1 = .ok (.bipush 48, 2) := by decide +kernel
theorem dX7_isDigit_3 : decode cX7_isDigit 3 = .ok (.if_icmp .lt 13, 3) := by decide +kernel
theorem dX7_isDigit_6 : decode cX7_isDigit 6 = .ok (.iload_n 0, 1) := by decide +kernel
theorem dX7_isDigit_7 : decode cX7_isDigit 7 = .ok (.bipush 57, 2) := by decide +kernel
theorem dX7_isDigit_9 : decode cX7_isDigit 9 = .ok (.if_icmp .gt 7, 3) := by decide +kernel
theorem dX7_isDigit_12 : decode cX7_isDigit 12 = .ok (.iconst 1, 1) := by decide +kernel
theorem dX7_isDigit_13 : decode cX7_isDigit 13 = .ok (.goto 4, 3) := by decide +kernel
theorem dX7_isDigit_16 : decode cX7_isDigit 16 = .ok (.iconst 0, 1) := by decide +kernel
theorem dX7_isDigit_17 : decode cX7_isDigit 17 = .ok (.ireturn, 1) := by decide +kernel
theorem dX7_byteAt_0 : decode cX7_byteAt 0 = .ok (.iload_n 1, 1) := by decide +kernel
theorem dX7_byteAt_1 : decode cX7_byteAt 1 = .ok (.aload_n 0, 1) := by decide +kernel
theorem dX7_byteAt_2 : decode cX7_byteAt 2 = .ok (.getfield 205, 3) := by decide +kernel
theorem dX7_byteAt_5 : decode cX7_byteAt 5 = .ok (.if_icmp .ge 12, 3) := by decide +kernel
theorem dX7_byteAt_8 : decode cX7_byteAt 8 = .ok (.aload_n 0, 1) := by decide +kernel
theorem dX7_byteAt_9 : decode cX7_byteAt 9 = .ok (.getfield 25, 3) := by decide +kernel
theorem dX7_byteAt_12 : decode cX7_byteAt 12 = .ok (.iload_n 1, 1) := by decide +kernel
theorem dX7_byteAt_13 : decode cX7_byteAt 13 = .ok (.baload, 1) := by decide +kernel
theorem dX7_byteAt_14 : decode cX7_byteAt 14 = .ok (.goto 4, 3) := by decide +kernel
theorem dX7_byteAt_17 : decode cX7_byteAt 17 = .ok (.iconst (-1), 1) := by decide +kernel
theorem dX7_byteAt_18 : decode cX7_byteAt 18 = .ok (.ireturn, 1) := by decide +kernel
theorem dX7_next_0 : decode cX7_next 0 = .ok (.aload_n 0, 1) := by decide +kernel
theorem dX7_next_1 : decode cX7_next 1 = .ok (.aload_n 0, 1) := by decide +kernel
theorem dX7_next_2 : decode cX7_next 2 = .ok (.getfield 208, 3) := by decide +kernel
theorem dX7_next_5 : decode cX7_next 5 = .ok (.invokevirtual 211, 3) := by decide +kernel
theorem dX7_next_8 : decode cX7_next 8 = .ok (.bipush 32, 2) := by decide +kernel
theorem dX7_next_10 : decode cX7_next 10 = .ok (.if_icmp .ne 16, 3) := by decide +kernel
theorem dX7_next_13 : decode cX7_next 13 = .ok (.aload_n 0, 1) := by decide +kernel
theorem dX7_next_14 : decode cX7_next 14 = .ok (.dup, 1) := by decide +kernel
theorem dX7_next_15 : decode cX7_next 15 = .ok (.getfield 208, 3) := by decide +kernel
theorem dX7_next_18 : decode cX7_next 18 = .ok (.iconst 1, 1) := by decide +kernel
theorem dX7_next_19 : decode cX7_next 19 = .ok (.iadd, 1) := by decide +kernel
theorem dX7_next_20 : decode cX7_next 20 = .ok (.putfield 208, 3) := by decide +kernel
theorem dX7_next_23 : decode cX7_next 23 = .ok (.goto (-23), 3) := by decide +kernel
theorem dX7_next_26 : decode cX7_next 26 = .ok (.aload_n 0, 1) := by decide +kernel
theorem dX7_next_27 : decode cX7_next 27 = .ok (.aload_n 0, 1) := by decide +kernel
theorem dX7_next_28 : decode cX7_next 28 = .ok (.getfield 208, 3) := by decide +kernel
theorem dX7_next_31 : decode cX7_next 31 = .ok (.putfield 214, 3) := by decide +kernel
theorem dX7_next_34 : decode cX7_next 34 = .ok (.aload_n 0, 1) := by decide +kernel
theorem dX7_next_35 : decode cX7_next 35 = .ok (.lconst 0, 1) := by decide +kernel
theorem dX7_next_36 : decode cX7_next 36 = .ok (.putfield 217, 3) := by decide +kernel
theorem dX7_next_39 : decode cX7_next 39 = .ok (.aload_n 0, 1) := by decide +kernel
theorem dX7_next_40 : decode cX7_next 40 = .ok (.aload_n 0, 1) := by decide +kernel
theorem dX7_next_41 : decode cX7_next 41 = .ok (.getfield 208, 3) := by decide +kernel
theorem dX7_next_44 : decode cX7_next 44 = .ok (.invokevirtual 211, 3) := by decide +kernel
theorem dX7_next_47 : decode cX7_next 47 = .ok (.istore_n 1, 1) := by decide +kernel
theorem dX7_next_48 : decode cX7_next 48 = .ok (.aload_n 0, 1) := by decide +kernel
theorem dX7_next_49 : decode cX7_next 49 = .ok (.getfield 208, 3) := by decide +kernel
theorem dX7_next_52 : decode cX7_next 52 = .ok (.aload_n 0, 1) := by decide +kernel
theorem dX7_next_53 : decode cX7_next 53 = .ok (.getfield 205, 3) := by decide +kernel
theorem dX7_next_56 : decode cX7_next 56 = .ok (.if_icmp .ne 11, 3) := by decide +kernel
theorem dX7_next_59 : decode cX7_next 59 = .ok (.aload_n 0, 1) := by decide +kernel
theorem dX7_next_60 : decode cX7_next 60 = .ok (.iconst 0, 1) := by decide +kernel
theorem dX7_next_61 : decode cX7_next 61 = .ok (.putfield 221, 3) := by decide +kernel
theorem dX7_next_64 : decode cX7_next 64 = .ok (.goto 197, 3) := by decide +kernel
theorem dX7_next_67 : decode cX7_next 67 = .ok (.iload_n 1, 1) := by decide +kernel
theorem dX7_next_68 : decode cX7_next 68 = .ok (.bipush 59, 2) := by decide +kernel
theorem dX7_next_70 : decode cX7_next 70 = .ok (.if_icmp .ne 21, 3) := by decide +kernel
theorem dX7_next_73 : decode cX7_next 73 = .ok (.aload_n 0, 1) := by decide +kernel
theorem dX7_next_74 : decode cX7_next 74 = .ok (.iconst 3, 1) := by decide +kernel
theorem dX7_next_75 : decode cX7_next 75 = .ok (.putfield 221, 3) := by decide +kernel
theorem dX7_next_78 : decode cX7_next 78 = .ok (.aload_n 0, 1) := by decide +kernel
theorem dX7_next_79 : decode cX7_next 79 = .ok (.dup, 1) := by decide +kernel
theorem dX7_next_80 : decode cX7_next 80 = .ok (.getfield 208, 3) := by decide +kernel
theorem dX7_next_83 : decode cX7_next 83 = .ok (.iconst 1, 1) := by decide +kernel
theorem dX7_next_84 : decode cX7_next 84 = .ok (.iadd, 1) := by decide +kernel
theorem dX7_next_85 : decode cX7_next 85 = .ok (.putfield 208, 3) := by decide +kernel
theorem dX7_next_88 : decode cX7_next 88 = .ok (.goto 173, 3) := by decide +kernel
theorem dX7_next_91 : decode cX7_next 91 = .ok (.iload_n 1, 1) := by decide +kernel
theorem dX7_next_92 : decode cX7_next 92 = .ok (.invokestatic 224, 3) := by decide +kernel
theorem dX7_next_95 : decode cX7_next 95 = .ok (.ifCond .le 78, 3) := by decide +kernel
theorem dX7_next_98 : decode cX7_next 98 = .ok (.aload_n 0, 1) := by decide +kernel
theorem dX7_next_99 : decode cX7_next 99 = .ok (.iconst 1, 1) := by decide +kernel
theorem dX7_next_100 : decode cX7_next 100 = .ok (.putfield 221, 3) := by decide +kernel
theorem dX7_next_103 : decode cX7_next 103 = .ok (.aload_n 0, 1) := by decide +kernel
theorem dX7_next_104 : decode cX7_next 104 = .ok (.aload_n 0, 1) := by decide +kernel
theorem dX7_next_105 : decode cX7_next 105 = .ok (.getfield 208, 3) := by decide +kernel
theorem dX7_next_108 : decode cX7_next 108 = .ok (.invokevirtual 211, 3) := by decide +kernel
theorem dX7_next_111 : decode cX7_next 111 = .ok (.invokestatic 224, 3) := by decide +kernel
theorem dX7_next_114 : decode cX7_next 114 = .ok (.ifCond .le 147, 3) := by decide +kernel
theorem dX7_next_117 : decode cX7_next 117 = .ok (.aload_n 0, 1) := by decide +kernel
theorem dX7_next_118 : decode cX7_next 118 = .ok (.aload_n 0, 1) := by decide +kernel
theorem dX7_next_119 : decode cX7_next 119 = .ok (.getfield 217, 3) := by decide +kernel
theorem dX7_next_122 : decode cX7_next 122 = .ok (.ldc2_w 227, 3) := by decide +kernel
theorem dX7_next_125 : decode cX7_next 125 = .ok (.lcmp, 1) := by decide +kernel
theorem dX7_next_126 : decode cX7_next 126 = .ok (.ifCond .le 10, 3) := by decide +kernel
theorem dX7_next_129 : decode cX7_next 129 = .ok (.aload_n 0, 1) := by decide +kernel
theorem dX7_next_130 : decode cX7_next 130 = .ok (.getfield 217, 3) := by decide +kernel
theorem dX7_next_133 : decode cX7_next 133 = .ok (.goto 24, 3) := by decide +kernel
theorem dX7_next_136 : decode cX7_next 136 = .ok (.aload_n 0, 1) := by decide +kernel
theorem dX7_next_137 : decode cX7_next 137 = .ok (.getfield 217, 3) := by decide +kernel
theorem dX7_next_140 : decode cX7_next 140 = .ok (.ldc2_w 229, 3) := by decide +kernel
theorem dX7_next_143 : decode cX7_next 143 = .ok (.lmul, 1) := by decide +kernel
theorem dX7_next_144 : decode cX7_next 144 = .ok (.aload_n 0, 1) := by decide +kernel
theorem dX7_next_145 : decode cX7_next 145 = .ok (.aload_n 0, 1) := by decide +kernel
theorem dX7_next_146 : decode cX7_next 146 = .ok (.getfield 208, 3) := by decide +kernel
theorem dX7_next_149 : decode cX7_next 149 = .ok (.invokevirtual 211, 3) := by decide +kernel
theorem dX7_next_152 : decode cX7_next 152 = .ok (.invokestatic 224, 3) := by decide +kernel
theorem dX7_next_155 : decode cX7_next 155 = .ok (.i2l, 1) := by decide +kernel
theorem dX7_next_156 : decode cX7_next 156 = .ok (.ladd, 1) := by decide +kernel
theorem dX7_next_157 : decode cX7_next 157 = .ok (.putfield 217, 3) := by decide +kernel
theorem dX7_next_160 : decode cX7_next 160 = .ok (.aload_n 0, 1) := by decide +kernel
theorem dX7_next_161 : decode cX7_next 161 = .ok (.dup, 1) := by decide +kernel
theorem dX7_next_162 : decode cX7_next 162 = .ok (.getfield 208, 3) := by decide +kernel
theorem dX7_next_165 : decode cX7_next 165 = .ok (.iconst 1, 1) := by decide +kernel
theorem dX7_next_166 : decode cX7_next 166 = .ok (.iadd, 1) := by decide +kernel
theorem dX7_next_167 : decode cX7_next 167 = .ok (.putfield 208, 3) := by decide +kernel
theorem dX7_next_170 : decode cX7_next 170 = .ok (.goto (-67), 3) := by decide +kernel
theorem dX7_next_173 : decode cX7_next 173 = .ok (.iload_n 1, 1) := by decide +kernel
theorem dX7_next_174 : decode cX7_next 174 = .ok (.invokestatic 231, 3) := by decide +kernel
theorem dX7_next_177 : decode cX7_next 177 = .ok (.ifCond .eq 79, 3) := by decide +kernel
theorem dX7_next_180 : decode cX7_next 180 = .ok (.aload_n 0, 1) := by decide +kernel
theorem dX7_next_181 : decode cX7_next 181 = .ok (.iconst 2, 1) := by decide +kernel
theorem dX7_next_182 : decode cX7_next 182 = .ok (.putfield 221, 3) := by decide +kernel
theorem dX7_next_185 : decode cX7_next 185 = .ok (.aload_n 0, 1) := by decide +kernel
theorem dX7_next_186 : decode cX7_next 186 = .ok (.aload_n 0, 1) := by decide +kernel
theorem dX7_next_187 : decode cX7_next 187 = .ok (.getfield 208, 3) := by decide +kernel
theorem dX7_next_190 : decode cX7_next 190 = .ok (.invokevirtual 211, 3) := by decide +kernel
theorem dX7_next_193 : decode cX7_next 193 = .ok (.invokestatic 231, 3) := by decide +kernel
theorem dX7_next_196 : decode cX7_next 196 = .ok (.ifCond .eq 65, 3) := by decide +kernel
theorem dX7_next_199 : decode cX7_next 199 = .ok (.aload_n 0, 1) := by decide +kernel
theorem dX7_next_200 : decode cX7_next 200 = .ok (.aload_n 0, 1) := by decide +kernel
theorem dX7_next_201 : decode cX7_next 201 = .ok (.getfield 217, 3) := by decide +kernel
theorem dX7_next_204 : decode cX7_next 204 = .ok (.ldc2_w 234, 3) := by decide +kernel
theorem dX7_next_207 : decode cX7_next 207 = .ok (.lcmp, 1) := by decide +kernel
theorem dX7_next_208 : decode cX7_next 208 = .ok (.ifCond .le 10, 3) := by decide +kernel
theorem dX7_next_211 : decode cX7_next 211 = .ok (.aload_n 0, 1) := by decide +kernel
theorem dX7_next_212 : decode cX7_next 212 = .ok (.getfield 217, 3) := by decide +kernel
theorem dX7_next_215 : decode cX7_next 215 = .ok (.goto 25, 3) := by decide +kernel
theorem dX7_next_218 : decode cX7_next 218 = .ok (.aload_n 0, 1) := by decide +kernel
theorem dX7_next_219 : decode cX7_next 219 = .ok (.getfield 217, 3) := by decide +kernel
theorem dX7_next_222 : decode cX7_next 222 = .ok (.ldc2_w 141, 3) := by decide +kernel
theorem dX7_next_225 : decode cX7_next 225 = .ok (.lmul, 1) := by decide +kernel
theorem dX7_next_226 : decode cX7_next 226 = .ok (.aload_n 0, 1) := by decide +kernel
theorem dX7_next_227 : decode cX7_next 227 = .ok (.aload_n 0, 1) := by decide +kernel
theorem dX7_next_228 : decode cX7_next 228 = .ok (.getfield 208, 3) := by decide +kernel
theorem dX7_next_231 : decode cX7_next 231 = .ok (.invokevirtual 211, 3) := by decide +kernel
theorem dX7_next_234 : decode cX7_next 234 = .ok (.i2l, 1) := by decide +kernel
theorem dX7_next_235 : decode cX7_next 235 = .ok (.ladd, 1) := by decide +kernel
theorem dX7_next_236 : decode cX7_next 236 = .ok (.ldc2_w 236, 3) := by decide +kernel
theorem dX7_next_239 : decode cX7_next 239 = .ok (.lsub, 1) := by decide +kernel
theorem dX7_next_240 : decode cX7_next 240 = .ok (.putfield 217, 3) := by decide +kernel
theorem dX7_next_243 : decode cX7_next 243 = .ok (.aload_n 0, 1) := by decide +kernel
theorem dX7_next_244 : decode cX7_next 244 = .ok (.dup, 1) := by decide +kernel
theorem dX7_next_245 : decode cX7_next 245 = .ok (.getfield 208, 3) := by decide +kernel
theorem dX7_next_248 : decode cX7_next 248 = .ok (.iconst 1, 1) := by decide +kernel
theorem dX7_next_249 : decode cX7_next 249 = .ok (.iadd, 1) := by decide +kernel
theorem dX7_next_250 : decode cX7_next 250 = .ok (.putfield 208, 3) := by decide +kernel
theorem dX7_next_253 : decode cX7_next 253 = .ok (.goto (-68), 3) := by decide +kernel
theorem dX7_next_256 : decode cX7_next 256 = .ok (.aload_n 0, 1) := by decide +kernel
theorem dX7_next_257 : decode cX7_next 257 = .ok (.iconst 4, 1) := by decide +kernel
theorem dX7_next_258 : decode cX7_next 258 = .ok (.putfield 221, 3) := by decide +kernel
theorem dX7_next_261 : decode cX7_next 261 = .ok (.return_, 1) := by decide +kernel
theorem dX7_wrongHere_0 : decode cX7_wrongHere 0 = .ok (.aload_n 0, 1) := by decide +kernel
theorem dX7_wrongHere_1 : decode cX7_wrongHere 1 = .ok (.aload_n 0, 1) := by decide +kernel
theorem dX7_wrongHere_2 : decode cX7_wrongHere 2 = .ok (.getfield 238, 3) := by decide +kernel
theorem dX7_wrongHere_5 : decode cX7_wrongHere 5 = .ok (.ifCond .ge 10, 3) := by decide +kernel
theorem dX7_wrongHere_8 : decode cX7_wrongHere 8 = .ok (.aload_n 0, 1) := by decide +kernel
theorem dX7_wrongHere_9 : decode cX7_wrongHere 9 = .ok (.getfield 214, 3) := by decide +kernel
theorem dX7_wrongHere_12 : decode cX7_wrongHere 12 = .ok (.goto 7, 3) := by decide +kernel
theorem dX7_wrongHere_15 : decode cX7_wrongHere 15 = .ok (.aload_n 0, 1) := by decide +kernel
theorem dX7_wrongHere_16 : decode cX7_wrongHere 16 = .ok (.getfield 238, 3) := by decide +kernel
theorem dX7_wrongHere_19 : decode cX7_wrongHere 19 = .ok (.putfield 238, 3) := by decide +kernel
theorem dX7_wrongHere_22 : decode cX7_wrongHere 22 = .ok (.return_, 1) := by decide +kernel
theorem dX7_isWord_0 : decode cX7_isWord 0 = .ok (.aload_n 0, 1) := by decide +kernel
theorem dX7_isWord_1 : decode cX7_isWord 1 = .ok (.getfield 221, 3) := by decide +kernel
theorem dX7_isWord_4 : decode cX7_isWord 4 = .ok (.iconst 1, 1) := by decide +kernel
theorem dX7_isWord_5 : decode cX7_isWord 5 = .ok (.if_icmp .ne 16, 3) := by decide +kernel
theorem dX7_isWord_8 : decode cX7_isWord 8 = .ok (.aload_n 0, 1) := by decide +kernel
theorem dX7_isWord_9 : decode cX7_isWord 9 = .ok (.getfield 217, 3) := by decide +kernel
theorem dX7_isWord_12 : decode cX7_isWord 12 = .ok (.lload_n 1, 1) := by decide +kernel
theorem dX7_isWord_13 : decode cX7_isWord 13 = .ok (.lcmp, 1) := by decide +kernel
theorem dX7_isWord_14 : decode cX7_isWord 14 = .ok (.ifCond .ne 7, 3) := by decide +kernel
theorem dX7_isWord_17 : decode cX7_isWord 17 = .ok (.iconst 1, 1) := by decide +kernel
theorem dX7_isWord_18 : decode cX7_isWord 18 = .ok (.goto 4, 3) := by decide +kernel
theorem dX7_isWord_21 : decode cX7_isWord 21 = .ok (.iconst 0, 1) := by decide +kernel
theorem dX7_isWord_22 : decode cX7_isWord 22 = .ok (.ireturn, 1) := by decide +kernel
theorem dX7_kindHere_0 : decode cX7_kindHere 0 = .ok (.aload_n 0, 1) := by decide +kernel
theorem dX7_kindHere_1 : decode cX7_kindHere 1 = .ok (.ldc2_w 241, 3) := by decide +kernel
theorem dX7_kindHere_4 : decode cX7_kindHere 4 = .ok (.invokevirtual 243, 3) := by decide +kernel
theorem dX7_kindHere_7 : decode cX7_kindHere 7 = .ok (.ifCond .eq 7, 3) := by decide +kernel
theorem dX7_kindHere_10 : decode cX7_kindHere 10 = .ok (.iconst 0, 1) := by decide +kernel
theorem dX7_kindHere_11 : decode cX7_kindHere 11 = .ok (.goto 89, 3) := by decide +kernel
theorem dX7_kindHere_14 : decode cX7_kindHere 14 = .ok (.aload_n 0, 1) := by decide +kernel
theorem dX7_kindHere_15 : decode cX7_kindHere 15 = .ok (.ldc2_w 247, 3) := by decide +kernel
theorem dX7_kindHere_18 : decode cX7_kindHere 18 = .ok (.invokevirtual 243, 3) := by decide +kernel
theorem dX7_kindHere_21 : decode cX7_kindHere 21 = .ok (.ifCond .eq 7, 3) := by decide +kernel
theorem dX7_kindHere_24 : decode cX7_kindHere 24 = .ok (.iconst 1, 1) := by decide +kernel
theorem dX7_kindHere_25 : decode cX7_kindHere 25 = .ok (.goto 75, 3) := by decide +kernel
theorem dX7_kindHere_28 : decode cX7_kindHere 28 = .ok (.aload_n 0, 1) := by decide +kernel
theorem dX7_kindHere_29 : decode cX7_kindHere 29 = .ok (.ldc2_w 249, 3) := by decide +kernel
theorem dX7_kindHere_32 : decode cX7_kindHere 32 = .ok (.invokevirtual 243, 3) := by decide +kernel
theorem dX7_kindHere_35 : decode cX7_kindHere 35 = .ok (.ifCond .eq 7, 3) := by decide +kernel
theorem dX7_kindHere_38 : decode cX7_kindHere 38 = .ok (.iconst 2, 1) := by decide +kernel
theorem dX7_kindHere_39 : decode cX7_kindHere 39 = .ok (.goto 61, 3) := by decide +kernel
theorem dX7_kindHere_42 : decode cX7_kindHere 42 = .ok (.aload_n 0, 1) := by decide +kernel
theorem dX7_kindHere_43 : decode cX7_kindHere 43 = .ok (.ldc2_w 251, 3) := by decide +kernel
theorem dX7_kindHere_46 : decode cX7_kindHere 46 = .ok (.invokevirtual 243, 3) := by decide +kernel
theorem dX7_kindHere_49 : decode cX7_kindHere 49 = .ok (.ifCond .eq 7, 3) := by decide +kernel
theorem dX7_kindHere_52 : decode cX7_kindHere 52 = .ok (.iconst 3, 1) := by decide +kernel
theorem dX7_kindHere_53 : decode cX7_kindHere 53 = .ok (.goto 47, 3) := by decide +kernel
theorem dX7_kindHere_56 : decode cX7_kindHere 56 = .ok (.aload_n 0, 1) := by decide +kernel
theorem dX7_kindHere_57 : decode cX7_kindHere 57 = .ok (.ldc2_w 253, 3) := by decide +kernel
theorem dX7_kindHere_60 : decode cX7_kindHere 60 = .ok (.invokevirtual 243, 3) := by decide +kernel
theorem dX7_kindHere_63 : decode cX7_kindHere 63 = .ok (.ifCond .eq 7, 3) := by decide +kernel
theorem dX7_kindHere_66 : decode cX7_kindHere 66 = .ok (.iconst 4, 1) := by decide +kernel
theorem dX7_kindHere_67 : decode cX7_kindHere 67 = .ok (.goto 33, 3) := by decide +kernel
theorem dX7_kindHere_70 : decode cX7_kindHere 70 = .ok (.aload_n 0, 1) := by decide +kernel
theorem dX7_kindHere_71 : decode cX7_kindHere 71 = .ok (.ldc2_w 255, 3) := by decide +kernel
theorem dX7_kindHere_74 : decode cX7_kindHere 74 = .ok (.invokevirtual 243, 3) := by decide +kernel
theorem dX7_kindHere_77 : decode cX7_kindHere 77 = .ok (.ifCond .eq 7, 3) := by decide +kernel
theorem dX7_kindHere_80 : decode cX7_kindHere 80 = .ok (.iconst 5, 1) := by decide +kernel
theorem dX7_kindHere_81 : decode cX7_kindHere 81 = .ok (.goto 19, 3) := by decide +kernel
theorem dX7_kindHere_84 : decode cX7_kindHere 84 = .ok (.aload_n 0, 1) := by decide +kernel
theorem dX7_kindHere_85 : decode cX7_kindHere 85 = .ok (.ldc2_w 257, 3) := by decide +kernel
theorem dX7_kindHere_88 : decode cX7_kindHere 88 = .ok (.invokevirtual 243, 3) := by decide +kernel
theorem dX7_kindHere_91 : decode cX7_kindHere 91 = .ok (.ifCond .eq 8, 3) := by decide +kernel
theorem dX7_kindHere_94 : decode cX7_kindHere 94 = .ok (.bipush 6, 2) := by decide +kernel
theorem dX7_kindHere_96 : decode cX7_kindHere 96 = .ok (.goto 4, 3) := by decide +kernel
theorem dX7_kindHere_99 : decode cX7_kindHere 99 = .ok (.iconst (-1), 1) := by decide +kernel
theorem dX7_kindHere_100 : decode cX7_kindHere 100 = .ok (.ireturn, 1) := by decide +kernel
theorem dX7_numberHere_0 : decode cX7_numberHere 0 = .ok (.aload_n 0, 1) := by decide +kernel
theorem dX7_numberHere_1 : decode cX7_numberHere 1 = .ok (.getfield 217, 3) := by decide +kernel
theorem dX7_numberHere_4 : decode cX7_numberHere 4 = .ok (.l2i, 1) := by decide +kernel
theorem dX7_numberHere_5 : decode cX7_numberHere 5 = .ok (.istore_n 2, 1) := by decide +kernel
theorem dX7_numberHere_6 : decode cX7_numberHere 6 = .ok (.aload_n 0, 1) := by decide +kernel
theorem dX7_numberHere_7 : decode cX7_numberHere 7 = .ok (.getfield 221, 3) := by decide +kernel
theorem dX7_numberHere_10 : decode cX7_numberHere 10 = .ok (.iconst 2, 1) := by decide +kernel
theorem dX7_numberHere_11 : decode cX7_numberHere 11 = .ok (.if_icmp .ne 13, 3) := by decide +kernel
theorem dX7_numberHere_14 : decode cX7_numberHere 14 = .ok (.aload_n 0, 1) := by decide +kernel
theorem dX7_numberHere_15 : decode cX7_numberHere 15 = .ok (.getfield 217, 3) := by decide +kernel
theorem dX7_numberHere_18 : decode cX7_numberHere 18 = .ok (.iload_n 1, 1) := by decide +kernel
theorem dX7_numberHere_19 : decode cX7_numberHere 19 = .ok (.i2l, 1) := by decide +kernel
theorem dX7_numberHere_20 : decode cX7_numberHere 20 = .ok (.lcmp, 1) := by decide +kernel
theorem dX7_numberHere_21 : decode cX7_numberHere 21 = .ok (.ifCond .le 9, 3) := by decide +kernel
theorem dX7_numberHere_24 : decode cX7_numberHere 24 = .ok (.aload_n 0, 1) := by decide +kernel
theorem dX7_numberHere_25 : decode cX7_numberHere 25 = .ok (.invokevirtual 259, 3) := by decide +kernel
theorem dX7_numberHere_28 : decode cX7_numberHere 28 = .ok (.iconst 0, 1) := by decide +kernel
theorem dX7_numberHere_29 : decode cX7_numberHere 29 = .ok (.ireturn, 1) := by decide +kernel
theorem dX7_numberHere_30 : decode cX7_numberHere 30 = .ok (.aload_n 0, 1) := by decide +kernel
theorem dX7_numberHere_31 : decode cX7_numberHere 31 = .ok (.invokevirtual 262, 3) := by decide +kernel
theorem dX7_numberHere_34 : decode cX7_numberHere 34 = .ok (.iload_n 2, 1) := by decide +kernel
theorem dX7_numberHere_35 : decode cX7_numberHere 35 = .ok (.ireturn, 1) := by decide +kernel
theorem dX7_perhaps_0 : decode cX7_perhaps 0 = .ok (.aload_n 0, 1) := by decide +kernel
theorem dX7_perhaps_1 : decode cX7_perhaps 1 = .ok (.getfield 238, 3) := by decide +kernel
theorem dX7_perhaps_4 : decode cX7_perhaps 4 = .ok (.ifCond .ge 42, 3) := by decide +kernel
theorem dX7_perhaps_7 : decode cX7_perhaps 7 = .ok (.aload_n 0, 1) := by decide +kernel
theorem dX7_perhaps_8 : decode cX7_perhaps 8 = .ok (.lload_n 1, 1) := by decide +kernel
theorem dX7_perhaps_9 : decode cX7_perhaps 9 = .ok (.invokevirtual 243, 3) := by decide +kernel
theorem dX7_perhaps_12 : decode cX7_perhaps 12 = .ok (.ifCond .eq 34, 3) := by decide +kernel
theorem dX7_perhaps_15 : decode cX7_perhaps 15 = .ok (.aload_n 0, 1) := by decide +kernel
theorem dX7_perhaps_16 : decode cX7_perhaps 16 = .ok (.invokevirtual 262, 3) := by decide +kernel
theorem dX7_perhaps_19 : decode cX7_perhaps 19 = .ok (.aload_n 0, 1) := by decide +kernel
theorem dX7_perhaps_20 : decode cX7_perhaps 20 = .ok (.iload 4, 2) := by decide +kernel
theorem dX7_perhaps_22 : decode cX7_perhaps 22 = .ok (.invokestatic 144, 3) := by decide +kernel
theorem dX7_perhaps_25 : decode cX7_perhaps 25 = .ok (.invokevirtual 265, 3) := by decide +kernel
theorem dX7_perhaps_28 : decode cX7_perhaps 28 = .ok (.istore 5, 2) := by decide +kernel
theorem dX7_perhaps_30 : decode cX7_perhaps 30 = .ok (.aload_n 0, 1) := by decide +kernel
theorem dX7_perhaps_31 : decode cX7_perhaps 31 = .ok (.getfield 238, 3) := by decide +kernel
theorem dX7_perhaps_34 : decode cX7_perhaps 34 = .ok (.ifCond .ge 12, 3) := by decide +kernel
theorem dX7_perhaps_37 : decode cX7_perhaps 37 = .ok (.aload_n 0, 1) := by decide +kernel
theorem dX7_perhaps_38 : decode cX7_perhaps 38 = .ok (.iload_n 3, 1) := by decide +kernel
theorem dX7_perhaps_39 : decode cX7_perhaps 39 = .ok (.iload 4, 2) := by decide +kernel
theorem dX7_perhaps_41 : decode cX7_perhaps 41 = .ok (.iload 5, 2) := by decide +kernel
theorem dX7_perhaps_43 : decode cX7_perhaps 43 = .ok (.invokevirtual 90, 3) := by decide +kernel
theorem dX7_perhaps_46 : decode cX7_perhaps 46 = .ok (.return_, 1) := by decide +kernel
theorem dX7_gloveHere_0 : decode cX7_gloveHere 0 = .ok (.aload_n 0, 1) := by decide +kernel
theorem dX7_gloveHere_1 : decode cX7_gloveHere 1 = .ok (.getfield 7, 3) := by decide +kernel
theorem dX7_gloveHere_4 : decode cX7_gloveHere 4 = .ok (.iconst 0, 1) := by decide +kernel
theorem dX7_gloveHere_5 : decode cX7_gloveHere 5 = .ok (.iaload, 1) := by decide +kernel
theorem dX7_gloveHere_6 : decode cX7_gloveHere 6 = .ok (.bipush 8, 2) := by decide +kernel
theorem dX7_gloveHere_8 : decode cX7_gloveHere 8 = .ok (.if_icmp .ne 8, 3) := by decide +kernel
theorem dX7_gloveHere_11 : decode cX7_gloveHere 11 = .ok (.aload_n 0, 1) := by decide +kernel
theorem dX7_gloveHere_12 : decode cX7_gloveHere 12 = .ok (.invokevirtual 259, 3) := by decide +kernel
theorem dX7_gloveHere_15 : decode cX7_gloveHere 15 = .ok (.return_, 1) := by decide +kernel
theorem dX7_gloveHere_16 : decode cX7_gloveHere 16 = .ok (.aload_n 0, 1) := by decide +kernel
theorem dX7_gloveHere_17 : decode cX7_gloveHere 17 = .ok (.invokevirtual 262, 3) := by decide +kernel
theorem dX7_gloveHere_20 : decode cX7_gloveHere 20 = .ok (.aload_n 0, 1) := by decide +kernel
theorem dX7_gloveHere_21 : decode cX7_gloveHere 21 = .ok (.iload_n 1, 1) := by decide +kernel
theorem dX7_gloveHere_22 : decode cX7_gloveHere 22 = .ok (.iconst 0, 1) := by decide +kernel
theorem dX7_gloveHere_23 : decode cX7_gloveHere 23 = .ok (.invokevirtual 135, 3) := by decide +kernel
theorem dX7_gloveHere_26 : decode cX7_gloveHere 26 = .ok (.istore_n 2, 1) := by decide +kernel
theorem dX7_gloveHere_27 : decode cX7_gloveHere 27 = .ok (.aload_n 0, 1) := by decide +kernel
theorem dX7_gloveHere_28 : decode cX7_gloveHere 28 = .ok (.ldc2_w 268, 3) := by decide +kernel
theorem dX7_gloveHere_31 : decode cX7_gloveHere 31 = .ok (.iload_n 2, 1) := by decide +kernel
theorem dX7_gloveHere_32 : decode cX7_gloveHere 32 = .ok (.iconst 1, 1) := by decide +kernel
theorem dX7_gloveHere_33 : decode cX7_gloveHere 33 = .ok (.invokevirtual 270, 3) := by decide +kernel
theorem dX7_gloveHere_36 : decode cX7_gloveHere 36 = .ok (.aload_n 0, 1) := by decide +kernel
theorem dX7_gloveHere_37 : decode cX7_gloveHere 37 = .ok (.ldc2_w 274, 3) := by decide +kernel
theorem dX7_gloveHere_40 : decode cX7_gloveHere 40 = .ok (.iload_n 2, 1) := by decide +kernel
theorem dX7_gloveHere_41 : decode cX7_gloveHere 41 = .ok (.iconst 2, 1) := by decide +kernel
theorem dX7_gloveHere_42 : decode cX7_gloveHere 42 = .ok (.invokevirtual 270, 3) := by decide +kernel
theorem dX7_gloveHere_45 : decode cX7_gloveHere 45 = .ok (.aload_n 0, 1) := by decide +kernel
theorem dX7_gloveHere_46 : decode cX7_gloveHere 46 = .ok (.ldc2_w 276, 3) := by decide +kernel
theorem dX7_gloveHere_49 : decode cX7_gloveHere 49 = .ok (.iload_n 2, 1) := by decide +kernel
theorem dX7_gloveHere_50 : decode cX7_gloveHere 50 = .ok (.iconst 3, 1) := by decide +kernel
theorem dX7_gloveHere_51 : decode cX7_gloveHere 51 = .ok (.invokevirtual 270, 3) := by decide +kernel
theorem dX7_gloveHere_54 : decode cX7_gloveHere 54 = .ok (.aload_n 0, 1) := by decide +kernel
theorem dX7_gloveHere_55 : decode cX7_gloveHere 55 = .ok (.ldc2_w 278, 3) := by decide +kernel
theorem dX7_gloveHere_58 : decode cX7_gloveHere 58 = .ok (.iload_n 2, 1) := by decide +kernel
theorem dX7_gloveHere_59 : decode cX7_gloveHere 59 = .ok (.iconst 4, 1) := by decide +kernel
theorem dX7_gloveHere_60 : decode cX7_gloveHere 60 = .ok (.invokevirtual 270, 3) := by decide +kernel
theorem dX7_gloveHere_63 : decode cX7_gloveHere 63 = .ok (.return_, 1) := by decide +kernel
theorem dX7_saidHere_0 : decode cX7_saidHere 0 = .ok (.aload_n 0, 1) := by decide +kernel
theorem dX7_saidHere_1 : decode cX7_saidHere 1 = .ok (.invokevirtual 262, 3) := by decide +kernel
theorem dX7_saidHere_4 : decode cX7_saidHere 4 = .ok (.aload_n 0, 1) := by decide +kernel
theorem dX7_saidHere_5 : decode cX7_saidHere 5 = .ok (.iconst 5, 1) := by decide +kernel
theorem dX7_saidHere_6 : decode cX7_saidHere 6 = .ok (.invokevirtual 265, 3) := by decide +kernel
theorem dX7_saidHere_9 : decode cX7_saidHere 9 = .ok (.istore_n 1, 1) := by decide +kernel
theorem dX7_saidHere_10 : decode cX7_saidHere 10 = .ok (.aload_n 0, 1) := by decide +kernel
theorem dX7_saidHere_11 : decode cX7_saidHere 11 = .ok (.getfield 238, 3) := by decide +kernel
theorem dX7_saidHere_14 : decode cX7_saidHere 14 = .ok (.ifCond .ge 11, 3) := by decide +kernel
theorem dX7_saidHere_17 : decode cX7_saidHere 17 = .ok (.aload_n 0, 1) := by decide +kernel
theorem dX7_saidHere_18 : decode cX7_saidHere 18 = .ok (.iconst 5, 1) := by decide +kernel
theorem dX7_saidHere_19 : decode cX7_saidHere 19 = .ok (.invokevirtual 265, 3) := by decide +kernel
theorem dX7_saidHere_22 : decode cX7_saidHere 22 = .ok (.goto 4, 3) := by decide +kernel
theorem dX7_saidHere_25 : decode cX7_saidHere 25 = .ok (.iconst 0, 1) := by decide +kernel
theorem dX7_saidHere_26 : decode cX7_saidHere 26 = .ok (.istore_n 2, 1) := by decide +kernel
theorem dX7_saidHere_27 : decode cX7_saidHere 27 = .ok (.aload_n 0, 1) := by decide +kernel
theorem dX7_saidHere_28 : decode cX7_saidHere 28 = .ok (.getfield 238, 3) := by decide +kernel
theorem dX7_saidHere_31 : decode cX7_saidHere 31 = .ok (.ifCond .ge 12, 3) := by decide +kernel
theorem dX7_saidHere_34 : decode cX7_saidHere 34 = .ok (.aload_n 0, 1) := by decide +kernel
theorem dX7_saidHere_35 : decode cX7_saidHere 35 = .ok (.bipush 15, 2) := by decide +kernel
theorem dX7_saidHere_37 : decode cX7_saidHere 37 = .ok (.invokevirtual 265, 3) := by decide +kernel
theorem dX7_saidHere_40 : decode cX7_saidHere 40 = .ok (.goto 4, 3) := by decide +kernel
theorem dX7_saidHere_43 : decode cX7_saidHere 43 = .ok (.iconst 0, 1) := by decide +kernel
theorem dX7_saidHere_44 : decode cX7_saidHere 44 = .ok (.istore_n 3, 1) := by decide +kernel
theorem dX7_saidHere_45 : decode cX7_saidHere 45 = .ok (.aload_n 0, 1) := by decide +kernel
theorem dX7_saidHere_46 : decode cX7_saidHere 46 = .ok (.getfield 238, 3) := by decide +kernel
theorem dX7_saidHere_49 : decode cX7_saidHere 49 = .ok (.ifCond .ge 12, 3) := by decide +kernel
theorem dX7_saidHere_52 : decode cX7_saidHere 52 = .ok (.aload_n 0, 1) := by decide +kernel
theorem dX7_saidHere_53 : decode cX7_saidHere 53 = .ok (.bipush 9, 2) := by decide +kernel
theorem dX7_saidHere_55 : decode cX7_saidHere 55 = .ok (.invokevirtual 265, 3) := by decide +kernel
theorem dX7_saidHere_58 : decode cX7_saidHere 58 = .ok (.goto 4, 3) := by decide +kernel
theorem dX7_saidHere_61 : decode cX7_saidHere 61 = .ok (.iconst 0, 1) := by decide +kernel
theorem dX7_saidHere_62 : decode cX7_saidHere 62 = .ok (.istore 4, 2) := by decide +kernel
theorem dX7_saidHere_64 : decode cX7_saidHere 64 = .ok (.aload_n 0, 1) := by decide +kernel
theorem dX7_saidHere_65 : decode cX7_saidHere 65 = .ok (.getfield 238, 3) := by decide +kernel
theorem dX7_saidHere_68 : decode cX7_saidHere 68 = .ok (.ifCond .ge 24, 3) := by decide +kernel
theorem dX7_saidHere_71 : decode cX7_saidHere 71 = .ok (.aload_n 0, 1) := by decide +kernel
theorem dX7_saidHere_72 : decode cX7_saidHere 72 = .ok (.getfield 7, 3) := by decide +kernel
theorem dX7_saidHere_75 : decode cX7_saidHere 75 = .ok (.iconst 3, 1) := by decide +kernel
theorem dX7_saidHere_76 : decode cX7_saidHere 76 = .ok (.iload_n 1, 1) := by decide +kernel
theorem dX7_saidHere_77 : decode cX7_saidHere 77 = .ok (.iadd, 1) := by decide +kernel
theorem dX7_saidHere_78 : decode cX7_saidHere 78 = .ok (.sipush 1000, 3) := by decide +kernel
theorem dX7_saidHere_81 : decode cX7_saidHere 81 = .ok (.iload_n 2, 1) := by decide +kernel
theorem dX7_saidHere_82 : decode cX7_saidHere 82 = .ok (.imul, 1) := by decide +kernel
theorem dX7_saidHere_83 : decode cX7_saidHere 83 = .ok (.bipush 10, 2) := by decide +kernel
theorem dX7_saidHere_85 : decode cX7_saidHere 85 = .ok (.iload_n 3, 1) := by decide +kernel
theorem dX7_saidHere_86 : decode cX7_saidHere 86 = .ok (.imul, 1) := by decide +kernel
theorem dX7_saidHere_87 : decode cX7_saidHere 87 = .ok (.iadd, 1) := by decide +kernel
theorem dX7_saidHere_88 : decode cX7_saidHere 88 = .ok (.iload 4, 2) := by decide +kernel
theorem dX7_saidHere_90 : decode cX7_saidHere 90 = .ok (.iadd, 1) := by decide +kernel
theorem dX7_saidHere_91 : decode cX7_saidHere 91 = .ok (.iastore, 1) := by decide +kernel
theorem dX7_saidHere_92 : decode cX7_saidHere 92 = .ok (.return_, 1) := by decide +kernel
theorem dX7_handHere_0 : decode cX7_handHere 0 = .ok (.aload_n 0, 1) := by decide +kernel
theorem dX7_handHere_1 : decode cX7_handHere 1 = .ok (.invokevirtual 262, 3) := by decide +kernel
theorem dX7_handHere_4 : decode cX7_handHere 4 = .ok (.aload_n 0, 1) := by decide +kernel
end
section
theorem dX7_handHere_5 : decode cX7_handHere 5 = .ok (.aload_n 0, 1) := by decide +kernel
theorem dX7_handHere_6 : decode cX7_handHere 6 = .ok (.getfield 7, 3) := by decide +kernel
theorem dX7_handHere_9 : decode cX7_handHere 9 = .ok (.iconst 0, 1) := by decide +kernel
theorem dX7_handHere_10 : decode cX7_handHere 10 = .ok (.iaload, 1) := by decide +kernel
theorem dX7_handHere_11 : decode cX7_handHere 11 = .ok (.iconst 1, 1) := by decide +kernel
theorem dX7_handHere_12 : decode cX7_handHere 12 = .ok (.isub, 1) := by decide +kernel
theorem dX7_handHere_13 : decode cX7_handHere 13 = .ok (.invokevirtual 265, 3) := by decide +kernel
theorem dX7_handHere_16 : decode cX7_handHere 16 = .ok (.istore_n 1, 1) := by decide +kernel
theorem dX7_handHere_17 : decode cX7_handHere 17 = .ok (.aload_n 0, 1) := by decide +kernel
theorem dX7_handHere_18 : decode cX7_handHere 18 = .ok (.getfield 238, 3) := by decide +kernel
theorem dX7_handHere_21 : decode cX7_handHere 21 = .ok (.ifCond .ge 12, 3) := by decide +kernel
theorem dX7_handHere_24 : decode cX7_handHere 24 = .ok (.aload_n 0, 1) := by decide +kernel
theorem dX7_handHere_25 : decode cX7_handHere 25 = .ok (.ldc 143, 2) := by decide +kernel
theorem dX7_handHere_27 : decode cX7_handHere 27 = .ok (.invokevirtual 265, 3) := by decide +kernel
theorem dX7_handHere_30 : decode cX7_handHere 30 = .ok (.goto 4, 3) := by decide +kernel
theorem dX7_handHere_33 : decode cX7_handHere 33 = .ok (.iconst 0, 1) := by decide +kernel
theorem dX7_handHere_34 : decode cX7_handHere 34 = .ok (.istore_n 2, 1) := by decide +kernel
theorem dX7_handHere_35 : decode cX7_handHere 35 = .ok (.aload_n 0, 1) := by decide +kernel
theorem dX7_handHere_36 : decode cX7_handHere 36 = .ok (.getfield 238, 3) := by decide +kernel
theorem dX7_handHere_39 : decode cX7_handHere 39 = .ok (.ifCond .ge 10, 3) := by decide +kernel
theorem dX7_handHere_42 : decode cX7_handHere 42 = .ok (.aload_n 0, 1) := by decide +kernel
theorem dX7_handHere_43 : decode cX7_handHere 43 = .ok (.iload_n 1, 1) := by decide +kernel
theorem dX7_handHere_44 : decode cX7_handHere 44 = .ok (.iconst 5, 1) := by decide +kernel
theorem dX7_handHere_45 : decode cX7_handHere 45 = .ok (.iload_n 2, 1) := by decide +kernel
theorem dX7_handHere_46 : decode cX7_handHere 46 = .ok (.invokevirtual 90, 3) := by decide +kernel
theorem dX7_handHere_49 : decode cX7_handHere 49 = .ok (.return_, 1) := by decide +kernel
theorem dX7_item_0 : decode cX7_item 0 = .ok (.aload_n 0, 1) := by decide +kernel
theorem dX7_item_1 : decode cX7_item 1 = .ok (.invokevirtual 280, 3) := by decide +kernel
theorem dX7_item_4 : decode cX7_item 4 = .ok (.istore_n 1, 1) := by decide +kernel
theorem dX7_item_5 : decode cX7_item 5 = .ok (.iload_n 1, 1) := by decide +kernel
theorem dX7_item_6 : decode cX7_item 6 = .ok (.ifCond .lt 11, 3) := by decide +kernel
theorem dX7_item_9 : decode cX7_item 9 = .ok (.aload_n 0, 1) := by decide +kernel
theorem dX7_item_10 : decode cX7_item 10 = .ok (.iload_n 1, 1) := by decide +kernel
theorem dX7_item_11 : decode cX7_item 11 = .ok (.invokevirtual 283, 3) := by decide +kernel
theorem dX7_item_14 : decode cX7_item 14 = .ok (.goto 41, 3) := by decide +kernel
theorem dX7_item_17 : decode cX7_item 17 = .ok (.aload_n 0, 1) := by decide +kernel
theorem dX7_item_18 : decode cX7_item 18 = .ok (.ldc2_w 286, 3) := by decide +kernel
theorem dX7_item_21 : decode cX7_item 21 = .ok (.invokevirtual 243, 3) := by decide +kernel
theorem dX7_item_24 : decode cX7_item 24 = .ok (.ifCond .eq 10, 3) := by decide +kernel
theorem dX7_item_27 : decode cX7_item 27 = .ok (.aload_n 0, 1) := by decide +kernel
theorem dX7_item_28 : decode cX7_item 28 = .ok (.invokevirtual 288, 3) := by decide +kernel
theorem dX7_item_31 : decode cX7_item 31 = .ok (.goto 24, 3) := by decide +kernel
theorem dX7_item_34 : decode cX7_item 34 = .ok (.aload_n 0, 1) := by decide +kernel
theorem dX7_item_35 : decode cX7_item 35 = .ok (.ldc2_w 291, 3) := by decide +kernel
theorem dX7_item_38 : decode cX7_item 38 = .ok (.invokevirtual 243, 3) := by decide +kernel
theorem dX7_item_41 : decode cX7_item 41 = .ok (.ifCond .eq 10, 3) := by decide +kernel
theorem dX7_item_44 : decode cX7_item 44 = .ok (.aload_n 0, 1) := by decide +kernel
theorem dX7_item_45 : decode cX7_item 45 = .ok (.invokevirtual 293, 3) := by decide +kernel
theorem dX7_item_48 : decode cX7_item 48 = .ok (.goto 7, 3) := by decide +kernel
theorem dX7_item_51 : decode cX7_item 51 = .ok (.aload_n 0, 1) := by decide +kernel
theorem dX7_item_52 : decode cX7_item 52 = .ok (.invokevirtual 259, 3) := by decide +kernel
theorem dX7_item_55 : decode cX7_item 55 = .ok (.return_, 1) := by decide +kernel
theorem dX7_items_0 : decode cX7_items 0 = .ok (.aload_n 0, 1) := by decide +kernel
theorem dX7_items_1 : decode cX7_items 1 = .ok (.iconst 0, 1) := by decide +kernel
theorem dX7_items_2 : decode cX7_items 2 = .ok (.putfield 208, 3) := by decide +kernel
theorem dX7_items_5 : decode cX7_items 5 = .ok (.aload_n 0, 1) := by decide +kernel
theorem dX7_items_6 : decode cX7_items 6 = .ok (.iconst (-1), 1) := by decide +kernel
theorem dX7_items_7 : decode cX7_items 7 = .ok (.putfield 238, 3) := by decide +kernel
theorem dX7_items_10 : decode cX7_items 10 = .ok (.aload_n 0, 1) := by decide +kernel
theorem dX7_items_11 : decode cX7_items 11 = .ok (.invokevirtual 262, 3) := by decide +kernel
theorem dX7_items_14 : decode cX7_items 14 = .ok (.aload_n 0, 1) := by decide +kernel
theorem dX7_items_15 : decode cX7_items 15 = .ok (.invokevirtual 296, 3) := by decide +kernel
theorem dX7_items_18 : decode cX7_items 18 = .ok (.iconst 1, 1) := by decide +kernel
theorem dX7_items_19 : decode cX7_items 19 = .ok (.istore_n 1, 1) := by decide +kernel
theorem dX7_items_20 : decode cX7_items 20 = .ok (.aload_n 0, 1) := by decide +kernel
theorem dX7_items_21 : decode cX7_items 21 = .ok (.getfield 238, 3) := by decide +kernel
theorem dX7_items_24 : decode cX7_items 24 = .ok (.ifCond .ge 25, 3) := by decide +kernel
theorem dX7_items_27 : decode cX7_items 27 = .ok (.aload_n 0, 1) := by decide +kernel
theorem dX7_items_28 : decode cX7_items 28 = .ok (.getfield 221, 3) := by decide +kernel
theorem dX7_items_31 : decode cX7_items 31 = .ok (.iconst 3, 1) := by decide +kernel
theorem dX7_items_32 : decode cX7_items 32 = .ok (.if_icmp .ne 17, 3) := by decide +kernel
theorem dX7_items_35 : decode cX7_items 35 = .ok (.aload_n 0, 1) := by decide +kernel
theorem dX7_items_36 : decode cX7_items 36 = .ok (.invokevirtual 262, 3) := by decide +kernel
theorem dX7_items_39 : decode cX7_items 39 = .ok (.aload_n 0, 1) := by decide +kernel
theorem dX7_items_40 : decode cX7_items 40 = .ok (.invokevirtual 296, 3) := by decide +kernel
theorem dX7_items_43 : decode cX7_items 43 = .ok (.iinc 1 1, 3) := by decide +kernel
theorem dX7_items_46 : decode cX7_items 46 = .ok (.goto (-26), 3) := by decide +kernel
theorem dX7_items_49 : decode cX7_items 49 = .ok (.aload_n 0, 1) := by decide +kernel
theorem dX7_items_50 : decode cX7_items 50 = .ok (.getfield 238, 3) := by decide +kernel
theorem dX7_items_53 : decode cX7_items 53 = .ok (.ifCond .ge 14, 3) := by decide +kernel
theorem dX7_items_56 : decode cX7_items 56 = .ok (.aload_n 0, 1) := by decide +kernel
theorem dX7_items_57 : decode cX7_items 57 = .ok (.getfield 221, 3) := by decide +kernel
theorem dX7_items_60 : decode cX7_items 60 = .ok (.ifCond .eq 7, 3) := by decide +kernel
theorem dX7_items_63 : decode cX7_items 63 = .ok (.aload_n 0, 1) := by decide +kernel
theorem dX7_items_64 : decode cX7_items 64 = .ok (.invokevirtual 259, 3) := by decide +kernel
theorem dX7_items_67 : decode cX7_items 67 = .ok (.iload_n 1, 1) := by decide +kernel
theorem dX7_items_68 : decode cX7_items 68 = .ok (.ireturn, 1) := by decide +kernel
theorem dX7_text_0 : decode cX7_text 0 = .ok (.aload_n 0, 1) := by decide +kernel
theorem dX7_text_1 : decode cX7_text 1 = .ok (.getfield 7, 3) := by decide +kernel
theorem dX7_text_4 : decode cX7_text 4 = .ok (.aload_n 0, 1) := by decide +kernel
theorem dX7_text_5 : decode cX7_text 5 = .ok (.getfield 13, 3) := by decide +kernel
theorem dX7_text_8 : decode cX7_text 8 = .ok (.invokestatic 167, 3) := by decide +kernel
theorem dX7_text_11 : decode cX7_text 11 = .ok (.aload_n 0, 1) := by decide +kernel
theorem dX7_text_12 : decode cX7_text 12 = .ok (.invokevirtual 299, 3) := by decide +kernel
theorem dX7_text_15 : decode cX7_text 15 = .ok (.istore_n 1, 1) := by decide +kernel
theorem dX7_text_16 : decode cX7_text 16 = .ok (.aload_n 0, 1) := by decide +kernel
theorem dX7_text_17 : decode cX7_text 17 = .ok (.iconst 0, 1) := by decide +kernel
theorem dX7_text_18 : decode cX7_text 18 = .ok (.putfield 205, 3) := by decide +kernel
theorem dX7_text_21 : decode cX7_text 21 = .ok (.aload_n 0, 1) := by decide +kernel
theorem dX7_text_22 : decode cX7_text 22 = .ok (.getfield 238, 3) := by decide +kernel
theorem dX7_text_25 : decode cX7_text 25 = .ok (.ifCond .lt 21, 3) := by decide +kernel
theorem dX7_text_28 : decode cX7_text 28 = .ok (.aload_n 0, 1) := by decide +kernel
theorem dX7_text_29 : decode cX7_text 29 = .ok (.getfield 13, 3) := by decide +kernel
theorem dX7_text_32 : decode cX7_text 32 = .ok (.aload_n 0, 1) := by decide +kernel
theorem dX7_text_33 : decode cX7_text 33 = .ok (.getfield 7, 3) := by decide +kernel
theorem dX7_text_36 : decode cX7_text 36 = .ok (.invokestatic 167, 3) := by decide +kernel
theorem dX7_text_39 : decode cX7_text 39 = .ok (.iconst (-1), 1) := by decide +kernel
theorem dX7_text_40 : decode cX7_text 40 = .ok (.aload_n 0, 1) := by decide +kernel
theorem dX7_text_41 : decode cX7_text 41 = .ok (.getfield 238, 3) := by decide +kernel
theorem dX7_text_44 : decode cX7_text 44 = .ok (.isub, 1) := by decide +kernel
theorem dX7_text_45 : decode cX7_text 45 = .ok (.ireturn, 1) := by decide +kernel
theorem dX7_text_46 : decode cX7_text 46 = .ok (.iload_n 1, 1) := by decide +kernel
theorem dX7_text_47 : decode cX7_text 47 = .ok (.ireturn, 1) := by decide +kernel
theorem dX7_hold_0 : decode cX7_hold 0 = .ok (.iload_n 1, 1) := by decide +kernel
theorem dX7_hold_1 : decode cX7_hold 1 = .ok (.i2l, 1) := by decide +kernel
theorem dX7_hold_2 : decode cX7_hold 2 = .ok (.lconst 0, 1) := by decide +kernel
theorem dX7_hold_3 : decode cX7_hold 3 = .ok (.ldc2_w 302, 3) := by decide +kernel
theorem dX7_hold_6 : decode cX7_hold 6 = .ok (.invokestatic 42, 3) := by decide +kernel
theorem dX7_hold_9 : decode cX7_hold 9 = .ok (.ifCond .eq 23, 3) := by decide +kernel
theorem dX7_hold_12 : decode cX7_hold 12 = .ok (.iload_n 2, 1) := by decide +kernel
theorem dX7_hold_13 : decode cX7_hold 13 = .ok (.i2l, 1) := by decide +kernel
theorem dX7_hold_14 : decode cX7_hold 14 = .ok (.ldc2_w 304, 3) := by decide +kernel
theorem dX7_hold_17 : decode cX7_hold 17 = .ok (.aload_n 0, 1) := by decide +kernel
theorem dX7_hold_18 : decode cX7_hold 18 = .ok (.getfield 7, 3) := by decide +kernel
theorem dX7_hold_21 : decode cX7_hold 21 = .ok (.iconst 0, 1) := by decide +kernel
theorem dX7_hold_22 : decode cX7_hold 22 = .ok (.iaload, 1) := by decide +kernel
theorem dX7_hold_23 : decode cX7_hold 23 = .ok (.iconst 1, 1) := by decide +kernel
theorem dX7_hold_24 : decode cX7_hold 24 = .ok (.isub, 1) := by decide +kernel
theorem dX7_hold_25 : decode cX7_hold 25 = .ok (.i2l, 1) := by decide +kernel
theorem dX7_hold_26 : decode cX7_hold 26 = .ok (.invokestatic 42, 3) := by decide +kernel
theorem dX7_hold_29 : decode cX7_hold 29 = .ok (.ifCond .ne 9, 3) := by decide +kernel
theorem dX7_hold_32 : decode cX7_hold 32 = .ok (.aload_n 0, 1) := by decide +kernel
theorem dX7_hold_33 : decode cX7_hold 33 = .ok (.iconst 0, 1) := by decide +kernel
theorem dX7_hold_34 : decode cX7_hold 34 = .ok (.invokevirtual 128, 3) := by decide +kernel
theorem dX7_hold_37 : decode cX7_hold 37 = .ok (.ireturn, 1) := by decide +kernel
theorem dX7_hold_38 : decode cX7_hold 38 = .ok (.aload_n 0, 1) := by decide +kernel
theorem dX7_hold_39 : decode cX7_hold 39 = .ok (.getfield 7, 3) := by decide +kernel
theorem dX7_hold_42 : decode cX7_hold 42 = .ok (.bipush 65, 2) := by decide +kernel
theorem dX7_hold_44 : decode cX7_hold 44 = .ok (.iload_n 1, 1) := by decide +kernel
theorem dX7_hold_45 : decode cX7_hold 45 = .ok (.iadd, 1) := by decide +kernel
theorem dX7_hold_46 : decode cX7_hold 46 = .ok (.iload_n 2, 1) := by decide +kernel
theorem dX7_hold_47 : decode cX7_hold 47 = .ok (.iconst 1, 1) := by decide +kernel
theorem dX7_hold_48 : decode cX7_hold 48 = .ok (.iadd, 1) := by decide +kernel
theorem dX7_hold_49 : decode cX7_hold 49 = .ok (.iastore, 1) := by decide +kernel
theorem dX7_hold_50 : decode cX7_hold 50 = .ok (.iconst 1, 1) := by decide +kernel
theorem dX7_hold_51 : decode cX7_hold 51 = .ok (.ireturn, 1) := by decide +kernel
theorem dX7_above_0 : decode cX7_above 0 = .ok (.iload_n 0, 1) := by decide +kernel
theorem dX7_above_1 : decode cX7_above 1 = .ok (.iconst 3, 1) := by decide +kernel
theorem dX7_above_2 : decode cX7_above 2 = .ok (.if_icmp .ne 7, 3) := by decide +kernel
theorem dX7_above_5 : decode cX7_above 5 = .ok (.iconst 2, 1) := by decide +kernel
theorem dX7_above_6 : decode cX7_above 6 = .ok (.goto 23, 3) := by decide +kernel
theorem dX7_above_9 : decode cX7_above 9 = .ok (.iload_n 0, 1) := by decide +kernel
theorem dX7_above_10 : decode cX7_above 10 = .ok (.iconst 4, 1) := by decide +kernel
theorem dX7_above_11 : decode cX7_above 11 = .ok (.if_icmp .ne 7, 3) := by decide +kernel
theorem dX7_above_14 : decode cX7_above 14 = .ok (.iconst 3, 1) := by decide +kernel
theorem dX7_above_15 : decode cX7_above 15 = .ok (.goto 14, 3) := by decide +kernel
theorem dX7_above_18 : decode cX7_above 18 = .ok (.iload_n 0, 1) := by decide +kernel
theorem dX7_above_19 : decode cX7_above 19 = .ok (.bipush 6, 2) := by decide +kernel
theorem dX7_above_21 : decode cX7_above 21 = .ok (.if_icmp .ne 7, 3) := by decide +kernel
theorem dX7_above_24 : decode cX7_above 24 = .ok (.iconst 1, 1) := by decide +kernel
theorem dX7_above_25 : decode cX7_above 25 = .ok (.goto 4, 3) := by decide +kernel
theorem dX7_above_28 : decode cX7_above 28 = .ok (.iconst 0, 1) := by decide +kernel
theorem dX7_above_29 : decode cX7_above 29 = .ok (.ireturn, 1) := by decide +kernel
theorem dX7_as_0 : decode cX7_as 0 = .ok (.iload_n 1, 1) := by decide +kernel
theorem dX7_as_1 : decode cX7_as 1 = .ok (.i2l, 1) := by decide +kernel
theorem dX7_as_2 : decode cX7_as 2 = .ok (.lconst 0, 1) := by decide +kernel
theorem dX7_as_3 : decode cX7_as 3 = .ok (.ldc2_w 302, 3) := by decide +kernel
theorem dX7_as_6 : decode cX7_as 6 = .ok (.invokestatic 42, 3) := by decide +kernel
theorem dX7_as_9 : decode cX7_as 9 = .ok (.ifCond .eq 15, 3) := by decide +kernel
theorem dX7_as_12 : decode cX7_as 12 = .ok (.iload_n 2, 1) := by decide +kernel
theorem dX7_as_13 : decode cX7_as 13 = .ok (.i2l, 1) := by decide +kernel
theorem dX7_as_14 : decode cX7_as 14 = .ok (.lconst 0, 1) := by decide +kernel
theorem dX7_as_15 : decode cX7_as 15 = .ok (.ldc2_w 133, 3) := by decide +kernel
theorem dX7_as_18 : decode cX7_as 18 = .ok (.invokestatic 42, 3) := by decide +kernel
theorem dX7_as_21 : decode cX7_as 21 = .ok (.ifCond .ne 9, 3) := by decide +kernel
theorem dX7_as_24 : decode cX7_as 24 = .ok (.aload_n 0, 1) := by decide +kernel
theorem dX7_as_25 : decode cX7_as 25 = .ok (.iconst 0, 1) := by decide +kernel
theorem dX7_as_26 : decode cX7_as 26 = .ok (.invokevirtual 128, 3) := by decide +kernel
theorem dX7_as_29 : decode cX7_as 29 = .ok (.ireturn, 1) := by decide +kernel
theorem dX7_as_30 : decode cX7_as 30 = .ok (.aload_n 0, 1) := by decide +kernel
theorem dX7_as_31 : decode cX7_as 31 = .ok (.getfield 7, 3) := by decide +kernel
theorem dX7_as_34 : decode cX7_as 34 = .ok (.bipush 65, 2) := by decide +kernel
theorem dX7_as_36 : decode cX7_as 36 = .ok (.iload_n 1, 1) := by decide +kernel
theorem dX7_as_37 : decode cX7_as 37 = .ok (.iadd, 1) := by decide +kernel
theorem dX7_as_38 : decode cX7_as 38 = .ok (.iaload, 1) := by decide +kernel
theorem dX7_as_39 : decode cX7_as 39 = .ok (.ifCond .ne 9, 3) := by decide +kernel
theorem dX7_as_42 : decode cX7_as 42 = .ok (.aload_n 0, 1) := by decide +kernel
theorem dX7_as_43 : decode cX7_as 43 = .ok (.iconst 5, 1) := by decide +kernel
theorem dX7_as_44 : decode cX7_as 44 = .ok (.invokevirtual 128, 3) := by decide +kernel
theorem dX7_as_47 : decode cX7_as 47 = .ok (.ireturn, 1) := by decide +kernel
theorem dX7_as_48 : decode cX7_as 48 = .ok (.aload_n 0, 1) := by decide +kernel
theorem dX7_as_49 : decode cX7_as 49 = .ok (.getfield 7, 3) := by decide +kernel
theorem dX7_as_52 : decode cX7_as 52 = .ok (.bipush 65, 2) := by decide +kernel
theorem dX7_as_54 : decode cX7_as 54 = .ok (.iload_n 1, 1) := by decide +kernel
theorem dX7_as_55 : decode cX7_as 55 = .ok (.iadd, 1) := by decide +kernel
theorem dX7_as_56 : decode cX7_as 56 = .ok (.iaload, 1) := by decide +kernel
theorem dX7_as_57 : decode cX7_as 57 = .ok (.iconst 1, 1) := by decide +kernel
theorem dX7_as_58 : decode cX7_as 58 = .ok (.isub, 1) := by decide +kernel
theorem dX7_as_59 : decode cX7_as 59 = .ok (.istore_n 3, 1) := by decide +kernel
theorem dX7_as_60 : decode cX7_as 60 = .ok (.aload_n 0, 1) := by decide +kernel
theorem dX7_as_61 : decode cX7_as 61 = .ok (.iload_n 3, 1) := by decide +kernel
theorem dX7_as_62 : decode cX7_as 62 = .ok (.iconst 0, 1) := by decide +kernel
theorem dX7_as_63 : decode cX7_as 63 = .ok (.invokevirtual 58, 3) := by decide +kernel
theorem dX7_as_66 : decode cX7_as 66 = .ok (.istore 4, 2) := by decide +kernel
theorem dX7_as_68 : decode cX7_as 68 = .ok (.iload_n 2, 1) := by decide +kernel
theorem dX7_as_69 : decode cX7_as 69 = .ok (.ifCond .eq 30, 3) := by decide +kernel
theorem dX7_as_72 : decode cX7_as 72 = .ok (.iload_n 2, 1) := by decide +kernel
theorem dX7_as_73 : decode cX7_as 73 = .ok (.iload 4, 2) := by decide +kernel
theorem dX7_as_75 : decode cX7_as 75 = .ok (.if_icmp .eq 24, 3) := by decide +kernel
theorem dX7_as_78 : decode cX7_as 78 = .ok (.iload_n 2, 1) := by decide +kernel
theorem dX7_as_79 : decode cX7_as 79 = .ok (.iload 4, 2) := by decide +kernel
theorem dX7_as_81 : decode cX7_as 81 = .ok (.invokestatic 306, 3) := by decide +kernel
theorem dX7_as_84 : decode cX7_as 84 = .ok (.if_icmp .eq 15, 3) := by decide +kernel
theorem dX7_as_87 : decode cX7_as 87 = .ok (.iload_n 2, 1) := by decide +kernel
theorem dX7_as_88 : decode cX7_as 88 = .ok (.iload 4, 2) := by decide +kernel
theorem dX7_as_90 : decode cX7_as 90 = .ok (.invokestatic 306, 3) := by decide +kernel
theorem dX7_as_93 : decode cX7_as 93 = .ok (.invokestatic 306, 3) := by decide +kernel
theorem dX7_as_96 : decode cX7_as 96 = .ok (.if_icmp .ne 7, 3) := by decide +kernel
theorem dX7_as_99 : decode cX7_as 99 = .ok (.iload_n 3, 1) := by decide +kernel
theorem dX7_as_100 : decode cX7_as 100 = .ok (.goto 8, 3) := by decide +kernel
theorem dX7_as_103 : decode cX7_as 103 = .ok (.aload_n 0, 1) := by decide +kernel
theorem dX7_as_104 : decode cX7_as 104 = .ok (.iconst 2, 1) := by decide +kernel
theorem dX7_as_105 : decode cX7_as 105 = .ok (.invokevirtual 128, 3) := by decide +kernel
theorem dX7_as_108 : decode cX7_as 108 = .ok (.ireturn, 1) := by decide +kernel
theorem dX7_isSheet_0 : decode cX7_isSheet 0 = .ok (.iload_n 0, 1) := by decide +kernel
theorem dX7_isSheet_1 : decode cX7_isSheet 1 = .ok (.i2l, 1) := by decide +kernel
theorem dX7_isSheet_2 : decode cX7_isSheet 2 = .ok (.lconst 0, 1) := by decide +kernel
theorem dX7_isSheet_3 : decode cX7_isSheet 3 = .ok (.ldc2_w 131, 3) := by decide +kernel
theorem dX7_isSheet_6 : decode cX7_isSheet 6 = .ok (.invokestatic 42, 3) := by decide +kernel
theorem dX7_isSheet_9 : decode cX7_isSheet 9 = .ok (.ireturn, 1) := by decide +kernel
theorem dX7_sheet_0 : decode cX7_sheet 0 = .ok (.iload_n 1, 1) := by decide +kernel
theorem dX7_sheet_1 : decode cX7_sheet 1 = .ok (.invokestatic 309, 3) := by decide +kernel
theorem dX7_sheet_4 : decode cX7_sheet 4 = .ok (.ifCond .eq 25, 3) := by decide +kernel
theorem dX7_sheet_7 : decode cX7_sheet 7 = .ok (.iload_n 2, 1) := by decide +kernel
theorem dX7_sheet_8 : decode cX7_sheet 8 = .ok (.ifCond .eq 27, 3) := by decide +kernel
theorem dX7_sheet_11 : decode cX7_sheet 11 = .ok (.iload_n 2, 1) := by decide +kernel
theorem dX7_sheet_12 : decode cX7_sheet 12 = .ok (.bipush 8, 2) := by decide +kernel
theorem dX7_sheet_14 : decode cX7_sheet 14 = .ok (.if_icmp .eq 21, 3) := by decide +kernel
theorem dX7_sheet_17 : decode cX7_sheet 17 = .ok (.iload_n 2, 1) := by decide +kernel
theorem dX7_sheet_18 : decode cX7_sheet 18 = .ok (.bipush 16, 2) := by decide +kernel
theorem dX7_sheet_20 : decode cX7_sheet 20 = .ok (.if_icmp .eq 15, 3) := by decide +kernel
theorem dX7_sheet_23 : decode cX7_sheet 23 = .ok (.iload_n 2, 1) := by decide +kernel
theorem dX7_sheet_24 : decode cX7_sheet 24 = .ok (.bipush 32, 2) := by decide +kernel
theorem dX7_sheet_26 : decode cX7_sheet 26 = .ok (.if_icmp .eq 9, 3) := by decide +kernel
theorem dX7_sheet_29 : decode cX7_sheet 29 = .ok (.aload_n 0, 1) := by decide +kernel
theorem dX7_sheet_30 : decode cX7_sheet 30 = .ok (.iconst 0, 1) := by decide +kernel
theorem dX7_sheet_31 : decode cX7_sheet 31 = .ok (.invokevirtual 128, 3) := by decide +kernel
theorem dX7_sheet_34 : decode cX7_sheet 34 = .ok (.ireturn, 1) := by decide +kernel
theorem dX7_sheet_35 : decode cX7_sheet 35 = .ok (.iload_n 3, 1) := by decide +kernel
theorem dX7_sheet_36 : decode cX7_sheet 36 = .ok (.ifCond .ge 10, 3) := by decide +kernel
theorem dX7_sheet_39 : decode cX7_sheet 39 = .ok (.aload_n 0, 1) := by decide +kernel
theorem dX7_sheet_40 : decode cX7_sheet 40 = .ok (.bipush 6, 2) := by decide +kernel
theorem dX7_sheet_42 : decode cX7_sheet 42 = .ok (.invokevirtual 128, 3) := by decide +kernel
theorem dX7_sheet_45 : decode cX7_sheet 45 = .ok (.ireturn, 1) := by decide +kernel
theorem dX7_sheet_46 : decode cX7_sheet 46 = .ok (.iload_n 3, 1) := by decide +kernel
theorem dX7_sheet_47 : decode cX7_sheet 47 = .ok (.bipush 40, 2) := by decide +kernel
theorem dX7_sheet_49 : decode cX7_sheet 49 = .ok (.if_icmp .le 9, 3) := by decide +kernel
theorem dX7_sheet_52 : decode cX7_sheet 52 = .ok (.aload_n 0, 1) := by decide +kernel
theorem dX7_sheet_53 : decode cX7_sheet 53 = .ok (.iconst 0, 1) := by decide +kernel
theorem dX7_sheet_54 : decode cX7_sheet 54 = .ok (.invokevirtual 128, 3) := by decide +kernel
theorem dX7_sheet_57 : decode cX7_sheet 57 = .ok (.ireturn, 1) := by decide +kernel
theorem dX7_sheet_58 : decode cX7_sheet 58 = .ok (.aload_n 0, 1) := by decide +kernel
theorem dX7_sheet_59 : decode cX7_sheet 59 = .ok (.getfield 29, 3) := by decide +kernel
theorem dX7_sheet_62 : decode cX7_sheet 62 = .ok (.iload_n 1, 1) := by decide +kernel
theorem dX7_sheet_63 : decode cX7_sheet 63 = .ok (.iload_n 2, 1) := by decide +kernel
theorem dX7_sheet_64 : decode cX7_sheet 64 = .ok (.iastore, 1) := by decide +kernel
theorem dX7_sheet_65 : decode cX7_sheet 65 = .ok (.aload_n 0, 1) := by decide +kernel
theorem dX7_sheet_66 : decode cX7_sheet 66 = .ok (.getfield 32, 3) := by decide +kernel
theorem dX7_sheet_69 : decode cX7_sheet 69 = .ok (.iload_n 1, 1) := by decide +kernel
theorem dX7_sheet_70 : decode cX7_sheet 70 = .ok (.iload_n 2, 1) := by decide +kernel
theorem dX7_sheet_71 : decode cX7_sheet 71 = .ok (.ifCond .ne 7, 3) := by decide +kernel
theorem dX7_sheet_74 : decode cX7_sheet 74 = .ok (.iconst 0, 1) := by decide +kernel
theorem dX7_sheet_75 : decode cX7_sheet 75 = .ok (.goto 4, 3) := by decide +kernel
theorem dX7_sheet_78 : decode cX7_sheet 78 = .ok (.iload_n 3, 1) := by decide +kernel
theorem dX7_sheet_79 : decode cX7_sheet 79 = .ok (.iastore, 1) := by decide +kernel
theorem dX7_sheet_80 : decode cX7_sheet 80 = .ok (.iconst 0, 1) := by decide +kernel
theorem dX7_sheet_81 : decode cX7_sheet 81 = .ok (.istore 4, 2) := by decide +kernel
theorem dX7_sheet_83 : decode cX7_sheet 83 = .ok (.iload 4, 2) := by decide +kernel
theorem dX7_sheet_85 : decode cX7_sheet 85 = .ok (.bipush 40, 2) := by decide +kernel
theorem dX7_sheet_87 : decode cX7_sheet 87 = .ok (.if_icmp .ge 22, 3) := by decide +kernel
theorem dX7_sheet_90 : decode cX7_sheet 90 = .ok (.aload_n 0, 1) := by decide +kernel
theorem dX7_sheet_91 : decode cX7_sheet 91 = .ok (.getfield 35, 3) := by decide +kernel
theorem dX7_sheet_94 : decode cX7_sheet 94 = .ok (.bipush 40, 2) := by decide +kernel
theorem dX7_sheet_96 : decode cX7_sheet 96 = .ok (.iload_n 1, 1) := by decide +kernel
theorem dX7_sheet_97 : decode cX7_sheet 97 = .ok (.imul, 1) := by decide +kernel
theorem dX7_sheet_98 : decode cX7_sheet 98 = .ok (.iload 4, 2) := by decide +kernel
theorem dX7_sheet_100 : decode cX7_sheet 100 = .ok (.iadd, 1) := by decide +kernel
theorem dX7_sheet_101 : decode cX7_sheet 101 = .ok (.iconst 0, 1) := by decide +kernel
theorem dX7_sheet_102 : decode cX7_sheet 102 = .ok (.iastore, 1) := by decide +kernel
theorem dX7_sheet_103 : decode cX7_sheet 103 = .ok (.iinc 4 1, 3) := by decide +kernel
theorem dX7_sheet_106 : decode cX7_sheet 106 = .ok (.goto (-23), 3) := by decide +kernel
theorem dX7_sheet_109 : decode cX7_sheet 109 = .ok (.aload_n 0, 1) := by decide +kernel
theorem dX7_sheet_110 : decode cX7_sheet 110 = .ok (.getfield 32, 3) := by decide +kernel
theorem dX7_sheet_113 : decode cX7_sheet 113 = .ok (.iload_n 1, 1) := by decide +kernel
theorem dX7_sheet_114 : decode cX7_sheet 114 = .ok (.iaload, 1) := by decide +kernel
theorem dX7_sheet_115 : decode cX7_sheet 115 = .ok (.ireturn, 1) := by decide +kernel
theorem dX7_whyNone_0 : decode cX7_whyNone 0 = .ok (.iload_n 1, 1) := by decide +kernel
theorem dX7_whyNone_1 : decode cX7_whyNone 1 = .ok (.invokestatic 309, 3) := by decide +kernel
theorem dX7_whyNone_4 : decode cX7_whyNone 4 = .ok (.ifCond .ne 7, 3) := by decide +kernel
theorem dX7_whyNone_7 : decode cX7_whyNone 7 = .ok (.iconst 0, 1) := by decide +kernel
theorem dX7_whyNone_8 : decode cX7_whyNone 8 = .ok (.goto 17, 3) := by decide +kernel
theorem dX7_whyNone_11 : decode cX7_whyNone 11 = .ok (.aload_n 0, 1) := by decide +kernel
theorem dX7_whyNone_12 : decode cX7_whyNone 12 = .ok (.getfield 29, 3) := by decide +kernel
theorem dX7_whyNone_15 : decode cX7_whyNone 15 = .ok (.iload_n 1, 1) := by decide +kernel
theorem dX7_whyNone_16 : decode cX7_whyNone 16 = .ok (.iaload, 1) := by decide +kernel
theorem dX7_whyNone_17 : decode cX7_whyNone 17 = .ok (.ifCond .ne 7, 3) := by decide +kernel
theorem dX7_whyNone_20 : decode cX7_whyNone 20 = .ok (.iconst 5, 1) := by decide +kernel
theorem dX7_whyNone_21 : decode cX7_whyNone 21 = .ok (.goto 4, 3) := by decide +kernel
theorem dX7_whyNone_24 : decode cX7_whyNone 24 = .ok (.iconst (-1), 1) := by decide +kernel
theorem dX7_whyNone_25 : decode cX7_whyNone 25 = .ok (.ireturn, 1) := by decide +kernel
theorem dX7_write_0 : decode cX7_write 0 = .ok (.aload_n 0, 1) := by decide +kernel
theorem dX7_write_1 : decode cX7_write 1 = .ok (.iload_n 1, 1) := by decide +kernel
theorem dX7_write_2 : decode cX7_write 2 = .ok (.invokevirtual 190, 3) := by decide +kernel
theorem dX7_write_5 : decode cX7_write 5 = .ok (.istore 4, 2) := by decide +kernel
theorem dX7_write_7 : decode cX7_write 7 = .ok (.iload 4, 2) := by decide +kernel
theorem dX7_write_9 : decode cX7_write 9 = .ok (.ifCond .ge 25, 3) := by decide +kernel
theorem dX7_write_12 : decode cX7_write 12 = .ok (.iload_n 2, 1) := by decide +kernel
theorem dX7_write_13 : decode cX7_write 13 = .ok (.i2l, 1) := by decide +kernel
theorem dX7_write_14 : decode cX7_write 14 = .ok (.lconst 0, 1) := by decide +kernel
theorem dX7_write_15 : decode cX7_write 15 = .ok (.aload_n 0, 1) := by decide +kernel
theorem dX7_write_16 : decode cX7_write 16 = .ok (.getfield 32, 3) := by decide +kernel
theorem dX7_write_19 : decode cX7_write 19 = .ok (.iload_n 1, 1) := by decide +kernel
theorem dX7_write_20 : decode cX7_write 20 = .ok (.iaload, 1) := by decide +kernel
theorem dX7_write_21 : decode cX7_write 21 = .ok (.iconst 1, 1) := by decide +kernel
theorem dX7_write_22 : decode cX7_write 22 = .ok (.isub, 1) := by decide +kernel
theorem dX7_write_23 : decode cX7_write 23 = .ok (.i2l, 1) := by decide +kernel
theorem dX7_write_24 : decode cX7_write 24 = .ok (.invokestatic 42, 3) := by decide +kernel
theorem dX7_write_27 : decode cX7_write 27 = .ok (.ifCond .ne 7, 3) := by decide +kernel
theorem dX7_write_30 : decode cX7_write 30 = .ok (.iconst 0, 1) := by decide +kernel
theorem dX7_write_31 : decode cX7_write 31 = .ok (.goto 5, 3) := by decide +kernel
theorem dX7_write_34 : decode cX7_write 34 = .ok (.iload 4, 2) := by decide +kernel
theorem dX7_write_36 : decode cX7_write 36 = .ok (.istore 4, 2) := by decide +kernel
theorem dX7_write_38 : decode cX7_write 38 = .ok (.iload 4, 2) := by decide +kernel
theorem dX7_write_40 : decode cX7_write 40 = .ok (.ifCond .lt 10, 3) := by decide +kernel
theorem dX7_write_43 : decode cX7_write 43 = .ok (.aload_n 0, 1) := by decide +kernel
theorem dX7_write_44 : decode cX7_write 44 = .ok (.iload 4, 2) := by decide +kernel
theorem dX7_write_46 : decode cX7_write 46 = .ok (.invokevirtual 128, 3) := by decide +kernel
theorem dX7_write_49 : decode cX7_write 49 = .ok (.ireturn, 1) := by decide +kernel
theorem dX7_write_50 : decode cX7_write 50 = .ok (.aload_n 0, 1) := by decide +kernel
theorem dX7_write_51 : decode cX7_write 51 = .ok (.getfield 35, 3) := by decide +kernel
theorem dX7_write_54 : decode cX7_write 54 = .ok (.bipush 40, 2) := by decide +kernel
theorem dX7_write_56 : decode cX7_write 56 = .ok (.iload_n 1, 1) := by decide +kernel
theorem dX7_write_57 : decode cX7_write 57 = .ok (.imul, 1) := by decide +kernel
theorem dX7_write_58 : decode cX7_write 58 = .ok (.iload_n 2, 1) := by decide +kernel
theorem dX7_write_59 : decode cX7_write 59 = .ok (.iadd, 1) := by decide +kernel
theorem dX7_write_60 : decode cX7_write 60 = .ok (.aload_n 0, 1) := by decide +kernel
theorem dX7_write_61 : decode cX7_write 61 = .ok (.getfield 29, 3) := by decide +kernel
theorem dX7_write_64 : decode cX7_write 64 = .ok (.iload_n 1, 1) := by decide +kernel
theorem dX7_write_65 : decode cX7_write 65 = .ok (.iaload, 1) := by decide +kernel
theorem dX7_write_66 : decode cX7_write 66 = .ok (.bipush 8, 2) := by decide +kernel
theorem dX7_write_68 : decode cX7_write 68 = .ok (.if_icmp .ne 8, 3) := by decide +kernel
theorem dX7_write_71 : decode cX7_write 71 = .ok (.iload_n 3, 1) := by decide +kernel
theorem dX7_write_72 : decode cX7_write 72 = .ok (.i2b, 1) := by decide +kernel
theorem dX7_write_73 : decode cX7_write 73 = .ok (.goto 20, 3) := by decide +kernel
theorem dX7_write_76 : decode cX7_write 76 = .ok (.aload_n 0, 1) := by decide +kernel
theorem dX7_write_77 : decode cX7_write 77 = .ok (.getfield 29, 3) := by decide +kernel
theorem dX7_write_80 : decode cX7_write 80 = .ok (.iload_n 1, 1) := by decide +kernel
theorem dX7_write_81 : decode cX7_write 81 = .ok (.iaload, 1) := by decide +kernel
theorem dX7_write_82 : decode cX7_write 82 = .ok (.bipush 16, 2) := by decide +kernel
theorem dX7_write_84 : decode cX7_write 84 = .ok (.if_icmp .ne 8, 3) := by decide +kernel
theorem dX7_write_87 : decode cX7_write 87 = .ok (.iload_n 3, 1) := by decide +kernel
theorem dX7_write_88 : decode cX7_write 88 = .ok (.i2s, 1) := by decide +kernel
theorem dX7_write_89 : decode cX7_write 89 = .ok (.goto 4, 3) := by decide +kernel
theorem dX7_write_92 : decode cX7_write 92 = .ok (.iload_n 3, 1) := by decide +kernel
theorem dX7_write_93 : decode cX7_write 93 = .ok (.iastore, 1) := by decide +kernel
theorem dX7_write_94 : decode cX7_write 94 = .ok (.iconst 1, 1) := by decide +kernel
theorem dX7_write_95 : decode cX7_write 95 = .ok (.ireturn, 1) := by decide +kernel
theorem dX7_copy_0 : decode cX7_copy 0 = .ok (.iload_n 1, 1) := by decide +kernel
theorem dX7_copy_1 : decode cX7_copy 1 = .ok (.invokestatic 309, 3) := by decide +kernel
theorem dX7_copy_4 : decode cX7_copy 4 = .ok (.ifCond .eq 10, 3) := by decide +kernel
theorem dX7_copy_7 : decode cX7_copy 7 = .ok (.iload_n 3, 1) := by decide +kernel
theorem dX7_copy_8 : decode cX7_copy 8 = .ok (.invokestatic 309, 3) := by decide +kernel
theorem dX7_copy_11 : decode cX7_copy 11 = .ok (.ifCond .ne 9, 3) := by decide +kernel
theorem dX7_copy_14 : decode cX7_copy 14 = .ok (.aload_n 0, 1) := by decide +kernel
theorem dX7_copy_15 : decode cX7_copy 15 = .ok (.iconst 0, 1) := by decide +kernel
theorem dX7_copy_16 : decode cX7_copy 16 = .ok (.invokevirtual 128, 3) := by decide +kernel
theorem dX7_copy_19 : decode cX7_copy 19 = .ok (.ireturn, 1) := by decide +kernel
theorem dX7_copy_20 : decode cX7_copy 20 = .ok (.aload_n 0, 1) := by decide +kernel
theorem dX7_copy_21 : decode cX7_copy 21 = .ok (.getfield 29, 3) := by decide +kernel
theorem dX7_copy_24 : decode cX7_copy 24 = .ok (.iload_n 1, 1) := by decide +kernel
theorem dX7_copy_25 : decode cX7_copy 25 = .ok (.iaload, 1) := by decide +kernel
theorem dX7_copy_26 : decode cX7_copy 26 = .ok (.ifCond .eq 12, 3) := by decide +kernel
theorem dX7_copy_29 : decode cX7_copy 29 = .ok (.aload_n 0, 1) := by decide +kernel
theorem dX7_copy_30 : decode cX7_copy 30 = .ok (.getfield 29, 3) := by decide +kernel
theorem dX7_copy_33 : decode cX7_copy 33 = .ok (.iload_n 3, 1) := by decide +kernel
theorem dX7_copy_34 : decode cX7_copy 34 = .ok (.iaload, 1) := by decide +kernel
theorem dX7_copy_35 : decode cX7_copy 35 = .ok (.ifCond .ne 9, 3) := by decide +kernel
theorem dX7_copy_38 : decode cX7_copy 38 = .ok (.aload_n 0, 1) := by decide +kernel
theorem dX7_copy_39 : decode cX7_copy 39 = .ok (.iconst 5, 1) := by decide +kernel
theorem dX7_copy_40 : decode cX7_copy 40 = .ok (.invokevirtual 128, 3) := by decide +kernel
theorem dX7_copy_43 : decode cX7_copy 43 = .ok (.ireturn, 1) := by decide +kernel
theorem dX7_copy_44 : decode cX7_copy 44 = .ok (.aload_n 0, 1) := by decide +kernel
theorem dX7_copy_45 : decode cX7_copy 45 = .ok (.getfield 29, 3) := by decide +kernel
theorem dX7_copy_48 : decode cX7_copy 48 = .ok (.iload_n 1, 1) := by decide +kernel
theorem dX7_copy_49 : decode cX7_copy 49 = .ok (.iaload, 1) := by decide +kernel
theorem dX7_copy_50 : decode cX7_copy 50 = .ok (.aload_n 0, 1) := by decide +kernel
theorem dX7_copy_51 : decode cX7_copy 51 = .ok (.getfield 29, 3) := by decide +kernel
theorem dX7_copy_54 : decode cX7_copy 54 = .ok (.iload_n 3, 1) := by decide +kernel
theorem dX7_copy_55 : decode cX7_copy 55 = .ok (.iaload, 1) := by decide +kernel
theorem dX7_copy_56 : decode cX7_copy 56 = .ok (.if_icmp .eq 9, 3) := by decide +kernel
theorem dX7_copy_59 : decode cX7_copy 59 = .ok (.aload_n 0, 1) := by decide +kernel
theorem dX7_copy_60 : decode cX7_copy 60 = .ok (.iconst 2, 1) := by decide +kernel
theorem dX7_copy_61 : decode cX7_copy 61 = .ok (.invokevirtual 128, 3) := by decide +kernel
theorem dX7_copy_64 : decode cX7_copy 64 = .ok (.ireturn, 1) := by decide +kernel
theorem dX7_copy_65 : decode cX7_copy 65 = .ok (.iload_n 2, 1) := by decide +kernel
theorem dX7_copy_66 : decode cX7_copy 66 = .ok (.ifCond .lt 48, 3) := by decide +kernel
theorem dX7_copy_69 : decode cX7_copy 69 = .ok (.iload 4, 2) := by decide +kernel
theorem dX7_copy_71 : decode cX7_copy 71 = .ok (.ifCond .lt 43, 3) := by decide +kernel
theorem dX7_copy_74 : decode cX7_copy 74 = .ok (.iload 5, 2) := by decide +kernel
theorem dX7_copy_76 : decode cX7_copy 76 = .ok (.ifCond .lt 38, 3) := by decide +kernel
theorem dX7_copy_79 : decode cX7_copy 79 = .ok (.iload_n 2, 1) := by decide +kernel
theorem dX7_copy_80 : decode cX7_copy 80 = .ok (.i2l, 1) := by decide +kernel
theorem dX7_copy_81 : decode cX7_copy 81 = .ok (.iload 5, 2) := by decide +kernel
theorem dX7_copy_83 : decode cX7_copy 83 = .ok (.i2l, 1) := by decide +kernel
theorem dX7_copy_84 : decode cX7_copy 84 = .ok (.ladd, 1) := by decide +kernel
theorem dX7_copy_85 : decode cX7_copy 85 = .ok (.aload_n 0, 1) := by decide +kernel
theorem dX7_copy_86 : decode cX7_copy 86 = .ok (.getfield 32, 3) := by decide +kernel
theorem dX7_copy_89 : decode cX7_copy 89 = .ok (.iload_n 1, 1) := by decide +kernel
theorem dX7_copy_90 : decode cX7_copy 90 = .ok (.iaload, 1) := by decide +kernel
theorem dX7_copy_91 : decode cX7_copy 91 = .ok (.i2l, 1) := by decide +kernel
theorem dX7_copy_92 : decode cX7_copy 92 = .ok (.lcmp, 1) := by decide +kernel
theorem dX7_copy_93 : decode cX7_copy 93 = .ok (.ifCond .gt 21, 3) := by decide +kernel
theorem dX7_copy_96 : decode cX7_copy 96 = .ok (.iload 4, 2) := by decide +kernel
theorem dX7_copy_98 : decode cX7_copy 98 = .ok (.i2l, 1) := by decide +kernel
theorem dX7_copy_99 : decode cX7_copy 99 = .ok (.iload 5, 2) := by decide +kernel
theorem dX7_copy_101 : decode cX7_copy 101 = .ok (.i2l, 1) := by decide +kernel
theorem dX7_copy_102 : decode cX7_copy 102 = .ok (.ladd, 1) := by decide +kernel
theorem dX7_copy_103 : decode cX7_copy 103 = .ok (.aload_n 0, 1) := by decide +kernel
theorem dX7_copy_104 : decode cX7_copy 104 = .ok (.getfield 32, 3) := by decide +kernel
theorem dX7_copy_107 : decode cX7_copy 107 = .ok (.iload_n 3, 1) := by decide +kernel
theorem dX7_copy_108 : decode cX7_copy 108 = .ok (.iaload, 1) := by decide +kernel
theorem dX7_copy_109 : decode cX7_copy 109 = .ok (.i2l, 1) := by decide +kernel
theorem dX7_copy_110 : decode cX7_copy 110 = .ok (.lcmp, 1) := by decide +kernel
theorem dX7_copy_111 : decode cX7_copy 111 = .ok (.ifCond .le 9, 3) := by decide +kernel
theorem dX7_copy_114 : decode cX7_copy 114 = .ok (.aload_n 0, 1) := by decide +kernel
theorem dX7_copy_115 : decode cX7_copy 115 = .ok (.iconst 0, 1) := by decide +kernel
theorem dX7_copy_116 : decode cX7_copy 116 = .ok (.invokevirtual 128, 3) := by decide +kernel
theorem dX7_copy_119 : decode cX7_copy 119 = .ok (.ireturn, 1) := by decide +kernel
theorem dX7_copy_120 : decode cX7_copy 120 = .ok (.iconst 0, 1) := by decide +kernel
theorem dX7_copy_121 : decode cX7_copy 121 = .ok (.istore 6, 2) := by decide +kernel
theorem dX7_copy_123 : decode cX7_copy 123 = .ok (.iload 6, 2) := by decide +kernel
theorem dX7_copy_125 : decode cX7_copy 125 = .ok (.iload 5, 2) := by decide +kernel
theorem dX7_copy_127 : decode cX7_copy 127 = .ok (.if_icmp .ge 30, 3) := by decide +kernel
theorem dX7_copy_130 : decode cX7_copy 130 = .ok (.aload_n 0, 1) := by decide +kernel
theorem dX7_copy_131 : decode cX7_copy 131 = .ok (.getfield 38, 3) := by decide +kernel
theorem dX7_copy_134 : decode cX7_copy 134 = .ok (.iload 6, 2) := by decide +kernel
theorem dX7_copy_136 : decode cX7_copy 136 = .ok (.aload_n 0, 1) := by decide +kernel
theorem dX7_copy_137 : decode cX7_copy 137 = .ok (.getfield 35, 3) := by decide +kernel
theorem dX7_copy_140 : decode cX7_copy 140 = .ok (.bipush 40, 2) := by decide +kernel
theorem dX7_copy_142 : decode cX7_copy 142 = .ok (.iload_n 1, 1) := by decide +kernel
theorem dX7_copy_143 : decode cX7_copy 143 = .ok (.imul, 1) := by decide +kernel
theorem dX7_copy_144 : decode cX7_copy 144 = .ok (.iload_n 2, 1) := by decide +kernel
theorem dX7_copy_145 : decode cX7_copy 145 = .ok (.iadd, 1) := by decide +kernel
theorem dX7_copy_146 : decode cX7_copy 146 = .ok (.iload 6, 2) := by decide +kernel
theorem dX7_copy_148 : decode cX7_copy 148 = .ok (.iadd, 1) := by decide +kernel
theorem dX7_copy_149 : decode cX7_copy 149 = .ok (.iaload, 1) := by decide +kernel
theorem dX7_copy_150 : decode cX7_copy 150 = .ok (.iastore, 1) := by decide +kernel
theorem dX7_copy_151 : decode cX7_copy 151 = .ok (.iinc 6 1, 3) := by decide +kernel
theorem dX7_copy_154 : decode cX7_copy 154 = .ok (.goto (-31), 3) := by decide +kernel
theorem dX7_copy_157 : decode cX7_copy 157 = .ok (.iconst 0, 1) := by decide +kernel
theorem dX7_copy_158 : decode cX7_copy 158 = .ok (.istore 6, 2) := by decide +kernel
theorem dX7_copy_160 : decode cX7_copy 160 = .ok (.iload 6, 2) := by decide +kernel
theorem dX7_copy_162 : decode cX7_copy 162 = .ok (.iload 5, 2) := by decide +kernel
theorem dX7_copy_164 : decode cX7_copy 164 = .ok (.if_icmp .ge 31, 3) := by decide +kernel
theorem dX7_copy_167 : decode cX7_copy 167 = .ok (.aload_n 0, 1) := by decide +kernel
theorem dX7_copy_168 : decode cX7_copy 168 = .ok (.getfield 35, 3) := by decide +kernel
theorem dX7_copy_171 : decode cX7_copy 171 = .ok (.bipush 40, 2) := by decide +kernel
theorem dX7_copy_173 : decode cX7_copy 173 = .ok (.iload_n 3, 1) := by decide +kernel
theorem dX7_copy_174 : decode cX7_copy 174 = .ok (.imul, 1) := by decide +kernel
theorem dX7_copy_175 : decode cX7_copy 175 = .ok (.iload 4, 2) := by decide +kernel
theorem dX7_copy_177 : decode cX7_copy 177 = .ok (.iadd, 1) := by decide +kernel
theorem dX7_copy_178 : decode cX7_copy 178 = .ok (.iload 6, 2) := by decide +kernel
theorem dX7_copy_180 : decode cX7_copy 180 = .ok (.iadd, 1) := by decide +kernel
theorem dX7_copy_181 : decode cX7_copy 181 = .ok (.aload_n 0, 1) := by decide +kernel
theorem dX7_copy_182 : decode cX7_copy 182 = .ok (.getfield 38, 3) := by decide +kernel
theorem dX7_copy_185 : decode cX7_copy 185 = .ok (.iload 6, 2) := by decide +kernel
theorem dX7_copy_187 : decode cX7_copy 187 = .ok (.iaload, 1) := by decide +kernel
theorem dX7_copy_188 : decode cX7_copy 188 = .ok (.iastore, 1) := by decide +kernel
theorem dX7_copy_189 : decode cX7_copy 189 = .ok (.iinc 6 1, 3) := by decide +kernel
theorem dX7_copy_192 : decode cX7_copy 192 = .ok (.goto (-32), 3) := by decide +kernel
theorem dX7_copy_195 : decode cX7_copy 195 = .ok (.iload 5, 2) := by decide +kernel
theorem dX7_copy_197 : decode cX7_copy 197 = .ok (.ireturn, 1) := by decide +kernel
theorem dX7_load_0 : decode cX7_load 0 = .ok (.aload_n 0, 1) := by decide +kernel
theorem dX7_load_1 : decode cX7_load 1 = .ok (.iload_n 1, 1) := by decide +kernel
theorem dX7_load_2 : decode cX7_load 2 = .ok (.invokevirtual 190, 3) := by decide +kernel
theorem dX7_load_5 : decode cX7_load 5 = .ok (.istore_n 2, 1) := by decide +kernel
theorem dX7_load_6 : decode cX7_load 6 = .ok (.iload_n 2, 1) := by decide +kernel
theorem dX7_load_7 : decode cX7_load 7 = .ok (.ifCond .lt 9, 3) := by decide +kernel
theorem dX7_load_10 : decode cX7_load 10 = .ok (.aload_n 0, 1) := by decide +kernel
theorem dX7_load_11 : decode cX7_load 11 = .ok (.iload_n 2, 1) := by decide +kernel
theorem dX7_load_12 : decode cX7_load 12 = .ok (.invokevirtual 128, 3) := by decide +kernel
theorem dX7_load_15 : decode cX7_load 15 = .ok (.ireturn, 1) := by decide +kernel
theorem dX7_load_16 : decode cX7_load 16 = .ok (.iconst 0, 1) := by decide +kernel
theorem dX7_load_17 : decode cX7_load 17 = .ok (.istore_n 3, 1) := by decide +kernel
theorem dX7_load_18 : decode cX7_load 18 = .ok (.iload_n 3, 1) := by decide +kernel
theorem dX7_load_19 : decode cX7_load 19 = .ok (.aload_n 0, 1) := by decide +kernel
theorem dX7_load_20 : decode cX7_load 20 = .ok (.getfield 32, 3) := by decide +kernel
theorem dX7_load_23 : decode cX7_load 23 = .ok (.iload_n 1, 1) := by decide +kernel
theorem dX7_load_24 : decode cX7_load 24 = .ok (.iaload, 1) := by decide +kernel
theorem dX7_load_25 : decode cX7_load 25 = .ok (.if_icmp .ge 51, 3) := by decide +kernel
theorem dX7_load_28 : decode cX7_load 28 = .ok (.iload_n 3, 1) := by decide +kernel
theorem dX7_load_29 : decode cX7_load 29 = .ok (.bipush 6, 2) := by decide +kernel
theorem dX7_load_31 : decode cX7_load 31 = .ok (.if_icmp .ge 45, 3) := by decide +kernel
theorem dX7_load_34 : decode cX7_load 34 = .ok (.aload_n 0, 1) := by decide +kernel
theorem dX7_load_35 : decode cX7_load 35 = .ok (.getfield 35, 3) := by decide +kernel
theorem dX7_load_38 : decode cX7_load 38 = .ok (.bipush 40, 2) := by decide +kernel
theorem dX7_load_40 : decode cX7_load 40 = .ok (.iload_n 1, 1) := by decide +kernel
theorem dX7_load_41 : decode cX7_load 41 = .ok (.imul, 1) := by decide +kernel
theorem dX7_load_42 : decode cX7_load 42 = .ok (.iload_n 3, 1) := by decide +kernel
theorem dX7_load_43 : decode cX7_load 43 = .ok (.iadd, 1) := by decide +kernel
theorem dX7_load_44 : decode cX7_load 44 = .ok (.iaload, 1) := by decide +kernel
theorem dX7_load_45 : decode cX7_load 45 = .ok (.invokestatic 122, 3) := by decide +kernel
theorem dX7_load_48 : decode cX7_load 48 = .ok (.ifCond .eq 28, 3) := by decide +kernel
theorem dX7_load_51 : decode cX7_load 51 = .ok (.aload_n 0, 1) := by decide +kernel
theorem dX7_load_52 : decode cX7_load 52 = .ok (.getfield 7, 3) := by decide +kernel
theorem dX7_load_55 : decode cX7_load 55 = .ok (.iconst 3, 1) := by decide +kernel
theorem dX7_load_56 : decode cX7_load 56 = .ok (.iload_n 3, 1) := by decide +kernel
theorem dX7_load_57 : decode cX7_load 57 = .ok (.iadd, 1) := by decide +kernel
theorem dX7_load_58 : decode cX7_load 58 = .ok (.aload_n 0, 1) := by decide +kernel
theorem dX7_load_59 : decode cX7_load 59 = .ok (.getfield 35, 3) := by decide +kernel
theorem dX7_load_62 : decode cX7_load 62 = .ok (.bipush 40, 2) := by decide +kernel
theorem dX7_load_64 : decode cX7_load 64 = .ok (.iload_n 1, 1) := by decide +kernel
theorem dX7_load_65 : decode cX7_load 65 = .ok (.imul, 1) := by decide +kernel
theorem dX7_load_66 : decode cX7_load 66 = .ok (.iload_n 3, 1) := by decide +kernel
theorem dX7_load_67 : decode cX7_load 67 = .ok (.iadd, 1) := by decide +kernel
theorem dX7_load_68 : decode cX7_load 68 = .ok (.iaload, 1) := by decide +kernel
theorem dX7_load_69 : decode cX7_load 69 = .ok (.iastore, 1) := by decide +kernel
theorem dX7_load_70 : decode cX7_load 70 = .ok (.iinc 3 1, 3) := by decide +kernel
theorem dX7_load_73 : decode cX7_load 73 = .ok (.goto (-55), 3) := by decide +kernel
theorem dX7_load_76 : decode cX7_load 76 = .ok (.iload_n 3, 1) := by decide +kernel
theorem dX7_load_77 : decode cX7_load 77 = .ok (.ireturn, 1) := by decide +kernel
theorem dX7_judge_0 : decode cX7_judge 0 = .ok (.aload_n 0, 1) := by decide +kernel
theorem dX7_judge_1 : decode cX7_judge 1 = .ok (.iload_n 1, 1) := by decide +kernel
theorem dX7_judge_2 : decode cX7_judge 2 = .ok (.invokevirtual 190, 3) := by decide +kernel
theorem dX7_judge_5 : decode cX7_judge 5 = .ok (.istore_n 2, 1) := by decide +kernel
theorem dX7_judge_6 : decode cX7_judge 6 = .ok (.iload_n 2, 1) := by decide +kernel
theorem dX7_judge_7 : decode cX7_judge 7 = .ok (.ifCond .lt 9, 3) := by decide +kernel
theorem dX7_judge_10 : decode cX7_judge 10 = .ok (.aload_n 0, 1) := by decide +kernel
theorem dX7_judge_11 : decode cX7_judge 11 = .ok (.iload_n 2, 1) := by decide +kernel
theorem dX7_judge_12 : decode cX7_judge 12 = .ok (.invokevirtual 128, 3) := by decide +kernel
theorem dX7_judge_15 : decode cX7_judge 15 = .ok (.ireturn, 1) := by decide +kernel
theorem dX7_judge_16 : decode cX7_judge 16 = .ok (.iconst 0, 1) := by decide +kernel
theorem dX7_judge_17 : decode cX7_judge 17 = .ok (.istore_n 3, 1) := by decide +kernel
theorem dX7_judge_18 : decode cX7_judge 18 = .ok (.iload_n 3, 1) := by decide +kernel
theorem dX7_judge_19 : decode cX7_judge 19 = .ok (.aload_n 0, 1) := by decide +kernel
theorem dX7_judge_20 : decode cX7_judge 20 = .ok (.getfield 32, 3) := by decide +kernel
theorem dX7_judge_23 : decode cX7_judge 23 = .ok (.iload_n 1, 1) := by decide +kernel
theorem dX7_judge_24 : decode cX7_judge 24 = .ok (.iaload, 1) := by decide +kernel
theorem dX7_judge_25 : decode cX7_judge 25 = .ok (.if_icmp .ge 41, 3) := by decide +kernel
theorem dX7_judge_28 : decode cX7_judge 28 = .ok (.aload_n 0, 1) := by decide +kernel
theorem dX7_judge_29 : decode cX7_judge 29 = .ok (.iload_n 3, 1) := by decide +kernel
theorem dX7_judge_30 : decode cX7_judge 30 = .ok (.invokevirtual 138, 3) := by decide +kernel
theorem dX7_judge_33 : decode cX7_judge 33 = .ok (.ifCond .eq 23, 3) := by decide +kernel
theorem dX7_judge_36 : decode cX7_judge 36 = .ok (.aload_n 0, 1) := by decide +kernel
theorem dX7_judge_37 : decode cX7_judge 37 = .ok (.getfield 35, 3) := by decide +kernel
theorem dX7_judge_40 : decode cX7_judge 40 = .ok (.bipush 40, 2) := by decide +kernel
theorem dX7_judge_42 : decode cX7_judge 42 = .ok (.iload_n 1, 1) := by decide +kernel
theorem dX7_judge_43 : decode cX7_judge 43 = .ok (.imul, 1) := by decide +kernel
theorem dX7_judge_44 : decode cX7_judge 44 = .ok (.iload_n 3, 1) := by decide +kernel
theorem dX7_judge_45 : decode cX7_judge 45 = .ok (.iadd, 1) := by decide +kernel
theorem dX7_judge_46 : decode cX7_judge 46 = .ok (.iaload, 1) := by decide +kernel
theorem dX7_judge_47 : decode cX7_judge 47 = .ok (.aload_n 0, 1) := by decide +kernel
theorem dX7_judge_48 : decode cX7_judge 48 = .ok (.iload_n 3, 1) := by decide +kernel
theorem dX7_judge_49 : decode cX7_judge 49 = .ok (.iconst 5, 1) := by decide +kernel
theorem dX7_judge_50 : decode cX7_judge 50 = .ok (.invokevirtual 58, 3) := by decide +kernel
theorem dX7_judge_53 : decode cX7_judge 53 = .ok (.if_icmp .eq 7, 3) := by decide +kernel
theorem dX7_judge_56 : decode cX7_judge 56 = .ok (.iconst 1, 1) := by decide +kernel
theorem dX7_judge_57 : decode cX7_judge 57 = .ok (.iload_n 3, 1) := by decide +kernel
theorem dX7_judge_58 : decode cX7_judge 58 = .ok (.iadd, 1) := by decide +kernel
theorem dX7_judge_59 : decode cX7_judge 59 = .ok (.ireturn, 1) := by decide +kernel
theorem dX7_judge_60 : decode cX7_judge 60 = .ok (.iinc 3 1, 3) := by decide +kernel
theorem dX7_judge_63 : decode cX7_judge 63 = .ok (.goto (-45), 3) := by decide +kernel
theorem dX7_judge_66 : decode cX7_judge 66 = .ok (.iconst 0, 1) := by decide +kernel
theorem dX7_judge_67 : decode cX7_judge 67 = .ok (.ireturn, 1) := by decide +kernel
theorem dX7_image_0 : decode cX7_image 0 = .ok (.aload_n 0, 1) := by decide +kernel
theorem dX7_image_1 : decode cX7_image 1 = .ok (.getfield 7, 3) := by decide +kernel
theorem dX7_image_4 : decode cX7_image 4 = .ok (.aload_n 0, 1) := by decide +kernel
theorem dX7_image_5 : decode cX7_image 5 = .ok (.getfield 19, 3) := by decide +kernel
theorem dX7_image_8 : decode cX7_image 8 = .ok (.invokestatic 167, 3) := by decide +kernel
theorem dX7_image_11 : decode cX7_image 11 = .ok (.aload_n 0, 1) := by decide +kernel
theorem dX7_image_12 : decode cX7_image 12 = .ok (.iconst 1, 1) := by decide +kernel
theorem dX7_image_13 : decode cX7_image 13 = .ok (.putfield 312, 3) := by decide +kernel
theorem dX7_image_16 : decode cX7_image 16 = .ok (.iconst 1, 1) := by decide +kernel
theorem dX7_image_17 : decode cX7_image 17 = .ok (.ireturn, 1) := by decide +kernel
theorem dX7_undo_0 : decode cX7_undo 0 = .ok (.aload_n 0, 1) := by decide +kernel
theorem dX7_undo_1 : decode cX7_undo 1 = .ok (.getfield 312, 3) := by decide +kernel
theorem dX7_undo_4 : decode cX7_undo 4 = .ok (.ifCond .ne 9, 3) := by decide +kernel
theorem dX7_undo_7 : decode cX7_undo 7 = .ok (.aload_n 0, 1) := by decide +kernel
theorem dX7_undo_8 : decode cX7_undo 8 = .ok (.iconst 3, 1) := by decide +kernel
theorem dX7_undo_9 : decode cX7_undo 9 = .ok (.invokevirtual 128, 3) := by decide +kernel
theorem dX7_undo_12 : decode cX7_undo 12 = .ok (.ireturn, 1) := by decide +kernel
theorem dX7_undo_13 : decode cX7_undo 13 = .ok (.aload_n 0, 1) := by decide +kernel
theorem dX7_undo_14 : decode cX7_undo 14 = .ok (.getfield 19, 3) := by decide +kernel
theorem dX7_undo_17 : decode cX7_undo 17 = .ok (.aload_n 0, 1) := by decide +kernel
theorem dX7_undo_18 : decode cX7_undo 18 = .ok (.getfield 7, 3) := by decide +kernel
theorem dX7_undo_21 : decode cX7_undo 21 = .ok (.invokestatic 167, 3) := by decide +kernel
theorem dX7_undo_24 : decode cX7_undo 24 = .ok (.aload_n 0, 1) := by decide +kernel
theorem dX7_undo_25 : decode cX7_undo 25 = .ok (.getfield 7, 3) := by decide +kernel
theorem dX7_undo_28 : decode cX7_undo 28 = .ok (.iconst 1, 1) := by decide +kernel
theorem dX7_undo_29 : decode cX7_undo 29 = .ok (.iaload, 1) := by decide +kernel
theorem dX7_undo_30 : decode cX7_undo 30 = .ok (.ireturn, 1) := by decide +kernel
theorem dX7_tear_0 : decode cX7_tear 0 = .ok (.aload_n 0, 1) := by decide +kernel
theorem dX7_tear_1 : decode cX7_tear 1 = .ok (.getfield 312, 3) := by decide +kernel
theorem dX7_tear_4 : decode cX7_tear 4 = .ok (.ifCond .eq 7, 3) := by decide +kernel
theorem dX7_tear_7 : decode cX7_tear 7 = .ok (.iconst 1, 1) := by decide +kernel
theorem dX7_tear_8 : decode cX7_tear 8 = .ok (.goto 4, 3) := by decide +kernel
theorem dX7_tear_11 : decode cX7_tear 11 = .ok (.iconst 0, 1) := by decide +kernel
theorem dX7_tear_12 : decode cX7_tear 12 = .ok (.istore_n 1, 1) := by decide +kernel
theorem dX7_tear_13 : decode cX7_tear 13 = .ok (.aload_n 0, 1) := by decide +kernel
theorem dX7_tear_14 : decode cX7_tear 14 = .ok (.iconst 0, 1) := by decide +kernel
theorem dX7_tear_15 : decode cX7_tear 15 = .ok (.putfield 312, 3) := by decide +kernel
theorem dX7_tear_18 : decode cX7_tear 18 = .ok (.iload_n 1, 1) := by decide +kernel
theorem dX7_tear_19 : decode cX7_tear 19 = .ok (.ireturn, 1) := by decide +kernel
theorem dX7_holding_0 : decode cX7_holding 0 = .ok (.iconst 0, 1) := by decide +kernel
theorem dX7_holding_1 : decode cX7_holding 1 = .ok (.istore_n 1, 1) := by decide +kernel
theorem dX7_holding_2 : decode cX7_holding 2 = .ok (.iconst 0, 1) := by decide +kernel
theorem dX7_holding_3 : decode cX7_holding 3 = .ok (.istore_n 2, 1) := by decide +kernel
theorem dX7_holding_4 : decode cX7_holding 4 = .ok (.iload_n 2, 1) := by decide +kernel
theorem dX7_holding_5 : decode cX7_holding 5 = .ok (.bipush 10, 2) := by decide +kernel
theorem dX7_holding_7 : decode cX7_holding 7 = .ok (.if_icmp .ge 29, 3) := by decide +kernel
theorem dX7_holding_10 : decode cX7_holding 10 = .ok (.iload_n 1, 1) := by decide +kernel
theorem dX7_holding_11 : decode cX7_holding 11 = .ok (.aload_n 0, 1) := by decide +kernel
theorem dX7_holding_12 : decode cX7_holding 12 = .ok (.getfield 7, 3) := by decide +kernel
theorem dX7_holding_15 : decode cX7_holding 15 = .ok (.bipush 65, 2) := by decide +kernel
theorem dX7_holding_17 : decode cX7_holding 17 = .ok (.iload_n 2, 1) := by decide +kernel
theorem dX7_holding_18 : decode cX7_holding 18 = .ok (.iadd, 1) := by decide +kernel
theorem dX7_holding_19 : decode cX7_holding 19 = .ok (.iaload, 1) := by decide +kernel
theorem dX7_holding_20 : decode cX7_holding 20 = .ok (.ifCond .le 7, 3) := by decide +kernel
theorem dX7_holding_23 : decode cX7_holding 23 = .ok (.iconst 1, 1) := by decide +kernel
theorem dX7_holding_24 : decode cX7_holding 24 = .ok (.goto 4, 3) := by decide +kernel
theorem dX7_holding_27 : decode cX7_holding 27 = .ok (.iconst 0, 1) := by decide +kernel
theorem dX7_holding_28 : decode cX7_holding 28 = .ok (.iadd, 1) := by decide +kernel
theorem dX7_holding_29 : decode cX7_holding 29 = .ok (.istore_n 1, 1) := by decide +kernel
theorem dX7_holding_30 : decode cX7_holding 30 = .ok (.iinc 2 1, 3) := by decide +kernel
theorem dX7_holding_33 : decode cX7_holding 33 = .ok (.goto (-29), 3) := by decide +kernel
theorem dX7_holding_36 : decode cX7_holding 36 = .ok (.iload_n 1, 1) := by decide +kernel
theorem dX7_holding_37 : decode cX7_holding 37 = .ok (.ireturn, 1) := by decide +kernel
theorem dX7_count_0 : decode cX7_count 0 = .ok (.iload_n 1, 1) := by decide +kernel
theorem dX7_count_1 : decode cX7_count 1 = .ok (.tableswitch 99 0 7 #[47, 54, 61, 69, 77, 82, 87, 94], 47) := by decide +kernel
theorem dX7_count_48 : decode cX7_count 48 = .ok (.aload_n 0, 1) := by decide +kernel
theorem dX7_count_49 : decode cX7_count 49 = .ok (.getfield 7, 3) := by decide +kernel
theorem dX7_count_52 : decode cX7_count 52 = .ok (.iconst 1, 1) := by decide +kernel
theorem dX7_count_53 : decode cX7_count 53 = .ok (.iaload, 1) := by decide +kernel
theorem dX7_count_54 : decode cX7_count 54 = .ok (.ireturn, 1) := by decide +kernel
theorem dX7_count_55 : decode cX7_count 55 = .ok (.aload_n 0, 1) := by decide +kernel
theorem dX7_count_56 : decode cX7_count 56 = .ok (.getfield 7, 3) := by decide +kernel
theorem dX7_count_59 : decode cX7_count 59 = .ok (.iconst 0, 1) := by decide +kernel
theorem dX7_count_60 : decode cX7_count 60 = .ok (.iaload, 1) := by decide +kernel
theorem dX7_count_61 : decode cX7_count 61 = .ok (.ireturn, 1) := by decide +kernel
theorem dX7_count_62 : decode cX7_count 62 = .ok (.aload_n 0, 1) := by decide +kernel
theorem dX7_count_63 : decode cX7_count 63 = .ok (.invokevirtual 155, 3) := by decide +kernel
theorem dX7_count_66 : decode cX7_count 66 = .ok (.invokestatic 84, 3) := by decide +kernel
theorem dX7_count_69 : decode cX7_count 69 = .ok (.ireturn, 1) := by decide +kernel
theorem dX7_count_70 : decode cX7_count 70 = .ok (.aload_n 0, 1) := by decide +kernel
theorem dX7_count_71 : decode cX7_count 71 = .ok (.invokevirtual 158, 3) := by decide +kernel
theorem dX7_count_74 : decode cX7_count 74 = .ok (.invokestatic 84, 3) := by decide +kernel
theorem dX7_count_77 : decode cX7_count 77 = .ok (.ireturn, 1) := by decide +kernel
theorem dX7_count_78 : decode cX7_count 78 = .ok (.aload_n 0, 1) := by decide +kernel
theorem dX7_count_79 : decode cX7_count 79 = .ok (.invokevirtual 161, 3) := by decide +kernel
theorem dX7_count_82 : decode cX7_count 82 = .ok (.ireturn, 1) := by decide +kernel
theorem dX7_count_83 : decode cX7_count 83 = .ok (.aload_n 0, 1) := by decide +kernel
theorem dX7_count_84 : decode cX7_count 84 = .ok (.getfield 205, 3) := by decide +kernel
theorem dX7_count_87 : decode cX7_count 87 = .ok (.ireturn, 1) := by decide +kernel
theorem dX7_count_88 : decode cX7_count 88 = .ok (.aload_n 0, 1) := by decide +kernel
theorem dX7_count_89 : decode cX7_count 89 = .ok (.getfield 7, 3) := by decide +kernel
theorem dX7_count_92 : decode cX7_count 92 = .ok (.iconst 2, 1) := by decide +kernel
theorem dX7_count_93 : decode cX7_count 93 = .ok (.iaload, 1) := by decide +kernel
theorem dX7_count_94 : decode cX7_count 94 = .ok (.ireturn, 1) := by decide +kernel
theorem dX7_count_95 : decode cX7_count 95 = .ok (.aload_n 0, 1) := by decide +kernel
theorem dX7_count_96 : decode cX7_count 96 = .ok (.invokevirtual 316, 3) := by decide +kernel
theorem dX7_count_99 : decode cX7_count 99 = .ok (.ireturn, 1) := by decide +kernel
theorem dX7_count_100 : decode cX7_count 100 = .ok (.aload_n 0, 1) := by decide +kernel
theorem dX7_count_101 : decode cX7_count 101 = .ok (.iconst 0, 1) := by decide +kernel
theorem dX7_count_102 : decode cX7_count 102 = .ok (.invokevirtual 128, 3) := by decide +kernel
theorem dX7_count_105 : decode cX7_count 105 = .ok (.ireturn, 1) := by decide +kernel
theorem dX7_status_0 : decode cX7_status 0 = .ok (.iload_n 1, 1) := by decide +kernel
theorem dX7_status_1 : decode cX7_status 1 = .ok (.i2l, 1) := by decide +kernel
theorem dX7_status_2 : decode cX7_status 2 = .ok (.ldc2_w 304, 3) := by decide +kernel
theorem dX7_status_5 : decode cX7_status 5 = .ok (.ldc2_w 133, 3) := by decide +kernel
theorem dX7_status_8 : decode cX7_status 8 = .ok (.invokestatic 42, 3) := by decide +kernel
theorem dX7_status_11 : decode cX7_status 11 = .ok (.ifCond .ne 9, 3) := by decide +kernel
theorem dX7_status_14 : decode cX7_status 14 = .ok (.aload_n 0, 1) := by decide +kernel
theorem dX7_status_15 : decode cX7_status 15 = .ok (.iconst 0, 1) := by decide +kernel
theorem dX7_status_16 : decode cX7_status 16 = .ok (.invokevirtual 128, 3) := by decide +kernel
theorem dX7_status_19 : decode cX7_status 19 = .ok (.ireturn, 1) := by decide +kernel
theorem dX7_status_20 : decode cX7_status 20 = .ok (.iconst 0, 1) := by decide +kernel
theorem dX7_status_21 : decode cX7_status 21 = .ok (.istore_n 2, 1) := by decide +kernel
theorem dX7_status_22 : decode cX7_status 22 = .ok (.iconst 0, 1) := by decide +kernel
theorem dX7_status_23 : decode cX7_status 23 = .ok (.istore_n 3, 1) := by decide +kernel
theorem dX7_status_24 : decode cX7_status 24 = .ok (.iload_n 3, 1) := by decide +kernel
theorem dX7_status_25 : decode cX7_status 25 = .ok (.bipush 7, 2) := by decide +kernel
theorem dX7_status_27 : decode cX7_status 27 = .ok (.if_icmp .ge 18, 3) := by decide +kernel
theorem dX7_status_30 : decode cX7_status 30 = .ok (.iload_n 2, 1) := by decide +kernel
theorem dX7_status_31 : decode cX7_status 31 = .ok (.aload_n 0, 1) := by decide +kernel
theorem dX7_status_32 : decode cX7_status 32 = .ok (.getfield 22, 3) := by decide +kernel
theorem dX7_status_35 : decode cX7_status 35 = .ok (.iload_n 3, 1) := by decide +kernel
theorem dX7_status_36 : decode cX7_status 36 = .ok (.iaload, 1) := by decide +kernel
theorem dX7_status_37 : decode cX7_status 37 = .ok (.iadd, 1) := by decide +kernel
theorem dX7_status_38 : decode cX7_status 38 = .ok (.istore_n 2, 1) := by decide +kernel
theorem dX7_status_39 : decode cX7_status 39 = .ok (.iinc 3 1, 3) := by decide +kernel
theorem dX7_status_42 : decode cX7_status 42 = .ok (.goto (-18), 3) := by decide +kernel
theorem dX7_status_45 : decode cX7_status 45 = .ok (.iload_n 1, 1) := by decide +kernel
theorem dX7_status_46 : decode cX7_status 46 = .ok (.ifCond .ge 7, 3) := by decide +kernel
theorem dX7_status_49 : decode cX7_status 49 = .ok (.iload_n 2, 1) := by decide +kernel
theorem dX7_status_50 : decode cX7_status 50 = .ok (.goto 9, 3) := by decide +kernel
theorem dX7_status_53 : decode cX7_status 53 = .ok (.aload_n 0, 1) := by decide +kernel
theorem dX7_status_54 : decode cX7_status 54 = .ok (.getfield 22, 3) := by decide +kernel
theorem dX7_status_57 : decode cX7_status 57 = .ok (.iload_n 1, 1) := by decide +kernel
theorem dX7_status_58 : decode cX7_status 58 = .ok (.iaload, 1) := by decide +kernel
theorem dX7_status_59 : decode cX7_status 59 = .ok (.ireturn, 1) := by decide +kernel
theorem dJ6_bitCount_0f7a4_0 : decode cJ6_bitCount_0f7a4 0 = .ok (.iload_n 0, 1) := by decide +kernel
theorem dJ6_bitCount_0f7a4_1 : decode cJ6_bitCount_0f7a4 1 = .ok (.iload_n 0, 1) := by decide +kernel
theorem dJ6_bitCount_0f7a4_2 : decode cJ6_bitCount_0f7a4 2 = .ok (.iconst 1, 1) := by decide +kernel
theorem dJ6_bitCount_0f7a4_3 : decode cJ6_bitCount_0f7a4 3 = .ok (.iushr, 1) := by decide +kernel
theorem dJ6_bitCount_0f7a4_4 : decode cJ6_bitCount_0f7a4 4 = .ok (.ldc_w 265, 3) := by decide +kernel
theorem dJ6_bitCount_0f7a4_7 : decode cJ6_bitCount_0f7a4 7 = .ok (.iand, 1) := by decide +kernel
theorem dJ6_bitCount_0f7a4_8 : decode cJ6_bitCount_0f7a4 8 = .ok (.isub, 1) := by decide +kernel
theorem dJ6_bitCount_0f7a4_9 : decode cJ6_bitCount_0f7a4 9 = .ok (.istore_n 0, 1) := by decide +kernel
theorem dJ6_bitCount_0f7a4_10 : decode cJ6_bitCount_0f7a4 10 = .ok (.iload_n 0, 1) := by decide +kernel
theorem dJ6_bitCount_0f7a4_11 : decode cJ6_bitCount_0f7a4 11 = .ok (.ldc_w 266, 3) := by decide +kernel
theorem dJ6_bitCount_0f7a4_14 : decode cJ6_bitCount_0f7a4 14 = .ok (.iand, 1) := by decide +kernel
theorem dJ6_bitCount_0f7a4_15 : decode cJ6_bitCount_0f7a4 15 = .ok (.iload_n 0, 1) := by decide +kernel
theorem dJ6_bitCount_0f7a4_16 : decode cJ6_bitCount_0f7a4 16 = .ok (.iconst 2, 1) := by decide +kernel
theorem dJ6_bitCount_0f7a4_17 : decode cJ6_bitCount_0f7a4 17 = .ok (.iushr, 1) := by decide +kernel
theorem dJ6_bitCount_0f7a4_18 : decode cJ6_bitCount_0f7a4 18 = .ok (.ldc_w 266, 3) := by decide +kernel
theorem dJ6_bitCount_0f7a4_21 : decode cJ6_bitCount_0f7a4 21 = .ok (.iand, 1) := by decide +kernel
theorem dJ6_bitCount_0f7a4_22 : decode cJ6_bitCount_0f7a4 22 = .ok (.iadd, 1) := by decide +kernel
theorem dJ6_bitCount_0f7a4_23 : decode cJ6_bitCount_0f7a4 23 = .ok (.istore_n 0, 1) := by decide +kernel
theorem dJ6_bitCount_0f7a4_24 : decode cJ6_bitCount_0f7a4 24 = .ok (.iload_n 0, 1) := by decide +kernel
theorem dJ6_bitCount_0f7a4_25 : decode cJ6_bitCount_0f7a4 25 = .ok (.iload_n 0, 1) := by decide +kernel
theorem dJ6_bitCount_0f7a4_26 : decode cJ6_bitCount_0f7a4 26 = .ok (.iconst 4, 1) := by decide +kernel
theorem dJ6_bitCount_0f7a4_27 : decode cJ6_bitCount_0f7a4 27 = .ok (.iushr, 1) := by decide +kernel
theorem dJ6_bitCount_0f7a4_28 : decode cJ6_bitCount_0f7a4 28 = .ok (.iadd, 1) := by decide +kernel
theorem dJ6_bitCount_0f7a4_29 : decode cJ6_bitCount_0f7a4 29 = .ok (.ldc_w 267, 3) := by decide +kernel
theorem dJ6_bitCount_0f7a4_32 : decode cJ6_bitCount_0f7a4 32 = .ok (.iand, 1) := by decide +kernel
theorem dJ6_bitCount_0f7a4_33 : decode cJ6_bitCount_0f7a4 33 = .ok (.istore_n 0, 1) := by decide +kernel
theorem dJ6_bitCount_0f7a4_34 : decode cJ6_bitCount_0f7a4 34 = .ok (.iload_n 0, 1) := by decide +kernel
theorem dJ6_bitCount_0f7a4_35 : decode cJ6_bitCount_0f7a4 35 = .ok (.iload_n 0, 1) := by decide +kernel
theorem dJ6_bitCount_0f7a4_36 : decode cJ6_bitCount_0f7a4 36 = .ok (.bipush 8, 2) := by decide +kernel
theorem dJ6_bitCount_0f7a4_38 : decode cJ6_bitCount_0f7a4 38 = .ok (.iushr, 1) := by decide +kernel
theorem dJ6_bitCount_0f7a4_39 : decode cJ6_bitCount_0f7a4 39 = .ok (.iadd, 1) := by decide +kernel
theorem dJ6_bitCount_0f7a4_40 : decode cJ6_bitCount_0f7a4 40 = .ok (.istore_n 0, 1) := by decide +kernel
theorem dJ6_bitCount_0f7a4_41 : decode cJ6_bitCount_0f7a4 41 = .ok (.iload_n 0, 1) := by decide +kernel
theorem dJ6_bitCount_0f7a4_42 : decode cJ6_bitCount_0f7a4 42 = .ok (.iload_n 0, 1) := by decide +kernel
theorem dJ6_bitCount_0f7a4_43 : decode cJ6_bitCount_0f7a4 43 = .ok (.bipush 16, 2) := by decide +kernel
theorem dJ6_bitCount_0f7a4_45 : decode cJ6_bitCount_0f7a4 45 = .ok (.iushr, 1) := by decide +kernel
theorem dJ6_bitCount_0f7a4_46 : decode cJ6_bitCount_0f7a4 46 = .ok (.iadd, 1) := by decide +kernel
theorem dJ6_bitCount_0f7a4_47 : decode cJ6_bitCount_0f7a4 47 = .ok (.istore_n 0, 1) := by decide +kernel
theorem dJ6_bitCount_0f7a4_48 : decode cJ6_bitCount_0f7a4 48 = .ok (.iload_n 0, 1) := by decide +kernel
theorem dJ6_bitCount_0f7a4_49 : decode cJ6_bitCount_0f7a4 49 = .ok (.bipush 63, 2) := by decide +kernel
theorem dJ6_bitCount_0f7a4_51 : decode cJ6_bitCount_0f7a4 51 = .ok (.iand, 1) := by decide +kernel
theorem dJ6_bitCount_0f7a4_52 : decode cJ6_bitCount_0f7a4 52 = .ok (.ireturn, 1) := by decide +kernel
theorem dJ9_floorMod_7cf53_0 : decode cJ9_floorMod_7cf53 0 = .ok (.iload_n 0, 1) := by decide +kernel
theorem dJ9_floorMod_7cf53_1 : decode cJ9_floorMod_7cf53 1 = .ok (.iload_n 1, 1) := by decide +kernel
theorem dJ9_floorMod_7cf53_2 : decode cJ9_floorMod_7cf53 2 = .ok (.irem, 1) := by decide +kernel
theorem dJ9_floorMod_7cf53_3 : decode cJ9_floorMod_7cf53 3 = .ok (.istore_n 2, 1) := by decide +kernel
theorem dJ9_floorMod_7cf53_4 : decode cJ9_floorMod_7cf53 4 = .ok (.iload_n 0, 1) := by decide +kernel
theorem dJ9_floorMod_7cf53_5 : decode cJ9_floorMod_7cf53 5 = .ok (.iload_n 1, 1) := by decide +kernel
theorem dJ9_floorMod_7cf53_6 : decode cJ9_floorMod_7cf53 6 = .ok (.ixor, 1) := by decide +kernel
theorem dJ9_floorMod_7cf53_7 : decode cJ9_floorMod_7cf53 7 = .ok (.ifCond .ge 11, 3) := by decide +kernel
theorem dJ9_floorMod_7cf53_10 : decode cJ9_floorMod_7cf53 10 = .ok (.iload_n 2, 1) := by decide +kernel
theorem dJ9_floorMod_7cf53_11 : decode cJ9_floorMod_7cf53 11 = .ok (.ifCond .eq 7, 3) := by decide +kernel
theorem dJ9_floorMod_7cf53_14 : decode cJ9_floorMod_7cf53 14 = .ok (.iload_n 2, 1) := by decide +kernel
theorem dJ9_floorMod_7cf53_15 : decode cJ9_floorMod_7cf53 15 = .ok (.iload_n 1, 1) := by decide +kernel
theorem dJ9_floorMod_7cf53_16 : decode cJ9_floorMod_7cf53 16 = .ok (.iadd, 1) := by decide +kernel
theorem dJ9_floorMod_7cf53_17 : decode cJ9_floorMod_7cf53 17 = .ok (.ireturn, 1) := by decide +kernel
theorem dJ9_floorMod_7cf53_18 : decode cJ9_floorMod_7cf53 18 = .ok (.iload_n 2, 1) := by decide +kernel
theorem dJ9_floorMod_7cf53_19 : decode cJ9_floorMod_7cf53 19 = .ok (.ireturn, 1) := by decide +kernel
theorem dJ9_max_7cf53_0 : decode cJ9_max_7cf53 0 = .ok (.iload_n 0, 1) := by decide +kernel
theorem dJ9_max_7cf53_1 : decode cJ9_max_7cf53 1 = .ok (.iload_n 1, 1) := by decide +kernel
theorem dJ9_max_7cf53_2 : decode cJ9_max_7cf53 2 = .ok (.if_icmp .lt 7, 3) := by decide +kernel
theorem dJ9_max_7cf53_5 : decode cJ9_max_7cf53 5 = .ok (.iload_n 0, 1) := by decide +kernel
theorem dJ9_max_7cf53_6 : decode cJ9_max_7cf53 6 = .ok (.goto 4, 3) := by decide +kernel
theorem dJ9_max_7cf53_9 : decode cJ9_max_7cf53 9 = .ok (.iload_n 1, 1) := by decide +kernel
theorem dJ9_max_7cf53_10 : decode cJ9_max_7cf53 10 = .ok (.ireturn, 1) := by decide +kernel
theorem dJ9_min_7cf53_0 : decode cJ9_min_7cf53 0 = .ok (.iload_n 0, 1) := by decide +kernel
theorem dJ9_min_7cf53_1 : decode cJ9_min_7cf53 1 = .ok (.iload_n 1, 1) := by decide +kernel
theorem dJ9_min_7cf53_2 : decode cJ9_min_7cf53 2 = .ok (.if_icmp .gt 7, 3) := by decide +kernel
theorem dJ9_min_7cf53_5 : decode cJ9_min_7cf53 5 = .ok (.iload_n 0, 1) := by decide +kernel
theorem dJ9_min_7cf53_6 : decode cJ9_min_7cf53 6 = .ok (.goto 4, 3) := by decide +kernel
theorem dJ9_min_7cf53_9 : decode cJ9_min_7cf53 9 = .ok (.iload_n 1, 1) := by decide +kernel
theorem dJ9_min_7cf53_10 : decode cJ9_min_7cf53 10 = .ok (.ireturn, 1) := by decide +kernel
theorem dJ0_length_8abf5_0 : decode cJ0_length_8abf5 0 = .ok (.aload_n 0, 1) := by decide +kernel
theorem dJ0_length_8abf5_1 : decode cJ0_length_8abf5 1 = .ok (.getfield 9, 3) := by decide +kernel
theorem dJ0_length_8abf5_4 : decode cJ0_length_8abf5 4 = .ok (.arraylength, 1) := by decide +kernel
theorem dJ0_length_8abf5_5 : decode cJ0_length_8abf5 5 = .ok (.aload_n 0, 1) := by decide +kernel
theorem dJ0_length_8abf5_6 : decode cJ0_length_8abf5 6 = .ok (.invokevirtual 335, 3) := by decide +kernel
theorem dJ0_length_8abf5_9 : decode cJ0_length_8abf5 9 = .ok (.ishr, 1) := by decide +kernel
theorem dJ0_length_8abf5_10 : decode cJ0_length_8abf5 10 = .ok (.ireturn, 1) := by decide +kernel
theorem dJ0_charAt_5068e_0 : decode cJ0_charAt_5068e 0 = .ok (.aload_n 0, 1) := by decide +kernel
theorem dJ0_charAt_5068e_1 : decode cJ0_charAt_5068e 1 = .ok (.invokevirtual 492, 3) := by decide +kernel
theorem dJ0_charAt_5068e_4 : decode cJ0_charAt_5068e 4 = .ok (.ifCond .eq 12, 3) := by decide +kernel
theorem dJ0_charAt_5068e_7 : decode cJ0_charAt_5068e 7 = .ok (.aload_n 0, 1) := by decide +kernel
theorem dJ0_charAt_5068e_8 : decode cJ0_charAt_5068e 8 = .ok (.getfield 9, 3) := by decide +kernel
theorem dJ0_charAt_5068e_11 : decode cJ0_charAt_5068e 11 = .ok (.iload_n 1, 1) := by decide +kernel
theorem dJ0_charAt_5068e_12 : decode cJ0_charAt_5068e 12 = .ok (.invokestatic 495, 3) := by decide +kernel
theorem dJ0_charAt_5068e_15 : decode cJ0_charAt_5068e 15 = .ok (.ireturn, 1) := by decide +kernel
theorem dJ0_charAt_5068e_16 : decode cJ0_charAt_5068e 16 = .ok (.aload_n 0, 1) := by decide +kernel
theorem dJ0_charAt_5068e_17 : decode cJ0_charAt_5068e 17 = .ok (.getfield 9, 3) := by decide +kernel
theorem dJ0_charAt_5068e_20 : decode cJ0_charAt_5068e 20 = .ok (.iload_n 1, 1) := by decide +kernel
theorem dJ0_charAt_5068e_21 : decode cJ0_charAt_5068e 21 = .ok (.invokestatic 498, 3) := by decide +kernel
theorem dJ0_charAt_5068e_24 : decode cJ0_charAt_5068e 24 = .ok (.ireturn, 1) := by decide +kernel
theorem dJ0_coder_7d493_0 : decode cJ0_coder_7d493 0 = .ok (.getstatic 38, 3) := by decide +kernel
theorem dJ0_coder_7d493_3 : decode cJ0_coder_7d493 3 = .ok (.ifCond .eq 10, 3) := by decide +kernel
theorem dJ0_coder_7d493_6 : decode cJ0_coder_7d493 6 = .ok (.aload_n 0, 1) := by decide +kernel
theorem dJ0_coder_7d493_7 : decode cJ0_coder_7d493 7 = .ok (.getfield 15, 3) := by decide +kernel
theorem dJ0_coder_7d493_10 : decode cJ0_coder_7d493 10 = .ok (.goto 4, 3) := by decide +kernel
theorem dJ0_coder_7d493_13 : decode cJ0_coder_7d493 13 = .ok (.iconst 1, 1) := by decide +kernel
theorem dJ0_coder_7d493_14 : decode cJ0_coder_7d493 14 = .ok (.ireturn, 1) := by decide +kernel
theorem dJ0_isLatin1_aae02_0 : decode cJ0_isLatin1_aae02 0 = .ok (.getstatic 38, 3) := by decide +kernel
theorem dJ0_isLatin1_aae02_3 : decode cJ0_isLatin1_aae02 3 = .ok (.ifCond .eq 14, 3) := by decide +kernel
theorem dJ0_isLatin1_aae02_6 : decode cJ0_isLatin1_aae02 6 = .ok (.aload_n 0, 1) := by decide +kernel
theorem dJ0_isLatin1_aae02_7 : decode cJ0_isLatin1_aae02 7 = .ok (.getfield 15, 3) := by decide +kernel
theorem dJ0_isLatin1_aae02_10 : decode cJ0_isLatin1_aae02 10 = .ok (.ifCond .ne 7, 3) := by decide +kernel
theorem dJ0_isLatin1_aae02_13 : decode cJ0_isLatin1_aae02 13 = .ok (.iconst 1, 1) := by decide +kernel
theorem dJ0_isLatin1_aae02_14 : decode cJ0_isLatin1_aae02 14 = .ok (.goto 4, 3) := by decide +kernel
theorem dJ0_isLatin1_aae02_17 : decode cJ0_isLatin1_aae02 17 = .ok (.iconst 0, 1) := by decide +kernel
theorem dJ0_isLatin1_aae02_18 : decode cJ0_isLatin1_aae02 18 = .ok (.ireturn, 1) := by decide +kernel
theorem dJ0_checkIndex_df160_0 : decode cJ0_checkIndex_df160 0 = .ok (.iload_n 0, 1) := by decide +kernel
theorem dJ0_checkIndex_df160_1 : decode cJ0_checkIndex_df160 1 = .ok (.iload_n 1, 1) := by decide +kernel
theorem dJ0_checkIndex_df160_2 : decode cJ0_checkIndex_df160 2 = .ok (.getstatic 1053, 3) := by decide +kernel
theorem dJ0_checkIndex_df160_5 : decode cJ0_checkIndex_df160 5 = .ok (.invokestatic 1059, 3) := by decide +kernel
theorem dJ0_checkIndex_df160_8 : decode cJ0_checkIndex_df160 8 = .ok (.pop, 1) := by decide +kernel
theorem dJ0_checkIndex_df160_9 : decode cJ0_checkIndex_df160 9 = .ok (.return_, 1) := by decide +kernel
theorem dJ1_charAt_3b067_0 : decode cJ1_charAt_3b067 0 = .ok (.iload_n 1, 1) := by decide +kernel
theorem dJ1_charAt_3b067_1 : decode cJ1_charAt_3b067 1 = .ok (.aload_n 0, 1) := by decide +kernel
theorem dJ1_charAt_3b067_2 : decode cJ1_charAt_3b067 2 = .ok (.arraylength, 1) := by decide +kernel
theorem dJ1_charAt_3b067_3 : decode cJ1_charAt_3b067 3 = .ok (.invokestatic 9, 3) := by decide +kernel
theorem dJ1_charAt_3b067_6 : decode cJ1_charAt_3b067 6 = .ok (.aload_n 0, 1) := by decide +kernel
theorem dJ1_charAt_3b067_7 : decode cJ1_charAt_3b067 7 = .ok (.iload_n 1, 1) := by decide +kernel
theorem dJ1_charAt_3b067_8 : decode cJ1_charAt_3b067 8 = .ok (.baload, 1) := by decide +kernel
theorem dJ1_charAt_3b067_9 : decode cJ1_charAt_3b067 9 = .ok (.sipush 255, 3) := by decide +kernel
theorem dJ1_charAt_3b067_12 : decode cJ1_charAt_3b067 12 = .ok (.iand, 1) := by decide +kernel
theorem dJ1_charAt_3b067_13 : decode cJ1_charAt_3b067 13 = .ok (.i2c, 1) := by decide +kernel
theorem dJ1_charAt_3b067_14 : decode cJ1_charAt_3b067 14 = .ok (.ireturn, 1) := by decide +kernel
theorem dJ2_getChar_3b067_0 : decode cJ2_getChar_3b067 0 = .ok (.getstatic 44, 3) := by decide +kernel
theorem dJ2_getChar_3b067_3 : decode cJ2_getChar_3b067 3 = .ok (.ifCond .ne 25, 3) := by decide +kernel
theorem dJ2_getChar_3b067_6 : decode cJ2_getChar_3b067 6 = .ok (.iload_n 1, 1) := by decide +kernel
theorem dJ2_getChar_3b067_7 : decode cJ2_getChar_3b067 7 = .ok (.ifCond .lt 11, 3) := by decide +kernel
theorem dJ2_getChar_3b067_10 : decode cJ2_getChar_3b067 10 = .ok (.iload_n 1, 1) := by decide +kernel
theorem dJ2_getChar_3b067_11 : decode cJ2_getChar_3b067 11 = .ok (.aload_n 0, 1) := by decide +kernel
theorem dJ2_getChar_3b067_12 : decode cJ2_getChar_3b067 12 = .ok (.invokestatic 48, 3) := by decide +kernel
theorem dJ2_getChar_3b067_15 : decode cJ2_getChar_3b067 15 = .ok (.if_icmp .lt 13, 3) := by decide +kernel
theorem dJ2_getChar_3b067_18 : decode cJ2_getChar_3b067 18 = .ok (.new 52, 3) := by decide +kernel
theorem dJ2_getChar_3b067_21 : decode cJ2_getChar_3b067 21 = .ok (.dup, 1) := by decide +kernel
theorem dJ2_getChar_3b067_22 : decode cJ2_getChar_3b067 22 = .ok (.ldc 54, 2) := by decide +kernel
theorem dJ2_getChar_3b067_24 : decode cJ2_getChar_3b067 24 = .ok (.invokespecial 56, 3) := by decide +kernel
theorem dJ2_getChar_3b067_27 : decode cJ2_getChar_3b067 27 = .ok (.athrow, 1) := by decide +kernel
theorem dJ2_getChar_3b067_28 : decode cJ2_getChar_3b067 28 = .ok (.iload_n 1, 1) := by decide +kernel
theorem dJ2_getChar_3b067_29 : decode cJ2_getChar_3b067 29 = .ok (.iconst 1, 1) := by decide +kernel
theorem dJ2_getChar_3b067_30 : decode cJ2_getChar_3b067 30 = .ok (.ishl, 1) := by decide +kernel
theorem dJ2_getChar_3b067_31 : decode cJ2_getChar_3b067 31 = .ok (.istore_n 1, 1) := by decide +kernel
theorem dJ2_getChar_3b067_32 : decode cJ2_getChar_3b067 32 = .ok (.aload_n 0, 1) := by decide +kernel
theorem dJ2_getChar_3b067_33 : decode cJ2_getChar_3b067 33 = .ok (.iload_n 1, 1) := by decide +kernel
theorem dJ2_getChar_3b067_34 : decode cJ2_getChar_3b067 34 = .ok (.iinc 1 1, 3) := by decide +kernel
theorem dJ2_getChar_3b067_37 : decode cJ2_getChar_3b067 37 = .ok (.baload, 1) := by decide +kernel
theorem dJ2_getChar_3b067_38 : decode cJ2_getChar_3b067 38 = .ok (.sipush 255, 3) := by decide +kernel
theorem dJ2_getChar_3b067_41 : decode cJ2_getChar_3b067 41 = .ok (.iand, 1) := by decide +kernel
theorem dJ2_getChar_3b067_42 : decode cJ2_getChar_3b067 42 = .ok (.getstatic 59, 3) := by decide +kernel
theorem dJ2_getChar_3b067_45 : decode cJ2_getChar_3b067 45 = .ok (.ishl, 1) := by decide +kernel
theorem dJ2_getChar_3b067_46 : decode cJ2_getChar_3b067 46 = .ok (.aload_n 0, 1) := by decide +kernel
theorem dJ2_getChar_3b067_47 : decode cJ2_getChar_3b067 47 = .ok (.iload_n 1, 1) := by decide +kernel
theorem dJ2_getChar_3b067_48 : decode cJ2_getChar_3b067 48 = .ok (.baload, 1) := by decide +kernel
theorem dJ2_getChar_3b067_49 : decode cJ2_getChar_3b067 49 = .ok (.sipush 255, 3) := by decide +kernel
theorem dJ2_getChar_3b067_52 : decode cJ2_getChar_3b067 52 = .ok (.iand, 1) := by decide +kernel
theorem dJ2_getChar_3b067_53 : decode cJ2_getChar_3b067 53 = .ok (.getstatic 63, 3) := by decide +kernel
theorem dJ2_getChar_3b067_56 : decode cJ2_getChar_3b067 56 = .ok (.ishl, 1) := by decide +kernel
theorem dJ2_getChar_3b067_57 : decode cJ2_getChar_3b067 57 = .ok (.ior, 1) := by decide +kernel
theorem dJ2_getChar_3b067_58 : decode cJ2_getChar_3b067 58 = .ok (.i2c, 1) := by decide +kernel
theorem dJ2_getChar_3b067_59 : decode cJ2_getChar_3b067 59 = .ok (.ireturn, 1) := by decide +kernel
theorem dJ2_length_9d52b_0 : decode cJ2_length_9d52b 0 = .ok (.aload_n 0, 1) := by decide +kernel
theorem dJ2_length_9d52b_1 : decode cJ2_length_9d52b 1 = .ok (.arraylength, 1) := by decide +kernel
theorem dJ2_length_9d52b_2 : decode cJ2_length_9d52b 2 = .ok (.iconst 1, 1) := by decide +kernel
theorem dJ2_length_9d52b_3 : decode cJ2_length_9d52b 3 = .ok (.ishr, 1) := by decide +kernel
theorem dJ2_length_9d52b_4 : decode cJ2_length_9d52b 4 = .ok (.ireturn, 1) := by decide +kernel
theorem dJ2_charAt_3b067_0 : decode cJ2_charAt_3b067 0 = .ok (.iload_n 1, 1) := by decide +kernel
theorem dJ2_charAt_3b067_1 : decode cJ2_charAt_3b067 1 = .ok (.aload_n 0, 1) := by decide +kernel
theorem dJ2_charAt_3b067_2 : decode cJ2_charAt_3b067 2 = .ok (.invokestatic 67, 3) := by decide +kernel
theorem dJ2_charAt_3b067_5 : decode cJ2_charAt_3b067 5 = .ok (.aload_n 0, 1) := by decide +kernel
theorem dJ2_charAt_3b067_6 : decode cJ2_charAt_3b067 6 = .ok (.iload_n 1, 1) := by decide +kernel
theorem dJ2_charAt_3b067_7 : decode cJ2_charAt_3b067 7 = .ok (.invokestatic 71, 3) := by decide +kernel
theorem dJ2_charAt_3b067_10 : decode cJ2_charAt_3b067 10 = .ok (.ireturn, 1) := by decide +kernel
theorem dJ2_checkIndex_2214a_0 : decode cJ2_checkIndex_2214a 0 = .ok (.iload_n 0, 1) := by decide +kernel
theorem dJ2_checkIndex_2214a_1 : decode cJ2_checkIndex_2214a 1 = .ok (.aload_n 1, 1) := by decide +kernel
theorem dJ2_checkIndex_2214a_2 : decode cJ2_checkIndex_2214a 2 = .ok (.invokestatic 48, 3) := by decide +kernel
theorem dJ2_checkIndex_2214a_5 : decode cJ2_checkIndex_2214a 5 = .ok (.invokestatic 414, 3) := by decide +kernel
theorem dJ2_checkIndex_2214a_8 : decode cJ2_checkIndex_2214a 8 = .ok (.return_, 1) := by decide +kernel
theorem dJ3_checkIndex_8e157_0 : decode cJ3_checkIndex_8e157 0 = .ok (.iload_n 0, 1) := by decide +kernel
theorem dJ3_checkIndex_8e157_1 : decode cJ3_checkIndex_8e157 1 = .ok (.ifCond .lt 8, 3) := by decide +kernel
theorem dJ3_checkIndex_8e157_4 : decode cJ3_checkIndex_8e157 4 = .ok (.iload_n 0, 1) := by decide +kernel
theorem dJ3_checkIndex_8e157_5 : decode cJ3_checkIndex_8e157 5 = .ok (.iload_n 1, 1) := by decide +kernel
theorem dJ3_checkIndex_8e157_6 : decode cJ3_checkIndex_8e157 6 = .ok (.if_icmp .lt 10, 3) := by decide +kernel
theorem dJ3_checkIndex_8e157_9 : decode cJ3_checkIndex_8e157 9 = .ok (.aload_n 2, 1) := by decide +kernel
theorem dJ3_checkIndex_8e157_10 : decode cJ3_checkIndex_8e157 10 = .ok (.iload_n 0, 1) := by decide +kernel
theorem dJ3_checkIndex_8e157_11 : decode cJ3_checkIndex_8e157 11 = .ok (.iload_n 1, 1) := by decide +kernel
theorem dJ3_checkIndex_8e157_12 : decode cJ3_checkIndex_8e157 12 = .ok (.invokestatic 95, 3) := by decide +kernel
theorem dJ3_checkIndex_8e157_15 : decode cJ3_checkIndex_8e157 15 = .ok (.athrow, 1) := by decide +kernel
theorem dJ3_checkIndex_8e157_16 : decode cJ3_checkIndex_8e157 16 = .ok (.iload_n 0, 1) := by decide +kernel
theorem dJ3_checkIndex_8e157_17 : decode cJ3_checkIndex_8e157 17 = .ok (.ireturn, 1) := by decide +kernel
theorem dL_law_0 : decode cL_law 0 = .ok (.new 7, 3) := by decide +kernel
theorem dL_law_3 : decode cL_law 3 = .ok (.dup, 1) := by decide +kernel
theorem dL_law_4 : decode cL_law 4 = .ok (.invokespecial 9, 3) := by decide +kernel
theorem dL_law_7 : decode cL_law 7 = .ok (.astore_n 1, 1) := by decide +kernel
theorem dL_law_8 : decode cL_law 8 = .ok (.new 10, 3) := by decide +kernel
theorem dL_law_11 : decode cL_law 11 = .ok (.dup, 1) := by decide +kernel
theorem dL_law_12 : decode cL_law 12 = .ok (.invokespecial 12, 3) := by decide +kernel
theorem dL_law_15 : decode cL_law 15 = .ok (.astore_n 2, 1) := by decide +kernel
theorem dL_law_16 : decode cL_law 16 = .ok (.iconst 0, 1) := by decide +kernel
theorem dL_law_17 : decode cL_law 17 = .ok (.istore_n 3, 1) := by decide +kernel
theorem dL_law_18 : decode cL_law 18 = .ok (.iload_n 3, 1) := by decide +kernel
theorem dL_law_19 : decode cL_law 19 = .ok (.aload_n 0, 1) := by decide +kernel
theorem dL_law_20 : decode cL_law 20 = .ok (.arraylength, 1) := by decide +kernel
theorem dL_law_21 : decode cL_law 21 = .ok (.bipush 6, 2) := by decide +kernel
theorem dL_law_23 : decode cL_law 23 = .ok (.isub, 1) := by decide +kernel
theorem dL_law_24 : decode cL_law 24 = .ok (.if_icmp .gt 1381, 3) := by decide +kernel
theorem dL_law_27 : decode cL_law 27 = .ok (.aload_n 0, 1) := by decide +kernel
theorem dL_law_28 : decode cL_law 28 = .ok (.iload_n 3, 1) := by decide +kernel
theorem dL_law_29 : decode cL_law 29 = .ok (.iaload, 1) := by decide +kernel
theorem dL_law_30 : decode cL_law 30 = .ok (.bipush 63, 2) := by decide +kernel
theorem dL_law_32 : decode cL_law 32 = .ok (.iand, 1) := by decide +kernel
theorem dL_law_33 : decode cL_law 33 = .ok (.tableswitch 1366 0 39 #[175, 208, 231, 264, 297, 330, 373, 396, 429, 452, 475, 518, 551, 584, 607, 640, 683, 716, 739, 762, 805, 838, 871, 894, 938, 961, 994, 1007, 1020, 1053, 1086, 1129, 1172, 1235, 1258, 1281, 1294, 1307, 1320, 1343], 175) := by decide +kernel
theorem dL_law_208 : decode cL_law 208 = .ok (.aload_n 1, 1) := by decide +kernel
theorem dL_law_209 : decode cL_law 209 = .ok (.aload_n 0, 1) := by decide +kernel
theorem dL_law_210 : decode cL_law 210 = .ok (.iload_n 3, 1) := by decide +kernel
theorem dL_law_211 : decode cL_law 211 = .ok (.iconst 1, 1) := by decide +kernel
theorem dL_law_212 : decode cL_law 212 = .ok (.iadd, 1) := by decide +kernel
theorem dL_law_213 : decode cL_law 213 = .ok (.iaload, 1) := by decide +kernel
theorem dL_law_214 : decode cL_law 214 = .ok (.aload_n 0, 1) := by decide +kernel
theorem dL_law_215 : decode cL_law 215 = .ok (.iload_n 3, 1) := by decide +kernel
theorem dL_law_216 : decode cL_law 216 = .ok (.iconst 2, 1) := by decide +kernel
theorem dL_law_217 : decode cL_law 217 = .ok (.iadd, 1) := by decide +kernel
theorem dL_law_218 : decode cL_law 218 = .ok (.iaload, 1) := by decide +kernel
theorem dL_law_219 : decode cL_law 219 = .ok (.invokevirtual 13, 3) := by decide +kernel
theorem dL_law_222 : decode cL_law 222 = .ok (.aload_n 2, 1) := by decide +kernel
theorem dL_law_223 : decode cL_law 223 = .ok (.aload_n 0, 1) := by decide +kernel
theorem dL_law_224 : decode cL_law 224 = .ok (.iload_n 3, 1) := by decide +kernel
theorem dL_law_225 : decode cL_law 225 = .ok (.iconst 1, 1) := by decide +kernel
theorem dL_law_226 : decode cL_law 226 = .ok (.iadd, 1) := by decide +kernel
theorem dL_law_227 : decode cL_law 227 = .ok (.iaload, 1) := by decide +kernel
theorem dL_law_228 : decode cL_law 228 = .ok (.aload_n 0, 1) := by decide +kernel
theorem dL_law_229 : decode cL_law 229 = .ok (.iload_n 3, 1) := by decide +kernel
theorem dL_law_230 : decode cL_law 230 = .ok (.iconst 2, 1) := by decide +kernel
theorem dL_law_231 : decode cL_law 231 = .ok (.iadd, 1) := by decide +kernel
theorem dL_law_232 : decode cL_law 232 = .ok (.iaload, 1) := by decide +kernel
theorem dL_law_233 : decode cL_law 233 = .ok (.invokevirtual 17, 3) := by decide +kernel
theorem dL_law_236 : decode cL_law 236 = .ok (.if_icmp .eq 1163, 3) := by decide +kernel
theorem dL_law_239 : decode cL_law 239 = .ok (.iconst 0, 1) := by decide +kernel
theorem dL_law_240 : decode cL_law 240 = .ok (.ireturn, 1) := by decide +kernel
theorem dL_law_241 : decode cL_law 241 = .ok (.aload_n 1, 1) := by decide +kernel
theorem dL_law_242 : decode cL_law 242 = .ok (.aload_n 0, 1) := by decide +kernel
theorem dL_law_243 : decode cL_law 243 = .ok (.iload_n 3, 1) := by decide +kernel
theorem dL_law_244 : decode cL_law 244 = .ok (.iconst 1, 1) := by decide +kernel
theorem dL_law_245 : decode cL_law 245 = .ok (.iadd, 1) := by decide +kernel
theorem dL_law_246 : decode cL_law 246 = .ok (.iaload, 1) := by decide +kernel
theorem dL_law_247 : decode cL_law 247 = .ok (.invokevirtual 18, 3) := by decide +kernel
theorem dL_law_250 : decode cL_law 250 = .ok (.aload_n 2, 1) := by decide +kernel
theorem dL_law_251 : decode cL_law 251 = .ok (.aload_n 0, 1) := by decide +kernel
theorem dL_law_252 : decode cL_law 252 = .ok (.iload_n 3, 1) := by decide +kernel
theorem dL_law_253 : decode cL_law 253 = .ok (.iconst 1, 1) := by decide +kernel
theorem dL_law_254 : decode cL_law 254 = .ok (.iadd, 1) := by decide +kernel
theorem dL_law_255 : decode cL_law 255 = .ok (.iaload, 1) := by decide +kernel
theorem dL_law_256 : decode cL_law 256 = .ok (.invokevirtual 22, 3) := by decide +kernel
theorem dL_law_259 : decode cL_law 259 = .ok (.if_icmp .eq 1140, 3) := by decide +kernel
theorem dL_law_262 : decode cL_law 262 = .ok (.iconst 0, 1) := by decide +kernel
theorem dL_law_263 : decode cL_law 263 = .ok (.ireturn, 1) := by decide +kernel
theorem dL_law_264 : decode cL_law 264 = .ok (.aload_n 1, 1) := by decide +kernel
theorem dL_law_265 : decode cL_law 265 = .ok (.aload_n 0, 1) := by decide +kernel
theorem dL_law_266 : decode cL_law 266 = .ok (.iload_n 3, 1) := by decide +kernel
theorem dL_law_267 : decode cL_law 267 = .ok (.iconst 1, 1) := by decide +kernel
theorem dL_law_268 : decode cL_law 268 = .ok (.iadd, 1) := by decide +kernel
theorem dL_law_269 : decode cL_law 269 = .ok (.iaload, 1) := by decide +kernel
theorem dL_law_270 : decode cL_law 270 = .ok (.aload_n 0, 1) := by decide +kernel
theorem dL_law_271 : decode cL_law 271 = .ok (.iload_n 3, 1) := by decide +kernel
theorem dL_law_272 : decode cL_law 272 = .ok (.iconst 2, 1) := by decide +kernel
theorem dL_law_273 : decode cL_law 273 = .ok (.iadd, 1) := by decide +kernel
theorem dL_law_274 : decode cL_law 274 = .ok (.iaload, 1) := by decide +kernel
theorem dL_law_275 : decode cL_law 275 = .ok (.invokevirtual 23, 3) := by decide +kernel
theorem dL_law_278 : decode cL_law 278 = .ok (.aload_n 2, 1) := by decide +kernel
theorem dL_law_279 : decode cL_law 279 = .ok (.aload_n 0, 1) := by decide +kernel
theorem dL_law_280 : decode cL_law 280 = .ok (.iload_n 3, 1) := by decide +kernel
theorem dL_law_281 : decode cL_law 281 = .ok (.iconst 1, 1) := by decide +kernel
theorem dL_law_282 : decode cL_law 282 = .ok (.iadd, 1) := by decide +kernel
theorem dL_law_283 : decode cL_law 283 = .ok (.iaload, 1) := by decide +kernel
theorem dL_law_284 : decode cL_law 284 = .ok (.aload_n 0, 1) := by decide +kernel
theorem dL_law_285 : decode cL_law 285 = .ok (.iload_n 3, 1) := by decide +kernel
theorem dL_law_286 : decode cL_law 286 = .ok (.iconst 2, 1) := by decide +kernel
theorem dL_law_287 : decode cL_law 287 = .ok (.iadd, 1) := by decide +kernel
theorem dL_law_288 : decode cL_law 288 = .ok (.iaload, 1) := by decide +kernel
theorem dL_law_289 : decode cL_law 289 = .ok (.invokevirtual 26, 3) := by decide +kernel
theorem dL_law_292 : decode cL_law 292 = .ok (.if_icmp .eq 1107, 3) := by decide +kernel
theorem dL_law_295 : decode cL_law 295 = .ok (.iconst 0, 1) := by decide +kernel
theorem dL_law_296 : decode cL_law 296 = .ok (.ireturn, 1) := by decide +kernel
theorem dL_law_297 : decode cL_law 297 = .ok (.aload_n 1, 1) := by decide +kernel
theorem dL_law_298 : decode cL_law 298 = .ok (.aload_n 0, 1) := by decide +kernel
theorem dL_law_299 : decode cL_law 299 = .ok (.iload_n 3, 1) := by decide +kernel
theorem dL_law_300 : decode cL_law 300 = .ok (.iconst 1, 1) := by decide +kernel
theorem dL_law_301 : decode cL_law 301 = .ok (.iadd, 1) := by decide +kernel
theorem dL_law_302 : decode cL_law 302 = .ok (.iaload, 1) := by decide +kernel
theorem dL_law_303 : decode cL_law 303 = .ok (.aload_n 0, 1) := by decide +kernel
theorem dL_law_304 : decode cL_law 304 = .ok (.iload_n 3, 1) := by decide +kernel
theorem dL_law_305 : decode cL_law 305 = .ok (.iconst 2, 1) := by decide +kernel
theorem dL_law_306 : decode cL_law 306 = .ok (.iadd, 1) := by decide +kernel
theorem dL_law_307 : decode cL_law 307 = .ok (.iaload, 1) := by decide +kernel
theorem dL_law_308 : decode cL_law 308 = .ok (.invokevirtual 27, 3) := by decide +kernel
theorem dL_law_311 : decode cL_law 311 = .ok (.aload_n 2, 1) := by decide +kernel
theorem dL_law_312 : decode cL_law 312 = .ok (.aload_n 0, 1) := by decide +kernel
theorem dL_law_313 : decode cL_law 313 = .ok (.iload_n 3, 1) := by decide +kernel
theorem dL_law_314 : decode cL_law 314 = .ok (.iconst 1, 1) := by decide +kernel
theorem dL_law_315 : decode cL_law 315 = .ok (.iadd, 1) := by decide +kernel
theorem dL_law_316 : decode cL_law 316 = .ok (.iaload, 1) := by decide +kernel
theorem dL_law_317 : decode cL_law 317 = .ok (.aload_n 0, 1) := by decide +kernel
theorem dL_law_318 : decode cL_law 318 = .ok (.iload_n 3, 1) := by decide +kernel
theorem dL_law_319 : decode cL_law 319 = .ok (.iconst 2, 1) := by decide +kernel
theorem dL_law_320 : decode cL_law 320 = .ok (.iadd, 1) := by decide +kernel
theorem dL_law_321 : decode cL_law 321 = .ok (.iaload, 1) := by decide +kernel
theorem dL_law_322 : decode cL_law 322 = .ok (.invokevirtual 30, 3) := by decide +kernel
theorem dL_law_325 : decode cL_law 325 = .ok (.if_icmp .eq 1074, 3) := by decide +kernel
theorem dL_law_328 : decode cL_law 328 = .ok (.iconst 0, 1) := by decide +kernel
theorem dL_law_329 : decode cL_law 329 = .ok (.ireturn, 1) := by decide +kernel
theorem dL_law_330 : decode cL_law 330 = .ok (.aload_n 1, 1) := by decide +kernel
theorem dL_law_331 : decode cL_law 331 = .ok (.aload_n 0, 1) := by decide +kernel
theorem dL_law_332 : decode cL_law 332 = .ok (.iload_n 3, 1) := by decide +kernel
theorem dL_law_333 : decode cL_law 333 = .ok (.iconst 1, 1) := by decide +kernel
theorem dL_law_334 : decode cL_law 334 = .ok (.iadd, 1) := by decide +kernel
theorem dL_law_335 : decode cL_law 335 = .ok (.iaload, 1) := by decide +kernel
theorem dL_law_336 : decode cL_law 336 = .ok (.aload_n 0, 1) := by decide +kernel
theorem dL_law_337 : decode cL_law 337 = .ok (.iload_n 3, 1) := by decide +kernel
theorem dL_law_338 : decode cL_law 338 = .ok (.iconst 2, 1) := by decide +kernel
theorem dL_law_339 : decode cL_law 339 = .ok (.iadd, 1) := by decide +kernel
theorem dL_law_340 : decode cL_law 340 = .ok (.iaload, 1) := by decide +kernel
theorem dL_law_341 : decode cL_law 341 = .ok (.invokevirtual 31, 3) := by decide +kernel
theorem dL_law_344 : decode cL_law 344 = .ok (.aload_n 2, 1) := by decide +kernel
theorem dL_law_345 : decode cL_law 345 = .ok (.aload_n 0, 1) := by decide +kernel
theorem dL_law_346 : decode cL_law 346 = .ok (.iload_n 3, 1) := by decide +kernel
theorem dL_law_347 : decode cL_law 347 = .ok (.iconst 1, 1) := by decide +kernel
theorem dL_law_348 : decode cL_law 348 = .ok (.iadd, 1) := by decide +kernel
theorem dL_law_349 : decode cL_law 349 = .ok (.iaload, 1) := by decide +kernel
theorem dL_law_350 : decode cL_law 350 = .ok (.aload_n 0, 1) := by decide +kernel
theorem dL_law_351 : decode cL_law 351 = .ok (.iload_n 3, 1) := by decide +kernel
theorem dL_law_352 : decode cL_law 352 = .ok (.iconst 2, 1) := by decide +kernel
theorem dL_law_353 : decode cL_law 353 = .ok (.iadd, 1) := by decide +kernel
theorem dL_law_354 : decode cL_law 354 = .ok (.iaload, 1) := by decide +kernel
theorem dL_law_355 : decode cL_law 355 = .ok (.invokevirtual 34, 3) := by decide +kernel
theorem dL_law_358 : decode cL_law 358 = .ok (.if_icmp .eq 1041, 3) := by decide +kernel
theorem dL_law_361 : decode cL_law 361 = .ok (.iconst 0, 1) := by decide +kernel
theorem dL_law_362 : decode cL_law 362 = .ok (.ireturn, 1) := by decide +kernel
theorem dL_law_363 : decode cL_law 363 = .ok (.aload_n 1, 1) := by decide +kernel
theorem dL_law_364 : decode cL_law 364 = .ok (.aload_n 0, 1) := by decide +kernel
theorem dL_law_365 : decode cL_law 365 = .ok (.iload_n 3, 1) := by decide +kernel
theorem dL_law_366 : decode cL_law 366 = .ok (.iconst 1, 1) := by decide +kernel
theorem dL_law_367 : decode cL_law 367 = .ok (.iadd, 1) := by decide +kernel
theorem dL_law_368 : decode cL_law 368 = .ok (.iaload, 1) := by decide +kernel
theorem dL_law_369 : decode cL_law 369 = .ok (.aload_n 0, 1) := by decide +kernel
theorem dL_law_370 : decode cL_law 370 = .ok (.iload_n 3, 1) := by decide +kernel
theorem dL_law_371 : decode cL_law 371 = .ok (.iconst 2, 1) := by decide +kernel
theorem dL_law_372 : decode cL_law 372 = .ok (.iadd, 1) := by decide +kernel
theorem dL_law_373 : decode cL_law 373 = .ok (.iaload, 1) := by decide +kernel
theorem dL_law_374 : decode cL_law 374 = .ok (.aload_n 0, 1) := by decide +kernel
theorem dL_law_375 : decode cL_law 375 = .ok (.iload_n 3, 1) := by decide +kernel
theorem dL_law_376 : decode cL_law 376 = .ok (.iconst 3, 1) := by decide +kernel
theorem dL_law_377 : decode cL_law 377 = .ok (.iadd, 1) := by decide +kernel
theorem dL_law_378 : decode cL_law 378 = .ok (.iaload, 1) := by decide +kernel
theorem dL_law_379 : decode cL_law 379 = .ok (.invokevirtual 35, 3) := by decide +kernel
theorem dL_law_382 : decode cL_law 382 = .ok (.aload_n 2, 1) := by decide +kernel
theorem dL_law_383 : decode cL_law 383 = .ok (.aload_n 0, 1) := by decide +kernel
theorem dL_law_384 : decode cL_law 384 = .ok (.iload_n 3, 1) := by decide +kernel
theorem dL_law_385 : decode cL_law 385 = .ok (.iconst 1, 1) := by decide +kernel
theorem dL_law_386 : decode cL_law 386 = .ok (.iadd, 1) := by decide +kernel
theorem dL_law_387 : decode cL_law 387 = .ok (.iaload, 1) := by decide +kernel
theorem dL_law_388 : decode cL_law 388 = .ok (.aload_n 0, 1) := by decide +kernel
theorem dL_law_389 : decode cL_law 389 = .ok (.iload_n 3, 1) := by decide +kernel
theorem dL_law_390 : decode cL_law 390 = .ok (.iconst 2, 1) := by decide +kernel
theorem dL_law_391 : decode cL_law 391 = .ok (.iadd, 1) := by decide +kernel
theorem dL_law_392 : decode cL_law 392 = .ok (.iaload, 1) := by decide +kernel
theorem dL_law_393 : decode cL_law 393 = .ok (.aload_n 0, 1) := by decide +kernel
theorem dL_law_394 : decode cL_law 394 = .ok (.iload_n 3, 1) := by decide +kernel
theorem dL_law_395 : decode cL_law 395 = .ok (.iconst 3, 1) := by decide +kernel
theorem dL_law_396 : decode cL_law 396 = .ok (.iadd, 1) := by decide +kernel
theorem dL_law_397 : decode cL_law 397 = .ok (.iaload, 1) := by decide +kernel
theorem dL_law_398 : decode cL_law 398 = .ok (.invokevirtual 39, 3) := by decide +kernel
theorem dL_law_401 : decode cL_law 401 = .ok (.if_icmp .eq 998, 3) := by decide +kernel
theorem dL_law_404 : decode cL_law 404 = .ok (.iconst 0, 1) := by decide +kernel
theorem dL_law_405 : decode cL_law 405 = .ok (.ireturn, 1) := by decide +kernel
theorem dL_law_406 : decode cL_law 406 = .ok (.aload_n 1, 1) := by decide +kernel
theorem dL_law_407 : decode cL_law 407 = .ok (.aload_n 0, 1) := by decide +kernel
theorem dL_law_408 : decode cL_law 408 = .ok (.iload_n 3, 1) := by decide +kernel
theorem dL_law_409 : decode cL_law 409 = .ok (.iconst 1, 1) := by decide +kernel
theorem dL_law_410 : decode cL_law 410 = .ok (.iadd, 1) := by decide +kernel
theorem dL_law_411 : decode cL_law 411 = .ok (.iaload, 1) := by decide +kernel
theorem dL_law_412 : decode cL_law 412 = .ok (.invokevirtual 40, 3) := by decide +kernel
theorem dL_law_415 : decode cL_law 415 = .ok (.aload_n 2, 1) := by decide +kernel
theorem dL_law_416 : decode cL_law 416 = .ok (.aload_n 0, 1) := by decide +kernel
theorem dL_law_417 : decode cL_law 417 = .ok (.iload_n 3, 1) := by decide +kernel
theorem dL_law_418 : decode cL_law 418 = .ok (.iconst 1, 1) := by decide +kernel
theorem dL_law_419 : decode cL_law 419 = .ok (.iadd, 1) := by decide +kernel
theorem dL_law_420 : decode cL_law 420 = .ok (.iaload, 1) := by decide +kernel
theorem dL_law_421 : decode cL_law 421 = .ok (.invokevirtual 43, 3) := by decide +kernel
theorem dL_law_424 : decode cL_law 424 = .ok (.if_icmp .eq 975, 3) := by decide +kernel
theorem dL_law_427 : decode cL_law 427 = .ok (.iconst 0, 1) := by decide +kernel
theorem dL_law_428 : decode cL_law 428 = .ok (.ireturn, 1) := by decide +kernel
theorem dL_law_429 : decode cL_law 429 = .ok (.aload_n 1, 1) := by decide +kernel
theorem dL_law_430 : decode cL_law 430 = .ok (.aload_n 0, 1) := by decide +kernel
theorem dL_law_431 : decode cL_law 431 = .ok (.iload_n 3, 1) := by decide +kernel
theorem dL_law_432 : decode cL_law 432 = .ok (.iconst 1, 1) := by decide +kernel
theorem dL_law_433 : decode cL_law 433 = .ok (.iadd, 1) := by decide +kernel
theorem dL_law_434 : decode cL_law 434 = .ok (.iaload, 1) := by decide +kernel
theorem dL_law_435 : decode cL_law 435 = .ok (.aload_n 0, 1) := by decide +kernel
theorem dL_law_436 : decode cL_law 436 = .ok (.iload_n 3, 1) := by decide +kernel
theorem dL_law_437 : decode cL_law 437 = .ok (.iconst 2, 1) := by decide +kernel
theorem dL_law_438 : decode cL_law 438 = .ok (.iadd, 1) := by decide +kernel
theorem dL_law_439 : decode cL_law 439 = .ok (.iaload, 1) := by decide +kernel
theorem dL_law_440 : decode cL_law 440 = .ok (.invokevirtual 44, 3) := by decide +kernel
theorem dL_law_443 : decode cL_law 443 = .ok (.aload_n 2, 1) := by decide +kernel
theorem dL_law_444 : decode cL_law 444 = .ok (.aload_n 0, 1) := by decide +kernel
theorem dL_law_445 : decode cL_law 445 = .ok (.iload_n 3, 1) := by decide +kernel
theorem dL_law_446 : decode cL_law 446 = .ok (.iconst 1, 1) := by decide +kernel
theorem dL_law_447 : decode cL_law 447 = .ok (.iadd, 1) := by decide +kernel
theorem dL_law_448 : decode cL_law 448 = .ok (.iaload, 1) := by decide +kernel
theorem dL_law_449 : decode cL_law 449 = .ok (.aload_n 0, 1) := by decide +kernel
theorem dL_law_450 : decode cL_law 450 = .ok (.iload_n 3, 1) := by decide +kernel
theorem dL_law_451 : decode cL_law 451 = .ok (.iconst 2, 1) := by decide +kernel
theorem dL_law_452 : decode cL_law 452 = .ok (.iadd, 1) := by decide +kernel
theorem dL_law_453 : decode cL_law 453 = .ok (.iaload, 1) := by decide +kernel
theorem dL_law_454 : decode cL_law 454 = .ok (.invokevirtual 47, 3) := by decide +kernel
theorem dL_law_457 : decode cL_law 457 = .ok (.if_icmp .eq 942, 3) := by decide +kernel
theorem dL_law_460 : decode cL_law 460 = .ok (.iconst 0, 1) := by decide +kernel
theorem dL_law_461 : decode cL_law 461 = .ok (.ireturn, 1) := by decide +kernel
theorem dL_law_462 : decode cL_law 462 = .ok (.aload_n 1, 1) := by decide +kernel
theorem dL_law_463 : decode cL_law 463 = .ok (.aload_n 0, 1) := by decide +kernel
theorem dL_law_464 : decode cL_law 464 = .ok (.iload_n 3, 1) := by decide +kernel
theorem dL_law_465 : decode cL_law 465 = .ok (.iconst 1, 1) := by decide +kernel
theorem dL_law_466 : decode cL_law 466 = .ok (.iadd, 1) := by decide +kernel
theorem dL_law_467 : decode cL_law 467 = .ok (.iaload, 1) := by decide +kernel
theorem dL_law_468 : decode cL_law 468 = .ok (.invokevirtual 48, 3) := by decide +kernel
theorem dL_law_471 : decode cL_law 471 = .ok (.aload_n 2, 1) := by decide +kernel
theorem dL_law_472 : decode cL_law 472 = .ok (.aload_n 0, 1) := by decide +kernel
theorem dL_law_473 : decode cL_law 473 = .ok (.iload_n 3, 1) := by decide +kernel
theorem dL_law_474 : decode cL_law 474 = .ok (.iconst 1, 1) := by decide +kernel
theorem dL_law_475 : decode cL_law 475 = .ok (.iadd, 1) := by decide +kernel
theorem dL_law_476 : decode cL_law 476 = .ok (.iaload, 1) := by decide +kernel
theorem dL_law_477 : decode cL_law 477 = .ok (.invokevirtual 51, 3) := by decide +kernel
theorem dL_law_480 : decode cL_law 480 = .ok (.if_icmp .eq 919, 3) := by decide +kernel
theorem dL_law_483 : decode cL_law 483 = .ok (.iconst 0, 1) := by decide +kernel
theorem dL_law_484 : decode cL_law 484 = .ok (.ireturn, 1) := by decide +kernel
theorem dL_law_485 : decode cL_law 485 = .ok (.aload_n 1, 1) := by decide +kernel
theorem dL_law_486 : decode cL_law 486 = .ok (.aload_n 0, 1) := by decide +kernel
theorem dL_law_487 : decode cL_law 487 = .ok (.iload_n 3, 1) := by decide +kernel
theorem dL_law_488 : decode cL_law 488 = .ok (.iconst 1, 1) := by decide +kernel
theorem dL_law_489 : decode cL_law 489 = .ok (.iadd, 1) := by decide +kernel
theorem dL_law_490 : decode cL_law 490 = .ok (.iaload, 1) := by decide +kernel
theorem dL_law_491 : decode cL_law 491 = .ok (.invokevirtual 52, 3) := by decide +kernel
theorem dL_law_494 : decode cL_law 494 = .ok (.aload_n 2, 1) := by decide +kernel
theorem dL_law_495 : decode cL_law 495 = .ok (.aload_n 0, 1) := by decide +kernel
theorem dL_law_496 : decode cL_law 496 = .ok (.iload_n 3, 1) := by decide +kernel
theorem dL_law_497 : decode cL_law 497 = .ok (.iconst 1, 1) := by decide +kernel
theorem dL_law_498 : decode cL_law 498 = .ok (.iadd, 1) := by decide +kernel
theorem dL_law_499 : decode cL_law 499 = .ok (.iaload, 1) := by decide +kernel
theorem dL_law_500 : decode cL_law 500 = .ok (.invokevirtual 55, 3) := by decide +kernel
theorem dL_law_503 : decode cL_law 503 = .ok (.if_icmp .eq 896, 3) := by decide +kernel
theorem dL_law_506 : decode cL_law 506 = .ok (.iconst 0, 1) := by decide +kernel
theorem dL_law_507 : decode cL_law 507 = .ok (.ireturn, 1) := by decide +kernel
theorem dL_law_508 : decode cL_law 508 = .ok (.aload_n 1, 1) := by decide +kernel
theorem dL_law_509 : decode cL_law 509 = .ok (.aload_n 0, 1) := by decide +kernel
theorem dL_law_510 : decode cL_law 510 = .ok (.iload_n 3, 1) := by decide +kernel
theorem dL_law_511 : decode cL_law 511 = .ok (.iconst 1, 1) := by decide +kernel
theorem dL_law_512 : decode cL_law 512 = .ok (.iadd, 1) := by decide +kernel
theorem dL_law_513 : decode cL_law 513 = .ok (.iaload, 1) := by decide +kernel
theorem dL_law_514 : decode cL_law 514 = .ok (.aload_n 0, 1) := by decide +kernel
theorem dL_law_515 : decode cL_law 515 = .ok (.iload_n 3, 1) := by decide +kernel
theorem dL_law_516 : decode cL_law 516 = .ok (.iconst 2, 1) := by decide +kernel
theorem dL_law_517 : decode cL_law 517 = .ok (.iadd, 1) := by decide +kernel
theorem dL_law_518 : decode cL_law 518 = .ok (.iaload, 1) := by decide +kernel
theorem dL_law_519 : decode cL_law 519 = .ok (.aload_n 0, 1) := by decide +kernel
theorem dL_law_520 : decode cL_law 520 = .ok (.iload_n 3, 1) := by decide +kernel
theorem dL_law_521 : decode cL_law 521 = .ok (.iconst 3, 1) := by decide +kernel
theorem dL_law_522 : decode cL_law 522 = .ok (.iadd, 1) := by decide +kernel
theorem dL_law_523 : decode cL_law 523 = .ok (.iaload, 1) := by decide +kernel
theorem dL_law_524 : decode cL_law 524 = .ok (.invokevirtual 56, 3) := by decide +kernel
theorem dL_law_527 : decode cL_law 527 = .ok (.aload_n 2, 1) := by decide +kernel
theorem dL_law_528 : decode cL_law 528 = .ok (.aload_n 0, 1) := by decide +kernel
theorem dL_law_529 : decode cL_law 529 = .ok (.iload_n 3, 1) := by decide +kernel
theorem dL_law_530 : decode cL_law 530 = .ok (.iconst 1, 1) := by decide +kernel
theorem dL_law_531 : decode cL_law 531 = .ok (.iadd, 1) := by decide +kernel
theorem dL_law_532 : decode cL_law 532 = .ok (.iaload, 1) := by decide +kernel
theorem dL_law_533 : decode cL_law 533 = .ok (.aload_n 0, 1) := by decide +kernel
theorem dL_law_534 : decode cL_law 534 = .ok (.iload_n 3, 1) := by decide +kernel
theorem dL_law_535 : decode cL_law 535 = .ok (.iconst 2, 1) := by decide +kernel
theorem dL_law_536 : decode cL_law 536 = .ok (.iadd, 1) := by decide +kernel
theorem dL_law_537 : decode cL_law 537 = .ok (.iaload, 1) := by decide +kernel
theorem dL_law_538 : decode cL_law 538 = .ok (.aload_n 0, 1) := by decide +kernel
theorem dL_law_539 : decode cL_law 539 = .ok (.iload_n 3, 1) := by decide +kernel
theorem dL_law_540 : decode cL_law 540 = .ok (.iconst 3, 1) := by decide +kernel
theorem dL_law_541 : decode cL_law 541 = .ok (.iadd, 1) := by decide +kernel
theorem dL_law_542 : decode cL_law 542 = .ok (.iaload, 1) := by decide +kernel
theorem dL_law_543 : decode cL_law 543 = .ok (.invokevirtual 59, 3) := by decide +kernel
theorem dL_law_546 : decode cL_law 546 = .ok (.if_icmp .eq 853, 3) := by decide +kernel
theorem dL_law_549 : decode cL_law 549 = .ok (.iconst 0, 1) := by decide +kernel
theorem dL_law_550 : decode cL_law 550 = .ok (.ireturn, 1) := by decide +kernel
theorem dL_law_551 : decode cL_law 551 = .ok (.aload_n 1, 1) := by decide +kernel
theorem dL_law_552 : decode cL_law 552 = .ok (.aload_n 0, 1) := by decide +kernel
theorem dL_law_553 : decode cL_law 553 = .ok (.iload_n 3, 1) := by decide +kernel
theorem dL_law_554 : decode cL_law 554 = .ok (.iconst 1, 1) := by decide +kernel
theorem dL_law_555 : decode cL_law 555 = .ok (.iadd, 1) := by decide +kernel
theorem dL_law_556 : decode cL_law 556 = .ok (.iaload, 1) := by decide +kernel
theorem dL_law_557 : decode cL_law 557 = .ok (.aload_n 0, 1) := by decide +kernel
theorem dL_law_558 : decode cL_law 558 = .ok (.iload_n 3, 1) := by decide +kernel
theorem dL_law_559 : decode cL_law 559 = .ok (.iconst 2, 1) := by decide +kernel
theorem dL_law_560 : decode cL_law 560 = .ok (.iadd, 1) := by decide +kernel
theorem dL_law_561 : decode cL_law 561 = .ok (.iaload, 1) := by decide +kernel
theorem dL_law_562 : decode cL_law 562 = .ok (.invokevirtual 60, 3) := by decide +kernel
theorem dL_law_565 : decode cL_law 565 = .ok (.aload_n 2, 1) := by decide +kernel
theorem dL_law_566 : decode cL_law 566 = .ok (.aload_n 0, 1) := by decide +kernel
theorem dL_law_567 : decode cL_law 567 = .ok (.iload_n 3, 1) := by decide +kernel
theorem dL_law_568 : decode cL_law 568 = .ok (.iconst 1, 1) := by decide +kernel
theorem dL_law_569 : decode cL_law 569 = .ok (.iadd, 1) := by decide +kernel
theorem dL_law_570 : decode cL_law 570 = .ok (.iaload, 1) := by decide +kernel
theorem dL_law_571 : decode cL_law 571 = .ok (.aload_n 0, 1) := by decide +kernel
theorem dL_law_572 : decode cL_law 572 = .ok (.iload_n 3, 1) := by decide +kernel
theorem dL_law_573 : decode cL_law 573 = .ok (.iconst 2, 1) := by decide +kernel
theorem dL_law_574 : decode cL_law 574 = .ok (.iadd, 1) := by decide +kernel
theorem dL_law_575 : decode cL_law 575 = .ok (.iaload, 1) := by decide +kernel
theorem dL_law_576 : decode cL_law 576 = .ok (.invokevirtual 63, 3) := by decide +kernel
theorem dL_law_579 : decode cL_law 579 = .ok (.if_icmp .eq 820, 3) := by decide +kernel
theorem dL_law_582 : decode cL_law 582 = .ok (.iconst 0, 1) := by decide +kernel
theorem dL_law_583 : decode cL_law 583 = .ok (.ireturn, 1) := by decide +kernel
theorem dL_law_584 : decode cL_law 584 = .ok (.aload_n 1, 1) := by decide +kernel
theorem dL_law_585 : decode cL_law 585 = .ok (.aload_n 0, 1) := by decide +kernel
theorem dL_law_586 : decode cL_law 586 = .ok (.iload_n 3, 1) := by decide +kernel
theorem dL_law_587 : decode cL_law 587 = .ok (.iconst 1, 1) := by decide +kernel
theorem dL_law_588 : decode cL_law 588 = .ok (.iadd, 1) := by decide +kernel
theorem dL_law_589 : decode cL_law 589 = .ok (.iaload, 1) := by decide +kernel
theorem dL_law_590 : decode cL_law 590 = .ok (.aload_n 0, 1) := by decide +kernel
theorem dL_law_591 : decode cL_law 591 = .ok (.iload_n 3, 1) := by decide +kernel
theorem dL_law_592 : decode cL_law 592 = .ok (.iconst 2, 1) := by decide +kernel
theorem dL_law_593 : decode cL_law 593 = .ok (.iadd, 1) := by decide +kernel
theorem dL_law_594 : decode cL_law 594 = .ok (.iaload, 1) := by decide +kernel
theorem dL_law_595 : decode cL_law 595 = .ok (.invokevirtual 64, 3) := by decide +kernel
theorem dL_law_598 : decode cL_law 598 = .ok (.aload_n 2, 1) := by decide +kernel
theorem dL_law_599 : decode cL_law 599 = .ok (.aload_n 0, 1) := by decide +kernel
theorem dL_law_600 : decode cL_law 600 = .ok (.iload_n 3, 1) := by decide +kernel
theorem dL_law_601 : decode cL_law 601 = .ok (.iconst 1, 1) := by decide +kernel
theorem dL_law_602 : decode cL_law 602 = .ok (.iadd, 1) := by decide +kernel
theorem dL_law_603 : decode cL_law 603 = .ok (.iaload, 1) := by decide +kernel
theorem dL_law_604 : decode cL_law 604 = .ok (.aload_n 0, 1) := by decide +kernel
theorem dL_law_605 : decode cL_law 605 = .ok (.iload_n 3, 1) := by decide +kernel
theorem dL_law_606 : decode cL_law 606 = .ok (.iconst 2, 1) := by decide +kernel
theorem dL_law_607 : decode cL_law 607 = .ok (.iadd, 1) := by decide +kernel
theorem dL_law_608 : decode cL_law 608 = .ok (.iaload, 1) := by decide +kernel
theorem dL_law_609 : decode cL_law 609 = .ok (.invokevirtual 67, 3) := by decide +kernel
theorem dL_law_612 : decode cL_law 612 = .ok (.if_icmp .eq 787, 3) := by decide +kernel
theorem dL_law_615 : decode cL_law 615 = .ok (.iconst 0, 1) := by decide +kernel
theorem dL_law_616 : decode cL_law 616 = .ok (.ireturn, 1) := by decide +kernel
theorem dL_law_617 : decode cL_law 617 = .ok (.aload_n 1, 1) := by decide +kernel
theorem dL_law_618 : decode cL_law 618 = .ok (.aload_n 0, 1) := by decide +kernel
theorem dL_law_619 : decode cL_law 619 = .ok (.iload_n 3, 1) := by decide +kernel
theorem dL_law_620 : decode cL_law 620 = .ok (.iconst 1, 1) := by decide +kernel
theorem dL_law_621 : decode cL_law 621 = .ok (.iadd, 1) := by decide +kernel
theorem dL_law_622 : decode cL_law 622 = .ok (.iaload, 1) := by decide +kernel
theorem dL_law_623 : decode cL_law 623 = .ok (.invokevirtual 68, 3) := by decide +kernel
theorem dL_law_626 : decode cL_law 626 = .ok (.aload_n 2, 1) := by decide +kernel
theorem dL_law_627 : decode cL_law 627 = .ok (.aload_n 0, 1) := by decide +kernel
theorem dL_law_628 : decode cL_law 628 = .ok (.iload_n 3, 1) := by decide +kernel
theorem dL_law_629 : decode cL_law 629 = .ok (.iconst 1, 1) := by decide +kernel
theorem dL_law_630 : decode cL_law 630 = .ok (.iadd, 1) := by decide +kernel
theorem dL_law_631 : decode cL_law 631 = .ok (.iaload, 1) := by decide +kernel
theorem dL_law_632 : decode cL_law 632 = .ok (.invokevirtual 71, 3) := by decide +kernel
theorem dL_law_635 : decode cL_law 635 = .ok (.if_icmp .eq 764, 3) := by decide +kernel
theorem dL_law_638 : decode cL_law 638 = .ok (.iconst 0, 1) := by decide +kernel
theorem dL_law_639 : decode cL_law 639 = .ok (.ireturn, 1) := by decide +kernel
theorem dL_law_640 : decode cL_law 640 = .ok (.aload_n 1, 1) := by decide +kernel
theorem dL_law_641 : decode cL_law 641 = .ok (.aload_n 0, 1) := by decide +kernel
theorem dL_law_642 : decode cL_law 642 = .ok (.iload_n 3, 1) := by decide +kernel
theorem dL_law_643 : decode cL_law 643 = .ok (.iconst 1, 1) := by decide +kernel
theorem dL_law_644 : decode cL_law 644 = .ok (.iadd, 1) := by decide +kernel
theorem dL_law_645 : decode cL_law 645 = .ok (.iaload, 1) := by decide +kernel
theorem dL_law_646 : decode cL_law 646 = .ok (.aload_n 0, 1) := by decide +kernel
theorem dL_law_647 : decode cL_law 647 = .ok (.iload_n 3, 1) := by decide +kernel
theorem dL_law_648 : decode cL_law 648 = .ok (.iconst 2, 1) := by decide +kernel
theorem dL_law_649 : decode cL_law 649 = .ok (.iadd, 1) := by decide +kernel
theorem dL_law_650 : decode cL_law 650 = .ok (.iaload, 1) := by decide +kernel
theorem dL_law_651 : decode cL_law 651 = .ok (.invokevirtual 72, 3) := by decide +kernel
theorem dL_law_654 : decode cL_law 654 = .ok (.aload_n 2, 1) := by decide +kernel
theorem dL_law_655 : decode cL_law 655 = .ok (.aload_n 0, 1) := by decide +kernel
theorem dL_law_656 : decode cL_law 656 = .ok (.iload_n 3, 1) := by decide +kernel
theorem dL_law_657 : decode cL_law 657 = .ok (.iconst 1, 1) := by decide +kernel
theorem dL_law_658 : decode cL_law 658 = .ok (.iadd, 1) := by decide +kernel
theorem dL_law_659 : decode cL_law 659 = .ok (.iaload, 1) := by decide +kernel
theorem dL_law_660 : decode cL_law 660 = .ok (.aload_n 0, 1) := by decide +kernel
theorem dL_law_661 : decode cL_law 661 = .ok (.iload_n 3, 1) := by decide +kernel
theorem dL_law_662 : decode cL_law 662 = .ok (.iconst 2, 1) := by decide +kernel
theorem dL_law_663 : decode cL_law 663 = .ok (.iadd, 1) := by decide +kernel
theorem dL_law_664 : decode cL_law 664 = .ok (.iaload, 1) := by decide +kernel
theorem dL_law_665 : decode cL_law 665 = .ok (.invokevirtual 75, 3) := by decide +kernel
theorem dL_law_668 : decode cL_law 668 = .ok (.if_icmp .eq 731, 3) := by decide +kernel
theorem dL_law_671 : decode cL_law 671 = .ok (.iconst 0, 1) := by decide +kernel
theorem dL_law_672 : decode cL_law 672 = .ok (.ireturn, 1) := by decide +kernel
theorem dL_law_673 : decode cL_law 673 = .ok (.aload_n 1, 1) := by decide +kernel
theorem dL_law_674 : decode cL_law 674 = .ok (.aload_n 0, 1) := by decide +kernel
theorem dL_law_675 : decode cL_law 675 = .ok (.iload_n 3, 1) := by decide +kernel
theorem dL_law_676 : decode cL_law 676 = .ok (.iconst 1, 1) := by decide +kernel
theorem dL_law_677 : decode cL_law 677 = .ok (.iadd, 1) := by decide +kernel
theorem dL_law_678 : decode cL_law 678 = .ok (.iaload, 1) := by decide +kernel
theorem dL_law_679 : decode cL_law 679 = .ok (.aload_n 0, 1) := by decide +kernel
theorem dL_law_680 : decode cL_law 680 = .ok (.iload_n 3, 1) := by decide +kernel
theorem dL_law_681 : decode cL_law 681 = .ok (.iconst 2, 1) := by decide +kernel
theorem dL_law_682 : decode cL_law 682 = .ok (.iadd, 1) := by decide +kernel
theorem dL_law_683 : decode cL_law 683 = .ok (.iaload, 1) := by decide +kernel
theorem dL_law_684 : decode cL_law 684 = .ok (.aload_n 0, 1) := by decide +kernel
theorem dL_law_685 : decode cL_law 685 = .ok (.iload_n 3, 1) := by decide +kernel
theorem dL_law_686 : decode cL_law 686 = .ok (.iconst 3, 1) := by decide +kernel
theorem dL_law_687 : decode cL_law 687 = .ok (.iadd, 1) := by decide +kernel
theorem dL_law_688 : decode cL_law 688 = .ok (.iaload, 1) := by decide +kernel
theorem dL_law_689 : decode cL_law 689 = .ok (.invokevirtual 76, 3) := by decide +kernel
theorem dL_law_692 : decode cL_law 692 = .ok (.aload_n 2, 1) := by decide +kernel
theorem dL_law_693 : decode cL_law 693 = .ok (.aload_n 0, 1) := by decide +kernel
theorem dL_law_694 : decode cL_law 694 = .ok (.iload_n 3, 1) := by decide +kernel
theorem dL_law_695 : decode cL_law 695 = .ok (.iconst 1, 1) := by decide +kernel
theorem dL_law_696 : decode cL_law 696 = .ok (.iadd, 1) := by decide +kernel
theorem dL_law_697 : decode cL_law 697 = .ok (.iaload, 1) := by decide +kernel
theorem dL_law_698 : decode cL_law 698 = .ok (.aload_n 0, 1) := by decide +kernel
theorem dL_law_699 : decode cL_law 699 = .ok (.iload_n 3, 1) := by decide +kernel
theorem dL_law_700 : decode cL_law 700 = .ok (.iconst 2, 1) := by decide +kernel
theorem dL_law_701 : decode cL_law 701 = .ok (.iadd, 1) := by decide +kernel
theorem dL_law_702 : decode cL_law 702 = .ok (.iaload, 1) := by decide +kernel
theorem dL_law_703 : decode cL_law 703 = .ok (.aload_n 0, 1) := by decide +kernel
theorem dL_law_704 : decode cL_law 704 = .ok (.iload_n 3, 1) := by decide +kernel
theorem dL_law_705 : decode cL_law 705 = .ok (.iconst 3, 1) := by decide +kernel
theorem dL_law_706 : decode cL_law 706 = .ok (.iadd, 1) := by decide +kernel
theorem dL_law_707 : decode cL_law 707 = .ok (.iaload, 1) := by decide +kernel
theorem dL_law_708 : decode cL_law 708 = .ok (.invokevirtual 79, 3) := by decide +kernel
theorem dL_law_711 : decode cL_law 711 = .ok (.if_icmp .eq 688, 3) := by decide +kernel
theorem dL_law_714 : decode cL_law 714 = .ok (.iconst 0, 1) := by decide +kernel
theorem dL_law_715 : decode cL_law 715 = .ok (.ireturn, 1) := by decide +kernel
theorem dL_law_716 : decode cL_law 716 = .ok (.aload_n 1, 1) := by decide +kernel
theorem dL_law_717 : decode cL_law 717 = .ok (.aload_n 0, 1) := by decide +kernel
theorem dL_law_718 : decode cL_law 718 = .ok (.iload_n 3, 1) := by decide +kernel
theorem dL_law_719 : decode cL_law 719 = .ok (.iconst 1, 1) := by decide +kernel
theorem dL_law_720 : decode cL_law 720 = .ok (.iadd, 1) := by decide +kernel
theorem dL_law_721 : decode cL_law 721 = .ok (.iaload, 1) := by decide +kernel
theorem dL_law_722 : decode cL_law 722 = .ok (.aload_n 0, 1) := by decide +kernel
theorem dL_law_723 : decode cL_law 723 = .ok (.iload_n 3, 1) := by decide +kernel
theorem dL_law_724 : decode cL_law 724 = .ok (.iconst 2, 1) := by decide +kernel
theorem dL_law_725 : decode cL_law 725 = .ok (.iadd, 1) := by decide +kernel
theorem dL_law_726 : decode cL_law 726 = .ok (.iaload, 1) := by decide +kernel
theorem dL_law_727 : decode cL_law 727 = .ok (.invokevirtual 80, 3) := by decide +kernel
theorem dL_law_730 : decode cL_law 730 = .ok (.aload_n 2, 1) := by decide +kernel
theorem dL_law_731 : decode cL_law 731 = .ok (.aload_n 0, 1) := by decide +kernel
theorem dL_law_732 : decode cL_law 732 = .ok (.iload_n 3, 1) := by decide +kernel
theorem dL_law_733 : decode cL_law 733 = .ok (.iconst 1, 1) := by decide +kernel
theorem dL_law_734 : decode cL_law 734 = .ok (.iadd, 1) := by decide +kernel
theorem dL_law_735 : decode cL_law 735 = .ok (.iaload, 1) := by decide +kernel
theorem dL_law_736 : decode cL_law 736 = .ok (.aload_n 0, 1) := by decide +kernel
theorem dL_law_737 : decode cL_law 737 = .ok (.iload_n 3, 1) := by decide +kernel
theorem dL_law_738 : decode cL_law 738 = .ok (.iconst 2, 1) := by decide +kernel
theorem dL_law_739 : decode cL_law 739 = .ok (.iadd, 1) := by decide +kernel
theorem dL_law_740 : decode cL_law 740 = .ok (.iaload, 1) := by decide +kernel
theorem dL_law_741 : decode cL_law 741 = .ok (.invokevirtual 83, 3) := by decide +kernel
theorem dL_law_744 : decode cL_law 744 = .ok (.if_icmp .eq 655, 3) := by decide +kernel
theorem dL_law_747 : decode cL_law 747 = .ok (.iconst 0, 1) := by decide +kernel
theorem dL_law_748 : decode cL_law 748 = .ok (.ireturn, 1) := by decide +kernel
theorem dL_law_749 : decode cL_law 749 = .ok (.aload_n 1, 1) := by decide +kernel
theorem dL_law_750 : decode cL_law 750 = .ok (.aload_n 0, 1) := by decide +kernel
theorem dL_law_751 : decode cL_law 751 = .ok (.iload_n 3, 1) := by decide +kernel
theorem dL_law_752 : decode cL_law 752 = .ok (.iconst 1, 1) := by decide +kernel
theorem dL_law_753 : decode cL_law 753 = .ok (.iadd, 1) := by decide +kernel
theorem dL_law_754 : decode cL_law 754 = .ok (.iaload, 1) := by decide +kernel
theorem dL_law_755 : decode cL_law 755 = .ok (.invokevirtual 84, 3) := by decide +kernel
theorem dL_law_758 : decode cL_law 758 = .ok (.aload_n 2, 1) := by decide +kernel
theorem dL_law_759 : decode cL_law 759 = .ok (.aload_n 0, 1) := by decide +kernel
theorem dL_law_760 : decode cL_law 760 = .ok (.iload_n 3, 1) := by decide +kernel
theorem dL_law_761 : decode cL_law 761 = .ok (.iconst 1, 1) := by decide +kernel
theorem dL_law_762 : decode cL_law 762 = .ok (.iadd, 1) := by decide +kernel
theorem dL_law_763 : decode cL_law 763 = .ok (.iaload, 1) := by decide +kernel
theorem dL_law_764 : decode cL_law 764 = .ok (.invokevirtual 87, 3) := by decide +kernel
theorem dL_law_767 : decode cL_law 767 = .ok (.if_icmp .eq 632, 3) := by decide +kernel
theorem dL_law_770 : decode cL_law 770 = .ok (.iconst 0, 1) := by decide +kernel
theorem dL_law_771 : decode cL_law 771 = .ok (.ireturn, 1) := by decide +kernel
theorem dL_law_772 : decode cL_law 772 = .ok (.aload_n 1, 1) := by decide +kernel
theorem dL_law_773 : decode cL_law 773 = .ok (.aload_n 0, 1) := by decide +kernel
theorem dL_law_774 : decode cL_law 774 = .ok (.iload_n 3, 1) := by decide +kernel
theorem dL_law_775 : decode cL_law 775 = .ok (.iconst 1, 1) := by decide +kernel
theorem dL_law_776 : decode cL_law 776 = .ok (.iadd, 1) := by decide +kernel
theorem dL_law_777 : decode cL_law 777 = .ok (.iaload, 1) := by decide +kernel
theorem dL_law_778 : decode cL_law 778 = .ok (.invokevirtual 88, 3) := by decide +kernel
theorem dL_law_781 : decode cL_law 781 = .ok (.aload_n 2, 1) := by decide +kernel
theorem dL_law_782 : decode cL_law 782 = .ok (.aload_n 0, 1) := by decide +kernel
theorem dL_law_783 : decode cL_law 783 = .ok (.iload_n 3, 1) := by decide +kernel
theorem dL_law_784 : decode cL_law 784 = .ok (.iconst 1, 1) := by decide +kernel
theorem dL_law_785 : decode cL_law 785 = .ok (.iadd, 1) := by decide +kernel
theorem dL_law_786 : decode cL_law 786 = .ok (.iaload, 1) := by decide +kernel
theorem dL_law_787 : decode cL_law 787 = .ok (.invokevirtual 91, 3) := by decide +kernel
theorem dL_law_790 : decode cL_law 790 = .ok (.if_icmp .eq 609, 3) := by decide +kernel
theorem dL_law_793 : decode cL_law 793 = .ok (.iconst 0, 1) := by decide +kernel
theorem dL_law_794 : decode cL_law 794 = .ok (.ireturn, 1) := by decide +kernel
theorem dL_law_795 : decode cL_law 795 = .ok (.aload_n 1, 1) := by decide +kernel
theorem dL_law_796 : decode cL_law 796 = .ok (.aload_n 0, 1) := by decide +kernel
theorem dL_law_797 : decode cL_law 797 = .ok (.iload_n 3, 1) := by decide +kernel
theorem dL_law_798 : decode cL_law 798 = .ok (.iconst 1, 1) := by decide +kernel
theorem dL_law_799 : decode cL_law 799 = .ok (.iadd, 1) := by decide +kernel
theorem dL_law_800 : decode cL_law 800 = .ok (.iaload, 1) := by decide +kernel
theorem dL_law_801 : decode cL_law 801 = .ok (.aload_n 0, 1) := by decide +kernel
theorem dL_law_802 : decode cL_law 802 = .ok (.iload_n 3, 1) := by decide +kernel
theorem dL_law_803 : decode cL_law 803 = .ok (.iconst 2, 1) := by decide +kernel
theorem dL_law_804 : decode cL_law 804 = .ok (.iadd, 1) := by decide +kernel
theorem dL_law_805 : decode cL_law 805 = .ok (.iaload, 1) := by decide +kernel
theorem dL_law_806 : decode cL_law 806 = .ok (.aload_n 0, 1) := by decide +kernel
theorem dL_law_807 : decode cL_law 807 = .ok (.iload_n 3, 1) := by decide +kernel
theorem dL_law_808 : decode cL_law 808 = .ok (.iconst 3, 1) := by decide +kernel
theorem dL_law_809 : decode cL_law 809 = .ok (.iadd, 1) := by decide +kernel
theorem dL_law_810 : decode cL_law 810 = .ok (.iaload, 1) := by decide +kernel
theorem dL_law_811 : decode cL_law 811 = .ok (.invokevirtual 92, 3) := by decide +kernel
theorem dL_law_814 : decode cL_law 814 = .ok (.aload_n 2, 1) := by decide +kernel
theorem dL_law_815 : decode cL_law 815 = .ok (.aload_n 0, 1) := by decide +kernel
theorem dL_law_816 : decode cL_law 816 = .ok (.iload_n 3, 1) := by decide +kernel
theorem dL_law_817 : decode cL_law 817 = .ok (.iconst 1, 1) := by decide +kernel
theorem dL_law_818 : decode cL_law 818 = .ok (.iadd, 1) := by decide +kernel
theorem dL_law_819 : decode cL_law 819 = .ok (.iaload, 1) := by decide +kernel
theorem dL_law_820 : decode cL_law 820 = .ok (.aload_n 0, 1) := by decide +kernel
theorem dL_law_821 : decode cL_law 821 = .ok (.iload_n 3, 1) := by decide +kernel
theorem dL_law_822 : decode cL_law 822 = .ok (.iconst 2, 1) := by decide +kernel
theorem dL_law_823 : decode cL_law 823 = .ok (.iadd, 1) := by decide +kernel
theorem dL_law_824 : decode cL_law 824 = .ok (.iaload, 1) := by decide +kernel
theorem dL_law_825 : decode cL_law 825 = .ok (.aload_n 0, 1) := by decide +kernel
theorem dL_law_826 : decode cL_law 826 = .ok (.iload_n 3, 1) := by decide +kernel
theorem dL_law_827 : decode cL_law 827 = .ok (.iconst 3, 1) := by decide +kernel
theorem dL_law_828 : decode cL_law 828 = .ok (.iadd, 1) := by decide +kernel
theorem dL_law_829 : decode cL_law 829 = .ok (.iaload, 1) := by decide +kernel
theorem dL_law_830 : decode cL_law 830 = .ok (.invokevirtual 95, 3) := by decide +kernel
theorem dL_law_833 : decode cL_law 833 = .ok (.if_icmp .eq 566, 3) := by decide +kernel
theorem dL_law_836 : decode cL_law 836 = .ok (.iconst 0, 1) := by decide +kernel
theorem dL_law_837 : decode cL_law 837 = .ok (.ireturn, 1) := by decide +kernel
theorem dL_law_838 : decode cL_law 838 = .ok (.aload_n 1, 1) := by decide +kernel
theorem dL_law_839 : decode cL_law 839 = .ok (.aload_n 0, 1) := by decide +kernel
theorem dL_law_840 : decode cL_law 840 = .ok (.iload_n 3, 1) := by decide +kernel
theorem dL_law_841 : decode cL_law 841 = .ok (.iconst 1, 1) := by decide +kernel
theorem dL_law_842 : decode cL_law 842 = .ok (.iadd, 1) := by decide +kernel
theorem dL_law_843 : decode cL_law 843 = .ok (.iaload, 1) := by decide +kernel
theorem dL_law_844 : decode cL_law 844 = .ok (.aload_n 0, 1) := by decide +kernel
theorem dL_law_845 : decode cL_law 845 = .ok (.iload_n 3, 1) := by decide +kernel
theorem dL_law_846 : decode cL_law 846 = .ok (.iconst 2, 1) := by decide +kernel
theorem dL_law_847 : decode cL_law 847 = .ok (.iadd, 1) := by decide +kernel
theorem dL_law_848 : decode cL_law 848 = .ok (.iaload, 1) := by decide +kernel
theorem dL_law_849 : decode cL_law 849 = .ok (.invokevirtual 96, 3) := by decide +kernel
theorem dL_law_852 : decode cL_law 852 = .ok (.aload_n 2, 1) := by decide +kernel
theorem dL_law_853 : decode cL_law 853 = .ok (.aload_n 0, 1) := by decide +kernel
theorem dL_law_854 : decode cL_law 854 = .ok (.iload_n 3, 1) := by decide +kernel
theorem dL_law_855 : decode cL_law 855 = .ok (.iconst 1, 1) := by decide +kernel
theorem dL_law_856 : decode cL_law 856 = .ok (.iadd, 1) := by decide +kernel
theorem dL_law_857 : decode cL_law 857 = .ok (.iaload, 1) := by decide +kernel
theorem dL_law_858 : decode cL_law 858 = .ok (.aload_n 0, 1) := by decide +kernel
theorem dL_law_859 : decode cL_law 859 = .ok (.iload_n 3, 1) := by decide +kernel
theorem dL_law_860 : decode cL_law 860 = .ok (.iconst 2, 1) := by decide +kernel
theorem dL_law_861 : decode cL_law 861 = .ok (.iadd, 1) := by decide +kernel
theorem dL_law_862 : decode cL_law 862 = .ok (.iaload, 1) := by decide +kernel
theorem dL_law_863 : decode cL_law 863 = .ok (.invokevirtual 99, 3) := by decide +kernel
theorem dL_law_866 : decode cL_law 866 = .ok (.if_icmp .eq 533, 3) := by decide +kernel
theorem dL_law_869 : decode cL_law 869 = .ok (.iconst 0, 1) := by decide +kernel
theorem dL_law_870 : decode cL_law 870 = .ok (.ireturn, 1) := by decide +kernel
theorem dL_law_871 : decode cL_law 871 = .ok (.aload_n 1, 1) := by decide +kernel
theorem dL_law_872 : decode cL_law 872 = .ok (.aload_n 0, 1) := by decide +kernel
theorem dL_law_873 : decode cL_law 873 = .ok (.iload_n 3, 1) := by decide +kernel
theorem dL_law_874 : decode cL_law 874 = .ok (.iconst 1, 1) := by decide +kernel
theorem dL_law_875 : decode cL_law 875 = .ok (.iadd, 1) := by decide +kernel
theorem dL_law_876 : decode cL_law 876 = .ok (.iaload, 1) := by decide +kernel
theorem dL_law_877 : decode cL_law 877 = .ok (.aload_n 0, 1) := by decide +kernel
theorem dL_law_878 : decode cL_law 878 = .ok (.iload_n 3, 1) := by decide +kernel
theorem dL_law_879 : decode cL_law 879 = .ok (.iconst 2, 1) := by decide +kernel
theorem dL_law_880 : decode cL_law 880 = .ok (.iadd, 1) := by decide +kernel
theorem dL_law_881 : decode cL_law 881 = .ok (.iaload, 1) := by decide +kernel
theorem dL_law_882 : decode cL_law 882 = .ok (.invokevirtual 100, 3) := by decide +kernel
theorem dL_law_885 : decode cL_law 885 = .ok (.aload_n 2, 1) := by decide +kernel
theorem dL_law_886 : decode cL_law 886 = .ok (.aload_n 0, 1) := by decide +kernel
theorem dL_law_887 : decode cL_law 887 = .ok (.iload_n 3, 1) := by decide +kernel
theorem dL_law_888 : decode cL_law 888 = .ok (.iconst 1, 1) := by decide +kernel
theorem dL_law_889 : decode cL_law 889 = .ok (.iadd, 1) := by decide +kernel
theorem dL_law_890 : decode cL_law 890 = .ok (.iaload, 1) := by decide +kernel
theorem dL_law_891 : decode cL_law 891 = .ok (.aload_n 0, 1) := by decide +kernel
theorem dL_law_892 : decode cL_law 892 = .ok (.iload_n 3, 1) := by decide +kernel
theorem dL_law_893 : decode cL_law 893 = .ok (.iconst 2, 1) := by decide +kernel
theorem dL_law_894 : decode cL_law 894 = .ok (.iadd, 1) := by decide +kernel
theorem dL_law_895 : decode cL_law 895 = .ok (.iaload, 1) := by decide +kernel
theorem dL_law_896 : decode cL_law 896 = .ok (.invokevirtual 103, 3) := by decide +kernel
theorem dL_law_899 : decode cL_law 899 = .ok (.if_icmp .eq 500, 3) := by decide +kernel
theorem dL_law_902 : decode cL_law 902 = .ok (.iconst 0, 1) := by decide +kernel
theorem dL_law_903 : decode cL_law 903 = .ok (.ireturn, 1) := by decide +kernel
theorem dL_law_904 : decode cL_law 904 = .ok (.aload_n 1, 1) := by decide +kernel
theorem dL_law_905 : decode cL_law 905 = .ok (.aload_n 0, 1) := by decide +kernel
theorem dL_law_906 : decode cL_law 906 = .ok (.iload_n 3, 1) := by decide +kernel
theorem dL_law_907 : decode cL_law 907 = .ok (.iconst 1, 1) := by decide +kernel
theorem dL_law_908 : decode cL_law 908 = .ok (.iadd, 1) := by decide +kernel
theorem dL_law_909 : decode cL_law 909 = .ok (.iaload, 1) := by decide +kernel
theorem dL_law_910 : decode cL_law 910 = .ok (.invokevirtual 104, 3) := by decide +kernel
theorem dL_law_913 : decode cL_law 913 = .ok (.aload_n 2, 1) := by decide +kernel
theorem dL_law_914 : decode cL_law 914 = .ok (.aload_n 0, 1) := by decide +kernel
theorem dL_law_915 : decode cL_law 915 = .ok (.iload_n 3, 1) := by decide +kernel
theorem dL_law_916 : decode cL_law 916 = .ok (.iconst 1, 1) := by decide +kernel
theorem dL_law_917 : decode cL_law 917 = .ok (.iadd, 1) := by decide +kernel
theorem dL_law_918 : decode cL_law 918 = .ok (.iaload, 1) := by decide +kernel
theorem dL_law_919 : decode cL_law 919 = .ok (.invokevirtual 107, 3) := by decide +kernel
theorem dL_law_922 : decode cL_law 922 = .ok (.if_icmp .eq 477, 3) := by decide +kernel
theorem dL_law_925 : decode cL_law 925 = .ok (.iconst 0, 1) := by decide +kernel
theorem dL_law_926 : decode cL_law 926 = .ok (.ireturn, 1) := by decide +kernel
theorem dL_law_927 : decode cL_law 927 = .ok (.aload_n 1, 1) := by decide +kernel
theorem dL_law_928 : decode cL_law 928 = .ok (.aload_n 0, 1) := by decide +kernel
theorem dL_law_929 : decode cL_law 929 = .ok (.iload_n 3, 1) := by decide +kernel
theorem dL_law_930 : decode cL_law 930 = .ok (.iconst 1, 1) := by decide +kernel
theorem dL_law_931 : decode cL_law 931 = .ok (.iadd, 1) := by decide +kernel
theorem dL_law_932 : decode cL_law 932 = .ok (.iaload, 1) := by decide +kernel
theorem dL_law_933 : decode cL_law 933 = .ok (.aload_n 0, 1) := by decide +kernel
theorem dL_law_934 : decode cL_law 934 = .ok (.iload_n 3, 1) := by decide +kernel
theorem dL_law_935 : decode cL_law 935 = .ok (.iconst 2, 1) := by decide +kernel
theorem dL_law_936 : decode cL_law 936 = .ok (.iadd, 1) := by decide +kernel
theorem dL_law_937 : decode cL_law 937 = .ok (.iaload, 1) := by decide +kernel
theorem dL_law_938 : decode cL_law 938 = .ok (.aload_n 0, 1) := by decide +kernel
theorem dL_law_939 : decode cL_law 939 = .ok (.iload_n 3, 1) := by decide +kernel
theorem dL_law_940 : decode cL_law 940 = .ok (.iconst 3, 1) := by decide +kernel
theorem dL_law_941 : decode cL_law 941 = .ok (.iadd, 1) := by decide +kernel
theorem dL_law_942 : decode cL_law 942 = .ok (.iaload, 1) := by decide +kernel
theorem dL_law_943 : decode cL_law 943 = .ok (.invokevirtual 108, 3) := by decide +kernel
theorem dL_law_946 : decode cL_law 946 = .ok (.aload_n 2, 1) := by decide +kernel
theorem dL_law_947 : decode cL_law 947 = .ok (.aload_n 0, 1) := by decide +kernel
theorem dL_law_948 : decode cL_law 948 = .ok (.iload_n 3, 1) := by decide +kernel
theorem dL_law_949 : decode cL_law 949 = .ok (.iconst 1, 1) := by decide +kernel
theorem dL_law_950 : decode cL_law 950 = .ok (.iadd, 1) := by decide +kernel
theorem dL_law_951 : decode cL_law 951 = .ok (.iaload, 1) := by decide +kernel
theorem dL_law_952 : decode cL_law 952 = .ok (.aload_n 0, 1) := by decide +kernel
theorem dL_law_953 : decode cL_law 953 = .ok (.iload_n 3, 1) := by decide +kernel
theorem dL_law_954 : decode cL_law 954 = .ok (.iconst 2, 1) := by decide +kernel
theorem dL_law_955 : decode cL_law 955 = .ok (.iadd, 1) := by decide +kernel
theorem dL_law_956 : decode cL_law 956 = .ok (.iaload, 1) := by decide +kernel
theorem dL_law_957 : decode cL_law 957 = .ok (.aload_n 0, 1) := by decide +kernel
theorem dL_law_958 : decode cL_law 958 = .ok (.iload_n 3, 1) := by decide +kernel
theorem dL_law_959 : decode cL_law 959 = .ok (.iconst 3, 1) := by decide +kernel
theorem dL_law_960 : decode cL_law 960 = .ok (.iadd, 1) := by decide +kernel
theorem dL_law_961 : decode cL_law 961 = .ok (.iaload, 1) := by decide +kernel
theorem dL_law_962 : decode cL_law 962 = .ok (.invokevirtual 112, 3) := by decide +kernel
theorem dL_law_965 : decode cL_law 965 = .ok (.lcmp, 1) := by decide +kernel
theorem dL_law_966 : decode cL_law 966 = .ok (.ifCond .eq 433, 3) := by decide +kernel
theorem dL_law_969 : decode cL_law 969 = .ok (.iconst 0, 1) := by decide +kernel
theorem dL_law_970 : decode cL_law 970 = .ok (.ireturn, 1) := by decide +kernel
theorem dL_law_971 : decode cL_law 971 = .ok (.aload_n 1, 1) := by decide +kernel
theorem dL_law_972 : decode cL_law 972 = .ok (.aload_n 0, 1) := by decide +kernel
theorem dL_law_973 : decode cL_law 973 = .ok (.iload_n 3, 1) := by decide +kernel
theorem dL_law_974 : decode cL_law 974 = .ok (.iconst 1, 1) := by decide +kernel
theorem dL_law_975 : decode cL_law 975 = .ok (.iadd, 1) := by decide +kernel
theorem dL_law_976 : decode cL_law 976 = .ok (.iaload, 1) := by decide +kernel
theorem dL_law_977 : decode cL_law 977 = .ok (.invokevirtual 113, 3) := by decide +kernel
theorem dL_law_980 : decode cL_law 980 = .ok (.aload_n 2, 1) := by decide +kernel
theorem dL_law_981 : decode cL_law 981 = .ok (.aload_n 0, 1) := by decide +kernel
theorem dL_law_982 : decode cL_law 982 = .ok (.iload_n 3, 1) := by decide +kernel
theorem dL_law_983 : decode cL_law 983 = .ok (.iconst 1, 1) := by decide +kernel
theorem dL_law_984 : decode cL_law 984 = .ok (.iadd, 1) := by decide +kernel
theorem dL_law_985 : decode cL_law 985 = .ok (.iaload, 1) := by decide +kernel
theorem dL_law_986 : decode cL_law 986 = .ok (.invokevirtual 116, 3) := by decide +kernel
theorem dL_law_989 : decode cL_law 989 = .ok (.if_icmp .eq 410, 3) := by decide +kernel
theorem dL_law_992 : decode cL_law 992 = .ok (.iconst 0, 1) := by decide +kernel
theorem dL_law_993 : decode cL_law 993 = .ok (.ireturn, 1) := by decide +kernel
theorem dL_law_994 : decode cL_law 994 = .ok (.aload_n 1, 1) := by decide +kernel
theorem dL_law_995 : decode cL_law 995 = .ok (.aload_n 0, 1) := by decide +kernel
theorem dL_law_996 : decode cL_law 996 = .ok (.iload_n 3, 1) := by decide +kernel
theorem dL_law_997 : decode cL_law 997 = .ok (.iconst 1, 1) := by decide +kernel
theorem dL_law_998 : decode cL_law 998 = .ok (.iadd, 1) := by decide +kernel
theorem dL_law_999 : decode cL_law 999 = .ok (.iaload, 1) := by decide +kernel
theorem dL_law_1000 : decode cL_law 1000 = .ok (.aload_n 0, 1) := by decide +kernel
theorem dL_law_1001 : decode cL_law 1001 = .ok (.iload_n 3, 1) := by decide +kernel
theorem dL_law_1002 : decode cL_law 1002 = .ok (.iconst 2, 1) := by decide +kernel
theorem dL_law_1003 : decode cL_law 1003 = .ok (.iadd, 1) := by decide +kernel
theorem dL_law_1004 : decode cL_law 1004 = .ok (.iaload, 1) := by decide +kernel
theorem dL_law_1005 : decode cL_law 1005 = .ok (.invokevirtual 117, 3) := by decide +kernel
theorem dL_law_1008 : decode cL_law 1008 = .ok (.aload_n 2, 1) := by decide +kernel
theorem dL_law_1009 : decode cL_law 1009 = .ok (.aload_n 0, 1) := by decide +kernel
theorem dL_law_1010 : decode cL_law 1010 = .ok (.iload_n 3, 1) := by decide +kernel
theorem dL_law_1011 : decode cL_law 1011 = .ok (.iconst 1, 1) := by decide +kernel
theorem dL_law_1012 : decode cL_law 1012 = .ok (.iadd, 1) := by decide +kernel
theorem dL_law_1013 : decode cL_law 1013 = .ok (.iaload, 1) := by decide +kernel
theorem dL_law_1014 : decode cL_law 1014 = .ok (.aload_n 0, 1) := by decide +kernel
theorem dL_law_1015 : decode cL_law 1015 = .ok (.iload_n 3, 1) := by decide +kernel
theorem dL_law_1016 : decode cL_law 1016 = .ok (.iconst 2, 1) := by decide +kernel
theorem dL_law_1017 : decode cL_law 1017 = .ok (.iadd, 1) := by decide +kernel
theorem dL_law_1018 : decode cL_law 1018 = .ok (.iaload, 1) := by decide +kernel
theorem dL_law_1019 : decode cL_law 1019 = .ok (.invokevirtual 120, 3) := by decide +kernel
theorem dL_law_1022 : decode cL_law 1022 = .ok (.if_icmp .eq 377, 3) := by decide +kernel
theorem dL_law_1025 : decode cL_law 1025 = .ok (.iconst 0, 1) := by decide +kernel
theorem dL_law_1026 : decode cL_law 1026 = .ok (.ireturn, 1) := by decide +kernel
theorem dL_law_1027 : decode cL_law 1027 = .ok (.aload_n 1, 1) := by decide +kernel
theorem dL_law_1028 : decode cL_law 1028 = .ok (.invokevirtual 121, 3) := by decide +kernel
theorem dL_law_1031 : decode cL_law 1031 = .ok (.aload_n 2, 1) := by decide +kernel
theorem dL_law_1032 : decode cL_law 1032 = .ok (.invokevirtual 125, 3) := by decide +kernel
theorem dL_law_1035 : decode cL_law 1035 = .ok (.if_icmp .eq 364, 3) := by decide +kernel
theorem dL_law_1038 : decode cL_law 1038 = .ok (.iconst 0, 1) := by decide +kernel
theorem dL_law_1039 : decode cL_law 1039 = .ok (.ireturn, 1) := by decide +kernel
theorem dL_law_1040 : decode cL_law 1040 = .ok (.aload_n 1, 1) := by decide +kernel
theorem dL_law_1041 : decode cL_law 1041 = .ok (.invokevirtual 126, 3) := by decide +kernel
theorem dL_law_1044 : decode cL_law 1044 = .ok (.aload_n 2, 1) := by decide +kernel
theorem dL_law_1045 : decode cL_law 1045 = .ok (.invokevirtual 129, 3) := by decide +kernel
theorem dL_law_1048 : decode cL_law 1048 = .ok (.if_icmp .eq 351, 3) := by decide +kernel
theorem dL_law_1051 : decode cL_law 1051 = .ok (.iconst 0, 1) := by decide +kernel
theorem dL_law_1052 : decode cL_law 1052 = .ok (.ireturn, 1) := by decide +kernel
theorem dL_law_1053 : decode cL_law 1053 = .ok (.aload_n 1, 1) := by decide +kernel
theorem dL_law_1054 : decode cL_law 1054 = .ok (.aload_n 0, 1) := by decide +kernel
theorem dL_law_1055 : decode cL_law 1055 = .ok (.iload_n 3, 1) := by decide +kernel
theorem dL_law_1056 : decode cL_law 1056 = .ok (.iconst 1, 1) := by decide +kernel
theorem dL_law_1057 : decode cL_law 1057 = .ok (.iadd, 1) := by decide +kernel
theorem dL_law_1058 : decode cL_law 1058 = .ok (.iaload, 1) := by decide +kernel
theorem dL_law_1059 : decode cL_law 1059 = .ok (.aload_n 0, 1) := by decide +kernel
theorem dL_law_1060 : decode cL_law 1060 = .ok (.iload_n 3, 1) := by decide +kernel
theorem dL_law_1061 : decode cL_law 1061 = .ok (.iconst 2, 1) := by decide +kernel
theorem dL_law_1062 : decode cL_law 1062 = .ok (.iadd, 1) := by decide +kernel
theorem dL_law_1063 : decode cL_law 1063 = .ok (.iaload, 1) := by decide +kernel
theorem dL_law_1064 : decode cL_law 1064 = .ok (.invokevirtual 130, 3) := by decide +kernel
theorem dL_law_1067 : decode cL_law 1067 = .ok (.aload_n 2, 1) := by decide +kernel
theorem dL_law_1068 : decode cL_law 1068 = .ok (.aload_n 0, 1) := by decide +kernel
theorem dL_law_1069 : decode cL_law 1069 = .ok (.iload_n 3, 1) := by decide +kernel
theorem dL_law_1070 : decode cL_law 1070 = .ok (.iconst 1, 1) := by decide +kernel
theorem dL_law_1071 : decode cL_law 1071 = .ok (.iadd, 1) := by decide +kernel
theorem dL_law_1072 : decode cL_law 1072 = .ok (.iaload, 1) := by decide +kernel
theorem dL_law_1073 : decode cL_law 1073 = .ok (.aload_n 0, 1) := by decide +kernel
theorem dL_law_1074 : decode cL_law 1074 = .ok (.iload_n 3, 1) := by decide +kernel
theorem dL_law_1075 : decode cL_law 1075 = .ok (.iconst 2, 1) := by decide +kernel
theorem dL_law_1076 : decode cL_law 1076 = .ok (.iadd, 1) := by decide +kernel
theorem dL_law_1077 : decode cL_law 1077 = .ok (.iaload, 1) := by decide +kernel
theorem dL_law_1078 : decode cL_law 1078 = .ok (.invokevirtual 133, 3) := by decide +kernel
theorem dL_law_1081 : decode cL_law 1081 = .ok (.if_icmp .eq 318, 3) := by decide +kernel
theorem dL_law_1084 : decode cL_law 1084 = .ok (.iconst 0, 1) := by decide +kernel
theorem dL_law_1085 : decode cL_law 1085 = .ok (.ireturn, 1) := by decide +kernel
theorem dL_law_1086 : decode cL_law 1086 = .ok (.aload_n 1, 1) := by decide +kernel
theorem dL_law_1087 : decode cL_law 1087 = .ok (.aload_n 0, 1) := by decide +kernel
theorem dL_law_1088 : decode cL_law 1088 = .ok (.iload_n 3, 1) := by decide +kernel
theorem dL_law_1089 : decode cL_law 1089 = .ok (.iconst 1, 1) := by decide +kernel
theorem dL_law_1090 : decode cL_law 1090 = .ok (.iadd, 1) := by decide +kernel
theorem dL_law_1091 : decode cL_law 1091 = .ok (.iaload, 1) := by decide +kernel
theorem dL_law_1092 : decode cL_law 1092 = .ok (.aload_n 0, 1) := by decide +kernel
theorem dL_law_1093 : decode cL_law 1093 = .ok (.iload_n 3, 1) := by decide +kernel
theorem dL_law_1094 : decode cL_law 1094 = .ok (.iconst 2, 1) := by decide +kernel
theorem dL_law_1095 : decode cL_law 1095 = .ok (.iadd, 1) := by decide +kernel
theorem dL_law_1096 : decode cL_law 1096 = .ok (.iaload, 1) := by decide +kernel
theorem dL_law_1097 : decode cL_law 1097 = .ok (.invokevirtual 134, 3) := by decide +kernel
theorem dL_law_1100 : decode cL_law 1100 = .ok (.aload_n 2, 1) := by decide +kernel
theorem dL_law_1101 : decode cL_law 1101 = .ok (.aload_n 0, 1) := by decide +kernel
theorem dL_law_1102 : decode cL_law 1102 = .ok (.iload_n 3, 1) := by decide +kernel
theorem dL_law_1103 : decode cL_law 1103 = .ok (.iconst 1, 1) := by decide +kernel
theorem dL_law_1104 : decode cL_law 1104 = .ok (.iadd, 1) := by decide +kernel
theorem dL_law_1105 : decode cL_law 1105 = .ok (.iaload, 1) := by decide +kernel
theorem dL_law_1106 : decode cL_law 1106 = .ok (.aload_n 0, 1) := by decide +kernel
theorem dL_law_1107 : decode cL_law 1107 = .ok (.iload_n 3, 1) := by decide +kernel
theorem dL_law_1108 : decode cL_law 1108 = .ok (.iconst 2, 1) := by decide +kernel
theorem dL_law_1109 : decode cL_law 1109 = .ok (.iadd, 1) := by decide +kernel
theorem dL_law_1110 : decode cL_law 1110 = .ok (.iaload, 1) := by decide +kernel
theorem dL_law_1111 : decode cL_law 1111 = .ok (.invokevirtual 137, 3) := by decide +kernel
theorem dL_law_1114 : decode cL_law 1114 = .ok (.if_icmp .eq 285, 3) := by decide +kernel
theorem dL_law_1117 : decode cL_law 1117 = .ok (.iconst 0, 1) := by decide +kernel
theorem dL_law_1118 : decode cL_law 1118 = .ok (.ireturn, 1) := by decide +kernel
theorem dL_law_1119 : decode cL_law 1119 = .ok (.aload_n 1, 1) := by decide +kernel
theorem dL_law_1120 : decode cL_law 1120 = .ok (.aload_n 0, 1) := by decide +kernel
theorem dL_law_1121 : decode cL_law 1121 = .ok (.iload_n 3, 1) := by decide +kernel
theorem dL_law_1122 : decode cL_law 1122 = .ok (.iconst 1, 1) := by decide +kernel
theorem dL_law_1123 : decode cL_law 1123 = .ok (.iadd, 1) := by decide +kernel
theorem dL_law_1124 : decode cL_law 1124 = .ok (.iaload, 1) := by decide +kernel
theorem dL_law_1125 : decode cL_law 1125 = .ok (.aload_n 0, 1) := by decide +kernel
theorem dL_law_1126 : decode cL_law 1126 = .ok (.iload_n 3, 1) := by decide +kernel
theorem dL_law_1127 : decode cL_law 1127 = .ok (.iconst 2, 1) := by decide +kernel
theorem dL_law_1128 : decode cL_law 1128 = .ok (.iadd, 1) := by decide +kernel
theorem dL_law_1129 : decode cL_law 1129 = .ok (.iaload, 1) := by decide +kernel
theorem dL_law_1130 : decode cL_law 1130 = .ok (.aload_n 0, 1) := by decide +kernel
theorem dL_law_1131 : decode cL_law 1131 = .ok (.iload_n 3, 1) := by decide +kernel
theorem dL_law_1132 : decode cL_law 1132 = .ok (.iconst 3, 1) := by decide +kernel
theorem dL_law_1133 : decode cL_law 1133 = .ok (.iadd, 1) := by decide +kernel
theorem dL_law_1134 : decode cL_law 1134 = .ok (.iaload, 1) := by decide +kernel
theorem dL_law_1135 : decode cL_law 1135 = .ok (.invokevirtual 138, 3) := by decide +kernel
theorem dL_law_1138 : decode cL_law 1138 = .ok (.aload_n 2, 1) := by decide +kernel
theorem dL_law_1139 : decode cL_law 1139 = .ok (.aload_n 0, 1) := by decide +kernel
theorem dL_law_1140 : decode cL_law 1140 = .ok (.iload_n 3, 1) := by decide +kernel
theorem dL_law_1141 : decode cL_law 1141 = .ok (.iconst 1, 1) := by decide +kernel
theorem dL_law_1142 : decode cL_law 1142 = .ok (.iadd, 1) := by decide +kernel
theorem dL_law_1143 : decode cL_law 1143 = .ok (.iaload, 1) := by decide +kernel
theorem dL_law_1144 : decode cL_law 1144 = .ok (.aload_n 0, 1) := by decide +kernel
theorem dL_law_1145 : decode cL_law 1145 = .ok (.iload_n 3, 1) := by decide +kernel
theorem dL_law_1146 : decode cL_law 1146 = .ok (.iconst 2, 1) := by decide +kernel
theorem dL_law_1147 : decode cL_law 1147 = .ok (.iadd, 1) := by decide +kernel
theorem dL_law_1148 : decode cL_law 1148 = .ok (.iaload, 1) := by decide +kernel
theorem dL_law_1149 : decode cL_law 1149 = .ok (.aload_n 0, 1) := by decide +kernel
theorem dL_law_1150 : decode cL_law 1150 = .ok (.iload_n 3, 1) := by decide +kernel
theorem dL_law_1151 : decode cL_law 1151 = .ok (.iconst 3, 1) := by decide +kernel
theorem dL_law_1152 : decode cL_law 1152 = .ok (.iadd, 1) := by decide +kernel
theorem dL_law_1153 : decode cL_law 1153 = .ok (.iaload, 1) := by decide +kernel
theorem dL_law_1154 : decode cL_law 1154 = .ok (.invokevirtual 141, 3) := by decide +kernel
theorem dL_law_1157 : decode cL_law 1157 = .ok (.if_icmp .eq 242, 3) := by decide +kernel
theorem dL_law_1160 : decode cL_law 1160 = .ok (.iconst 0, 1) := by decide +kernel
theorem dL_law_1161 : decode cL_law 1161 = .ok (.ireturn, 1) := by decide +kernel
theorem dL_law_1162 : decode cL_law 1162 = .ok (.aload_n 1, 1) := by decide +kernel
theorem dL_law_1163 : decode cL_law 1163 = .ok (.aload_n 0, 1) := by decide +kernel
theorem dL_law_1164 : decode cL_law 1164 = .ok (.iload_n 3, 1) := by decide +kernel
theorem dL_law_1165 : decode cL_law 1165 = .ok (.iconst 1, 1) := by decide +kernel
theorem dL_law_1166 : decode cL_law 1166 = .ok (.iadd, 1) := by decide +kernel
theorem dL_law_1167 : decode cL_law 1167 = .ok (.iaload, 1) := by decide +kernel
theorem dL_law_1168 : decode cL_law 1168 = .ok (.aload_n 0, 1) := by decide +kernel
theorem dL_law_1169 : decode cL_law 1169 = .ok (.iload_n 3, 1) := by decide +kernel
theorem dL_law_1170 : decode cL_law 1170 = .ok (.iconst 2, 1) := by decide +kernel
theorem dL_law_1171 : decode cL_law 1171 = .ok (.iadd, 1) := by decide +kernel
theorem dL_law_1172 : decode cL_law 1172 = .ok (.iaload, 1) := by decide +kernel
theorem dL_law_1173 : decode cL_law 1173 = .ok (.aload_n 0, 1) := by decide +kernel
theorem dL_law_1174 : decode cL_law 1174 = .ok (.iload_n 3, 1) := by decide +kernel
theorem dL_law_1175 : decode cL_law 1175 = .ok (.iconst 3, 1) := by decide +kernel
theorem dL_law_1176 : decode cL_law 1176 = .ok (.iadd, 1) := by decide +kernel
theorem dL_law_1177 : decode cL_law 1177 = .ok (.iaload, 1) := by decide +kernel
theorem dL_law_1178 : decode cL_law 1178 = .ok (.invokevirtual 142, 3) := by decide +kernel
theorem dL_law_1181 : decode cL_law 1181 = .ok (.aload_n 2, 1) := by decide +kernel
theorem dL_law_1182 : decode cL_law 1182 = .ok (.aload_n 0, 1) := by decide +kernel
theorem dL_law_1183 : decode cL_law 1183 = .ok (.iload_n 3, 1) := by decide +kernel
theorem dL_law_1184 : decode cL_law 1184 = .ok (.iconst 1, 1) := by decide +kernel
theorem dL_law_1185 : decode cL_law 1185 = .ok (.iadd, 1) := by decide +kernel
theorem dL_law_1186 : decode cL_law 1186 = .ok (.iaload, 1) := by decide +kernel
theorem dL_law_1187 : decode cL_law 1187 = .ok (.aload_n 0, 1) := by decide +kernel
theorem dL_law_1188 : decode cL_law 1188 = .ok (.iload_n 3, 1) := by decide +kernel
theorem dL_law_1189 : decode cL_law 1189 = .ok (.iconst 2, 1) := by decide +kernel
theorem dL_law_1190 : decode cL_law 1190 = .ok (.iadd, 1) := by decide +kernel
theorem dL_law_1191 : decode cL_law 1191 = .ok (.iaload, 1) := by decide +kernel
theorem dL_law_1192 : decode cL_law 1192 = .ok (.aload_n 0, 1) := by decide +kernel
theorem dL_law_1193 : decode cL_law 1193 = .ok (.iload_n 3, 1) := by decide +kernel
theorem dL_law_1194 : decode cL_law 1194 = .ok (.iconst 3, 1) := by decide +kernel
theorem dL_law_1195 : decode cL_law 1195 = .ok (.iadd, 1) := by decide +kernel
theorem dL_law_1196 : decode cL_law 1196 = .ok (.iaload, 1) := by decide +kernel
theorem dL_law_1197 : decode cL_law 1197 = .ok (.invokevirtual 145, 3) := by decide +kernel
theorem dL_law_1200 : decode cL_law 1200 = .ok (.if_icmp .eq 199, 3) := by decide +kernel
theorem dL_law_1203 : decode cL_law 1203 = .ok (.iconst 0, 1) := by decide +kernel
theorem dL_law_1204 : decode cL_law 1204 = .ok (.ireturn, 1) := by decide +kernel
theorem dL_law_1205 : decode cL_law 1205 = .ok (.aload_n 1, 1) := by decide +kernel
theorem dL_law_1206 : decode cL_law 1206 = .ok (.aload_n 0, 1) := by decide +kernel
theorem dL_law_1207 : decode cL_law 1207 = .ok (.iload_n 3, 1) := by decide +kernel
theorem dL_law_1208 : decode cL_law 1208 = .ok (.iconst 1, 1) := by decide +kernel
theorem dL_law_1209 : decode cL_law 1209 = .ok (.iadd, 1) := by decide +kernel
theorem dL_law_1210 : decode cL_law 1210 = .ok (.iaload, 1) := by decide +kernel
theorem dL_law_1211 : decode cL_law 1211 = .ok (.aload_n 0, 1) := by decide +kernel
theorem dL_law_1212 : decode cL_law 1212 = .ok (.iload_n 3, 1) := by decide +kernel
theorem dL_law_1213 : decode cL_law 1213 = .ok (.iconst 2, 1) := by decide +kernel
theorem dL_law_1214 : decode cL_law 1214 = .ok (.iadd, 1) := by decide +kernel
theorem dL_law_1215 : decode cL_law 1215 = .ok (.iaload, 1) := by decide +kernel
theorem dL_law_1216 : decode cL_law 1216 = .ok (.aload_n 0, 1) := by decide +kernel
theorem dL_law_1217 : decode cL_law 1217 = .ok (.iload_n 3, 1) := by decide +kernel
theorem dL_law_1218 : decode cL_law 1218 = .ok (.iconst 3, 1) := by decide +kernel
theorem dL_law_1219 : decode cL_law 1219 = .ok (.iadd, 1) := by decide +kernel
theorem dL_law_1220 : decode cL_law 1220 = .ok (.iaload, 1) := by decide +kernel
theorem dL_law_1221 : decode cL_law 1221 = .ok (.aload_n 0, 1) := by decide +kernel
theorem dL_law_1222 : decode cL_law 1222 = .ok (.iload_n 3, 1) := by decide +kernel
theorem dL_law_1223 : decode cL_law 1223 = .ok (.iconst 4, 1) := by decide +kernel
theorem dL_law_1224 : decode cL_law 1224 = .ok (.iadd, 1) := by decide +kernel
theorem dL_law_1225 : decode cL_law 1225 = .ok (.iaload, 1) := by decide +kernel
theorem dL_law_1226 : decode cL_law 1226 = .ok (.aload_n 0, 1) := by decide +kernel
theorem dL_law_1227 : decode cL_law 1227 = .ok (.iload_n 3, 1) := by decide +kernel
theorem dL_law_1228 : decode cL_law 1228 = .ok (.iconst 5, 1) := by decide +kernel
theorem dL_law_1229 : decode cL_law 1229 = .ok (.iadd, 1) := by decide +kernel
theorem dL_law_1230 : decode cL_law 1230 = .ok (.iaload, 1) := by decide +kernel
theorem dL_law_1231 : decode cL_law 1231 = .ok (.invokevirtual 146, 3) := by decide +kernel
theorem dL_law_1234 : decode cL_law 1234 = .ok (.aload_n 2, 1) := by decide +kernel
theorem dL_law_1235 : decode cL_law 1235 = .ok (.aload_n 0, 1) := by decide +kernel
theorem dL_law_1236 : decode cL_law 1236 = .ok (.iload_n 3, 1) := by decide +kernel
theorem dL_law_1237 : decode cL_law 1237 = .ok (.iconst 1, 1) := by decide +kernel
theorem dL_law_1238 : decode cL_law 1238 = .ok (.iadd, 1) := by decide +kernel
theorem dL_law_1239 : decode cL_law 1239 = .ok (.iaload, 1) := by decide +kernel
theorem dL_law_1240 : decode cL_law 1240 = .ok (.aload_n 0, 1) := by decide +kernel
theorem dL_law_1241 : decode cL_law 1241 = .ok (.iload_n 3, 1) := by decide +kernel
theorem dL_law_1242 : decode cL_law 1242 = .ok (.iconst 2, 1) := by decide +kernel
theorem dL_law_1243 : decode cL_law 1243 = .ok (.iadd, 1) := by decide +kernel
theorem dL_law_1244 : decode cL_law 1244 = .ok (.iaload, 1) := by decide +kernel
theorem dL_law_1245 : decode cL_law 1245 = .ok (.aload_n 0, 1) := by decide +kernel
theorem dL_law_1246 : decode cL_law 1246 = .ok (.iload_n 3, 1) := by decide +kernel
theorem dL_law_1247 : decode cL_law 1247 = .ok (.iconst 3, 1) := by decide +kernel
theorem dL_law_1248 : decode cL_law 1248 = .ok (.iadd, 1) := by decide +kernel
theorem dL_law_1249 : decode cL_law 1249 = .ok (.iaload, 1) := by decide +kernel
theorem dL_law_1250 : decode cL_law 1250 = .ok (.aload_n 0, 1) := by decide +kernel
theorem dL_law_1251 : decode cL_law 1251 = .ok (.iload_n 3, 1) := by decide +kernel
theorem dL_law_1252 : decode cL_law 1252 = .ok (.iconst 4, 1) := by decide +kernel
theorem dL_law_1253 : decode cL_law 1253 = .ok (.iadd, 1) := by decide +kernel
theorem dL_law_1254 : decode cL_law 1254 = .ok (.iaload, 1) := by decide +kernel
theorem dL_law_1255 : decode cL_law 1255 = .ok (.aload_n 0, 1) := by decide +kernel
theorem dL_law_1256 : decode cL_law 1256 = .ok (.iload_n 3, 1) := by decide +kernel
theorem dL_law_1257 : decode cL_law 1257 = .ok (.iconst 5, 1) := by decide +kernel
theorem dL_law_1258 : decode cL_law 1258 = .ok (.iadd, 1) := by decide +kernel
theorem dL_law_1259 : decode cL_law 1259 = .ok (.iaload, 1) := by decide +kernel
theorem dL_law_1260 : decode cL_law 1260 = .ok (.invokevirtual 150, 3) := by decide +kernel
theorem dL_law_1263 : decode cL_law 1263 = .ok (.if_icmp .eq 136, 3) := by decide +kernel
theorem dL_law_1266 : decode cL_law 1266 = .ok (.iconst 0, 1) := by decide +kernel
theorem dL_law_1267 : decode cL_law 1267 = .ok (.ireturn, 1) := by decide +kernel
theorem dL_law_1268 : decode cL_law 1268 = .ok (.aload_n 1, 1) := by decide +kernel
theorem dL_law_1269 : decode cL_law 1269 = .ok (.aload_n 0, 1) := by decide +kernel
theorem dL_law_1270 : decode cL_law 1270 = .ok (.iload_n 3, 1) := by decide +kernel
theorem dL_law_1271 : decode cL_law 1271 = .ok (.iconst 1, 1) := by decide +kernel
theorem dL_law_1272 : decode cL_law 1272 = .ok (.iadd, 1) := by decide +kernel
theorem dL_law_1273 : decode cL_law 1273 = .ok (.iaload, 1) := by decide +kernel
theorem dL_law_1274 : decode cL_law 1274 = .ok (.invokevirtual 151, 3) := by decide +kernel
theorem dL_law_1277 : decode cL_law 1277 = .ok (.aload_n 2, 1) := by decide +kernel
theorem dL_law_1278 : decode cL_law 1278 = .ok (.aload_n 0, 1) := by decide +kernel
theorem dL_law_1279 : decode cL_law 1279 = .ok (.iload_n 3, 1) := by decide +kernel
theorem dL_law_1280 : decode cL_law 1280 = .ok (.iconst 1, 1) := by decide +kernel
theorem dL_law_1281 : decode cL_law 1281 = .ok (.iadd, 1) := by decide +kernel
theorem dL_law_1282 : decode cL_law 1282 = .ok (.iaload, 1) := by decide +kernel
theorem dL_law_1283 : decode cL_law 1283 = .ok (.invokevirtual 154, 3) := by decide +kernel
theorem dL_law_1286 : decode cL_law 1286 = .ok (.if_icmp .eq 113, 3) := by decide +kernel
theorem dL_law_1289 : decode cL_law 1289 = .ok (.iconst 0, 1) := by decide +kernel
theorem dL_law_1290 : decode cL_law 1290 = .ok (.ireturn, 1) := by decide +kernel
theorem dL_law_1291 : decode cL_law 1291 = .ok (.aload_n 1, 1) := by decide +kernel
theorem dL_law_1292 : decode cL_law 1292 = .ok (.aload_n 0, 1) := by decide +kernel
theorem dL_law_1293 : decode cL_law 1293 = .ok (.iload_n 3, 1) := by decide +kernel
theorem dL_law_1294 : decode cL_law 1294 = .ok (.iconst 1, 1) := by decide +kernel
theorem dL_law_1295 : decode cL_law 1295 = .ok (.iadd, 1) := by decide +kernel
theorem dL_law_1296 : decode cL_law 1296 = .ok (.iaload, 1) := by decide +kernel
theorem dL_law_1297 : decode cL_law 1297 = .ok (.invokevirtual 155, 3) := by decide +kernel
theorem dL_law_1300 : decode cL_law 1300 = .ok (.aload_n 2, 1) := by decide +kernel
theorem dL_law_1301 : decode cL_law 1301 = .ok (.aload_n 0, 1) := by decide +kernel
theorem dL_law_1302 : decode cL_law 1302 = .ok (.iload_n 3, 1) := by decide +kernel
theorem dL_law_1303 : decode cL_law 1303 = .ok (.iconst 1, 1) := by decide +kernel
theorem dL_law_1304 : decode cL_law 1304 = .ok (.iadd, 1) := by decide +kernel
theorem dL_law_1305 : decode cL_law 1305 = .ok (.iaload, 1) := by decide +kernel
theorem dL_law_1306 : decode cL_law 1306 = .ok (.invokevirtual 158, 3) := by decide +kernel
theorem dL_law_1309 : decode cL_law 1309 = .ok (.if_icmp .eq 90, 3) := by decide +kernel
theorem dL_law_1312 : decode cL_law 1312 = .ok (.iconst 0, 1) := by decide +kernel
theorem dL_law_1313 : decode cL_law 1313 = .ok (.ireturn, 1) := by decide +kernel
theorem dL_law_1314 : decode cL_law 1314 = .ok (.aload_n 1, 1) := by decide +kernel
theorem dL_law_1315 : decode cL_law 1315 = .ok (.invokevirtual 159, 3) := by decide +kernel
theorem dL_law_1318 : decode cL_law 1318 = .ok (.aload_n 2, 1) := by decide +kernel
theorem dL_law_1319 : decode cL_law 1319 = .ok (.invokevirtual 162, 3) := by decide +kernel
theorem dL_law_1322 : decode cL_law 1322 = .ok (.if_icmp .eq 77, 3) := by decide +kernel
theorem dL_law_1325 : decode cL_law 1325 = .ok (.iconst 0, 1) := by decide +kernel
theorem dL_law_1326 : decode cL_law 1326 = .ok (.ireturn, 1) := by decide +kernel
theorem dL_law_1327 : decode cL_law 1327 = .ok (.aload_n 1, 1) := by decide +kernel
theorem dL_law_1328 : decode cL_law 1328 = .ok (.invokevirtual 163, 3) := by decide +kernel
theorem dL_law_1331 : decode cL_law 1331 = .ok (.aload_n 2, 1) := by decide +kernel
theorem dL_law_1332 : decode cL_law 1332 = .ok (.invokevirtual 166, 3) := by decide +kernel
theorem dL_law_1335 : decode cL_law 1335 = .ok (.if_icmp .eq 64, 3) := by decide +kernel
theorem dL_law_1338 : decode cL_law 1338 = .ok (.iconst 0, 1) := by decide +kernel
theorem dL_law_1339 : decode cL_law 1339 = .ok (.ireturn, 1) := by decide +kernel
theorem dL_law_1340 : decode cL_law 1340 = .ok (.aload_n 1, 1) := by decide +kernel
theorem dL_law_1341 : decode cL_law 1341 = .ok (.invokevirtual 167, 3) := by decide +kernel
theorem dL_law_1344 : decode cL_law 1344 = .ok (.aload_n 2, 1) := by decide +kernel
theorem dL_law_1345 : decode cL_law 1345 = .ok (.invokevirtual 170, 3) := by decide +kernel
theorem dL_law_1348 : decode cL_law 1348 = .ok (.if_icmp .eq 51, 3) := by decide +kernel
theorem dL_law_1351 : decode cL_law 1351 = .ok (.iconst 0, 1) := by decide +kernel
theorem dL_law_1352 : decode cL_law 1352 = .ok (.ireturn, 1) := by decide +kernel
theorem dL_law_1353 : decode cL_law 1353 = .ok (.aload_n 1, 1) := by decide +kernel
theorem dL_law_1354 : decode cL_law 1354 = .ok (.aload_n 0, 1) := by decide +kernel
theorem dL_law_1355 : decode cL_law 1355 = .ok (.iload_n 3, 1) := by decide +kernel
theorem dL_law_1356 : decode cL_law 1356 = .ok (.iconst 1, 1) := by decide +kernel
theorem dL_law_1357 : decode cL_law 1357 = .ok (.iadd, 1) := by decide +kernel
theorem dL_law_1358 : decode cL_law 1358 = .ok (.iaload, 1) := by decide +kernel
theorem dL_law_1359 : decode cL_law 1359 = .ok (.invokevirtual 171, 3) := by decide +kernel
theorem dL_law_1362 : decode cL_law 1362 = .ok (.aload_n 2, 1) := by decide +kernel
theorem dL_law_1363 : decode cL_law 1363 = .ok (.aload_n 0, 1) := by decide +kernel
theorem dL_law_1364 : decode cL_law 1364 = .ok (.iload_n 3, 1) := by decide +kernel
theorem dL_law_1365 : decode cL_law 1365 = .ok (.iconst 1, 1) := by decide +kernel
theorem dL_law_1366 : decode cL_law 1366 = .ok (.iadd, 1) := by decide +kernel
theorem dL_law_1367 : decode cL_law 1367 = .ok (.iaload, 1) := by decide +kernel
theorem dL_law_1368 : decode cL_law 1368 = .ok (.invokevirtual 174, 3) := by decide +kernel
theorem dL_law_1371 : decode cL_law 1371 = .ok (.if_icmp .eq 28, 3) := by decide +kernel
theorem dL_law_1374 : decode cL_law 1374 = .ok (.iconst 0, 1) := by decide +kernel
theorem dL_law_1375 : decode cL_law 1375 = .ok (.ireturn, 1) := by decide +kernel
theorem dL_law_1376 : decode cL_law 1376 = .ok (.aload_n 1, 1) := by decide +kernel
theorem dL_law_1377 : decode cL_law 1377 = .ok (.aload_n 0, 1) := by decide +kernel
theorem dL_law_1378 : decode cL_law 1378 = .ok (.iload_n 3, 1) := by decide +kernel
theorem dL_law_1379 : decode cL_law 1379 = .ok (.iconst 1, 1) := by decide +kernel
theorem dL_law_1380 : decode cL_law 1380 = .ok (.iadd, 1) := by decide +kernel
theorem dL_law_1381 : decode cL_law 1381 = .ok (.iaload, 1) := by decide +kernel
theorem dL_law_1382 : decode cL_law 1382 = .ok (.invokevirtual 175, 3) := by decide +kernel
theorem dL_law_1385 : decode cL_law 1385 = .ok (.aload_n 2, 1) := by decide +kernel
theorem dL_law_1386 : decode cL_law 1386 = .ok (.aload_n 0, 1) := by decide +kernel
theorem dL_law_1387 : decode cL_law 1387 = .ok (.iload_n 3, 1) := by decide +kernel
theorem dL_law_1388 : decode cL_law 1388 = .ok (.iconst 1, 1) := by decide +kernel
theorem dL_law_1389 : decode cL_law 1389 = .ok (.iadd, 1) := by decide +kernel
theorem dL_law_1390 : decode cL_law 1390 = .ok (.iaload, 1) := by decide +kernel
theorem dL_law_1391 : decode cL_law 1391 = .ok (.invokevirtual 178, 3) := by decide +kernel
theorem dL_law_1394 : decode cL_law 1394 = .ok (.if_icmp .eq 5, 3) := by decide +kernel
theorem dL_law_1397 : decode cL_law 1397 = .ok (.iconst 0, 1) := by decide +kernel
theorem dL_law_1398 : decode cL_law 1398 = .ok (.ireturn, 1) := by decide +kernel
theorem dL_law_1399 : decode cL_law 1399 = .ok (.iinc 3 6, 3) := by decide +kernel
theorem dL_law_1402 : decode cL_law 1402 = .ok (.goto (-1384), 3) := by decide +kernel
theorem dL_law_1405 : decode cL_law 1405 = .ok (.iconst 1, 1) := by decide +kernel
theorem dL_law_1406 : decode cL_law 1406 = .ok (.ireturn, 1) := by decide +kernel
end
section
/-! the tables' words, all in one list: every method's contract stands on this list -/
def Tb : List Cond := lw_tbl.filter goodWord
theorem Tb_at {w : Cond} (i : Nat) (h : lw_tbl[i]? = some w) (g : goodWord w = true) : w ∈ Tb := List.mem_filter.mpr ⟨List.mem_of_getElem? h, g⟩
def tW (y : MethodName) (b : ByteArray) (n : Nat) (ret : Option FieldType) : List Cond := Cond.code y b n ret :: Tb
theorem tW_in {y : MethodName} {b : ByteArray} {n : Nat} {ret : Option FieldType} (h : Cond.code y b n ret ∈ Tb) : GoodIn Tb (tW y b n ret) := by
  intro w hw
  have hm : w ∈ Tb := by
    rcases List.mem_cons.mp hw with e | e
    · rw [e]; exact h
    · exact e
  exact ⟨hm, good_of_word (List.mem_filter.mp hm).2⟩
/-- constants of a field's link, of a method -/
def gFd (own : String) (index ci j : Nat) (fin : Bool) (ty : FieldType) : Prop := ∃ q : vw_C, vwCl[ci]? = some q ∧ j < q.2.2 ∧ (∀ w ∈ u_ws q.1 q.2.1 q.2.2, w ∈ Tb) ∧ Cond.fieldLink own index (q.2.1 j).1 (q.2.1 j).2.1 (q.2.1 j).2.2.1 ∈ Tb ∧ (q.2.1 j).2.2.2 = fin ∧ parseFieldDescriptor (q.2.1 j).2.2.1 = some ty ∧ (∃ t : Nat → FieldType, ∀ k, k < q.2.2 → parseFieldDescriptor (q.2.1 k).2.2.1 = some (t k)) ∧ (∀ a, a < q.2.2 → ∀ b, b < q.2.2 → a ≠ b → (q.2.1 a).2.1 ≠ (q.2.1 b).2.1)
def gYd (y : MethodName) (n : Nat) : Prop := y.cls ≠ "java/lang/invoke/MethodHandle" ∧ y.cls ≠ "java/lang/invoke/VarHandle" ∧ (parseMethodDescriptor y.desc).map (fun d => d.parameters.length) = some n
def gYV (y : MethodName) (b : ByteArray) (maxL : Nat) (ret : Option FieldType) (n ci : Nat) : Prop := Cond.code y b maxL ret ∈ Tb ∧ Cond.initialized y.cls ∈ Tb ∧ Cond.instanceMethod y ∈ Tb ∧ Cond.selects y.cls y y ∈ Tb ∧ gYd y n ∧ ∃ q : vw_C, vwCl[ci]? = some q ∧ q.1 = y.cls
def gYS (y : MethodName) (b : ByteArray) (maxL : Nat) (ret : Option FieldType) (n : Nat) : Prop := Cond.code y b maxL ret ∈ Tb ∧ Cond.initialized y.cls ∈ Tb ∧ Cond.static y ∈ Tb ∧ gYd y n
end
section
theorem inT0 : ∀ w ∈ u_ws RX0 TX0 6, w ∈ Tb := by
  have e : u_ws RX0 TX0 6 = [Cond.laysFinal "LeftGloves$Club" "LeftGloves$Club" "gloves" "[LLeftGloves$Glove;", Cond.laysFinal "LeftGloves$Club" "LeftGloves$Club" "list" "[I", Cond.laysFinal "LeftGloves$Club" "LeftGloves$Club" "spots" "[I", Cond.lays "LeftGloves$Club" "LeftGloves$Club" "size" "I", Cond.lays "LeftGloves$Club" "LeftGloves$Club" "day" "I", Cond.lays "LeftGloves$Club" "LeftGloves$Club" "z" "I"] := by decide +kernel
  rw [e]
  exact List.forall_mem_cons.mpr ⟨Tb_at 147 (by decide +kernel) (by decide +kernel), List.forall_mem_cons.mpr ⟨Tb_at 149 (by decide +kernel) (by decide +kernel), List.forall_mem_cons.mpr ⟨Tb_at 151 (by decide +kernel) (by decide +kernel), List.forall_mem_cons.mpr ⟨Tb_at 153 (by decide +kernel) (by decide +kernel), List.forall_mem_cons.mpr ⟨Tb_at 155 (by decide +kernel) (by decide +kernel), List.forall_mem_cons.mpr ⟨Tb_at 157 (by decide +kernel) (by decide +kernel), fun _ h => absurd h List.not_mem_nil⟩⟩⟩⟩⟩⟩
theorem inT1 : ∀ w ∈ u_ws RX1 TX1 7, w ∈ Tb := by
  have e : u_ws RX1 TX1 7 = [Cond.lays "LeftGloves$Glove" "LeftGloves$Glove" "kind" "I", Cond.lays "LeftGloves$Glove" "LeftGloves$Glove" "room" "I", Cond.lays "LeftGloves$Glove" "LeftGloves$Glove" "open" "I", Cond.lays "LeftGloves$Glove" "LeftGloves$Glove" "knows" "I", Cond.lays "LeftGloves$Glove" "LeftGloves$Glove" "lies" "I", Cond.lays "LeftGloves$Glove" "LeftGloves$Glove" "hand" "I", Cond.lays "LeftGloves$Glove" "LeftGloves$Glove" "drawn" "I"] := by decide +kernel
  rw [e]
  exact List.forall_mem_cons.mpr ⟨Tb_at 114 (by decide +kernel) (by decide +kernel), List.forall_mem_cons.mpr ⟨Tb_at 116 (by decide +kernel) (by decide +kernel), List.forall_mem_cons.mpr ⟨Tb_at 118 (by decide +kernel) (by decide +kernel), List.forall_mem_cons.mpr ⟨Tb_at 120 (by decide +kernel) (by decide +kernel), List.forall_mem_cons.mpr ⟨Tb_at 122 (by decide +kernel) (by decide +kernel), List.forall_mem_cons.mpr ⟨Tb_at 124 (by decide +kernel) (by decide +kernel), List.forall_mem_cons.mpr ⟨Tb_at 126 (by decide +kernel) (by decide +kernel), fun _ h => absurd h List.not_mem_nil⟩⟩⟩⟩⟩⟩⟩
theorem inT2 : ∀ w ∈ u_ws RX2 TX2 3, w ∈ Tb := by
  have e : u_ws RX2 TX2 3 = [Cond.laysFinal "LeftGloves$Sheet" "LeftGloves$Sheet" "numbers" "[I", Cond.lays "LeftGloves$Sheet" "LeftGloves$Sheet" "bits" "I", Cond.lays "LeftGloves$Sheet" "LeftGloves$Sheet" "size" "I"] := by decide +kernel
  rw [e]
  exact List.forall_mem_cons.mpr ⟨Tb_at 228 (by decide +kernel) (by decide +kernel), List.forall_mem_cons.mpr ⟨Tb_at 230 (by decide +kernel) (by decide +kernel), List.forall_mem_cons.mpr ⟨Tb_at 232 (by decide +kernel) (by decide +kernel), fun _ h => absurd h List.not_mem_nil⟩⟩⟩
theorem inT3 : ∀ w ∈ u_ws RX3 TX3 2, w ∈ Tb := by
  have e : u_ws RX3 TX3 2 = [Cond.laysFinal "LeftGloves$Tape" "LeftGloves$Tape" "bytes" "[B", Cond.lays "LeftGloves$Tape" "LeftGloves$Tape" "length" "I"] := by decide +kernel
  rw [e]
  exact List.forall_mem_cons.mpr ⟨Tb_at 171 (by decide +kernel) (by decide +kernel), List.forall_mem_cons.mpr ⟨Tb_at 173 (by decide +kernel) (by decide +kernel), fun _ h => absurd h List.not_mem_nil⟩⟩
theorem inT4 : ∀ w ∈ u_ws RX4 TX4 3, w ∈ Tb := by
  have e : u_ws RX4 TX4 3 = [Cond.laysFinal "LeftGloves$TextReader" "LeftGloves$TextReader" "tokens" "LLeftGloves$Tokens;", Cond.lays "LeftGloves$TextReader" "LeftGloves$TextReader" "at" "I", Cond.lays "LeftGloves$TextReader" "LeftGloves$TextReader" "faulty" "Z"] := by decide +kernel
  rw [e]
  exact List.forall_mem_cons.mpr ⟨Tb_at 208 (by decide +kernel) (by decide +kernel), List.forall_mem_cons.mpr ⟨Tb_at 210 (by decide +kernel) (by decide +kernel), List.forall_mem_cons.mpr ⟨Tb_at 212 (by decide +kernel) (by decide +kernel), fun _ h => absurd h List.not_mem_nil⟩⟩⟩
theorem inT5 : ∀ w ∈ u_ws RX5 TX5 5, w ∈ Tb := by
  have e : u_ws RX5 TX5 5 = [Cond.laysFinal "LeftGloves$Tokens" "LeftGloves$Tokens" "sorts" "[I", Cond.laysFinal "LeftGloves$Tokens" "LeftGloves$Tokens" "starts" "[I", Cond.laysFinal "LeftGloves$Tokens" "LeftGloves$Tokens" "ends" "[I", Cond.laysFinal "LeftGloves$Tokens" "LeftGloves$Tokens" "numbers" "[I", Cond.lays "LeftGloves$Tokens" "LeftGloves$Tokens" "size" "I"] := by decide +kernel
  rw [e]
  exact List.forall_mem_cons.mpr ⟨Tb_at 194 (by decide +kernel) (by decide +kernel), List.forall_mem_cons.mpr ⟨Tb_at 196 (by decide +kernel) (by decide +kernel), List.forall_mem_cons.mpr ⟨Tb_at 198 (by decide +kernel) (by decide +kernel), List.forall_mem_cons.mpr ⟨Tb_at 200 (by decide +kernel) (by decide +kernel), List.forall_mem_cons.mpr ⟨Tb_at 202 (by decide +kernel) (by decide +kernel), fun _ h => absurd h List.not_mem_nil⟩⟩⟩⟩⟩
theorem inT6 : ∀ w ∈ u_ws RX6 TX6 8, w ∈ Tb := by
  have e : u_ws RX6 TX6 8 = [Cond.laysFinal "LeftGloves" "LeftGloves" "club" "LLeftGloves$Club;", Cond.laysFinal "LeftGloves" "LeftGloves" "kept" "LLeftGloves$Club;", Cond.laysFinal "LeftGloves" "LeftGloves" "trial" "LLeftGloves$Club;", Cond.lays "LeftGloves" "LeftGloves" "keeping" "Z", Cond.laysFinal "LeftGloves" "LeftGloves" "tape" "LLeftGloves$Tape;", Cond.laysFinal "LeftGloves" "LeftGloves" "reader" "LLeftGloves$TextReader;", Cond.laysFinal "LeftGloves" "LeftGloves" "sheets" "[LLeftGloves$Sheet;", Cond.laysFinal "LeftGloves" "LeftGloves" "findings" "[I"] := by decide +kernel
  rw [e]
  exact List.forall_mem_cons.mpr ⟨Tb_at 243 (by decide +kernel) (by decide +kernel), List.forall_mem_cons.mpr ⟨Tb_at 245 (by decide +kernel) (by decide +kernel), List.forall_mem_cons.mpr ⟨Tb_at 247 (by decide +kernel) (by decide +kernel), List.forall_mem_cons.mpr ⟨Tb_at 249 (by decide +kernel) (by decide +kernel), List.forall_mem_cons.mpr ⟨Tb_at 251 (by decide +kernel) (by decide +kernel), List.forall_mem_cons.mpr ⟨Tb_at 253 (by decide +kernel) (by decide +kernel), List.forall_mem_cons.mpr ⟨Tb_at 255 (by decide +kernel) (by decide +kernel), List.forall_mem_cons.mpr ⟨Tb_at 257 (by decide +kernel) (by decide +kernel), fun _ h => absurd h List.not_mem_nil⟩⟩⟩⟩⟩⟩⟩⟩
theorem inT7 : ∀ w ∈ u_ws RX7 TX7 18, w ∈ Tb := by
  have e : u_ws RX7 TX7 18 = [Cond.laysFinal "LeftGlovesModel" "LeftGlovesModel" "d" "[I", Cond.laysFinal "LeftGlovesModel" "LeftGlovesModel" "e" "[I", Cond.laysFinal "LeftGlovesModel" "LeftGlovesModel" "aside" "[I", Cond.laysFinal "LeftGlovesModel" "LeftGlovesModel" "kept" "[I", Cond.lays "LeftGlovesModel" "LeftGlovesModel" "isKept" "Z", Cond.laysFinal "LeftGlovesModel" "LeftGlovesModel" "found" "[I", Cond.laysFinal "LeftGlovesModel" "LeftGlovesModel" "tape" "[B", Cond.lays "LeftGlovesModel" "LeftGlovesModel" "taped" "I", Cond.lays "LeftGlovesModel" "LeftGlovesModel" "gone" "I", Cond.lays "LeftGlovesModel" "LeftGlovesModel" "at" "I", Cond.lays "LeftGlovesModel" "LeftGlovesModel" "sort" "I", Cond.lays "LeftGlovesModel" "LeftGlovesModel" "from" "I", Cond.lays "LeftGlovesModel" "LeftGlovesModel" "value" "J", Cond.lays "LeftGlovesModel" "LeftGlovesModel" "fault" "I", Cond.laysFinal "LeftGlovesModel" "LeftGlovesModel" "bitsOf" "[I", Cond.laysFinal "LeftGlovesModel" "LeftGlovesModel" "sizeOf" "[I", Cond.laysFinal "LeftGlovesModel" "LeftGlovesModel" "number" "[I", Cond.laysFinal "LeftGlovesModel" "LeftGlovesModel" "passing" "[I"] := by decide +kernel
  rw [e]
  exact List.forall_mem_cons.mpr ⟨Tb_at 884 (by decide +kernel) (by decide +kernel), List.forall_mem_cons.mpr ⟨Tb_at 886 (by decide +kernel) (by decide +kernel), List.forall_mem_cons.mpr ⟨Tb_at 888 (by decide +kernel) (by decide +kernel), List.forall_mem_cons.mpr ⟨Tb_at 890 (by decide +kernel) (by decide +kernel), List.forall_mem_cons.mpr ⟨Tb_at 892 (by decide +kernel) (by decide +kernel), List.forall_mem_cons.mpr ⟨Tb_at 894 (by decide +kernel) (by decide +kernel), List.forall_mem_cons.mpr ⟨Tb_at 896 (by decide +kernel) (by decide +kernel), List.forall_mem_cons.mpr ⟨Tb_at 898 (by decide +kernel) (by decide +kernel), List.forall_mem_cons.mpr ⟨Tb_at 900 (by decide +kernel) (by decide +kernel), List.forall_mem_cons.mpr ⟨Tb_at 902 (by decide +kernel) (by decide +kernel), List.forall_mem_cons.mpr ⟨Tb_at 904 (by decide +kernel) (by decide +kernel), List.forall_mem_cons.mpr ⟨Tb_at 906 (by decide +kernel) (by decide +kernel), List.forall_mem_cons.mpr ⟨Tb_at 908 (by decide +kernel) (by decide +kernel), List.forall_mem_cons.mpr ⟨Tb_at 910 (by decide +kernel) (by decide +kernel), List.forall_mem_cons.mpr ⟨Tb_at 912 (by decide +kernel) (by decide +kernel), List.forall_mem_cons.mpr ⟨Tb_at 914 (by decide +kernel) (by decide +kernel), List.forall_mem_cons.mpr ⟨Tb_at 916 (by decide +kernel) (by decide +kernel), List.forall_mem_cons.mpr ⟨Tb_at 918 (by decide +kernel) (by decide +kernel), fun _ h => absurd h List.not_mem_nil⟩⟩⟩⟩⟩⟩⟩⟩⟩⟩⟩⟩⟩⟩⟩⟩⟩⟩
theorem ki_RL : Cond.initialized RL ∈ Tb := Tb_at 63 (by decide +kernel) (by decide +kernel)
theorem ki_RX6 : Cond.initialized RX6 ∈ Tb := Tb_at 64 (by decide +kernel) (by decide +kernel)
theorem ki_RX0 : Cond.initialized RX0 ∈ Tb := Tb_at 65 (by decide +kernel) (by decide +kernel)
theorem ki_RX1 : Cond.initialized RX1 ∈ Tb := Tb_at 66 (by decide +kernel) (by decide +kernel)
theorem ki_RX3 : Cond.initialized RX3 ∈ Tb := Tb_at 67 (by decide +kernel) (by decide +kernel)
theorem ki_RX4 : Cond.initialized RX4 ∈ Tb := Tb_at 68 (by decide +kernel) (by decide +kernel)
theorem ki_RX5 : Cond.initialized RX5 ∈ Tb := Tb_at 69 (by decide +kernel) (by decide +kernel)
theorem ki_RX2 : Cond.initialized RX2 ∈ Tb := Tb_at 70 (by decide +kernel) (by decide +kernel)
theorem ki_RX7 : Cond.initialized RX7 ∈ Tb := Tb_at 71 (by decide +kernel) (by decide +kernel)
theorem ki_RJ9 : Cond.initialized RJ9 ∈ Tb := Tb_at 72 (by decide +kernel) (by decide +kernel)
theorem ki_RJ6 : Cond.initialized RJ6 ∈ Tb := Tb_at 73 (by decide +kernel) (by decide +kernel)
theorem ki_RJ10 : Cond.initialized RJ10 ∈ Tb := Tb_at 74 (by decide +kernel) (by decide +kernel)
theorem ki_RJ0 : Cond.initialized RJ0 ∈ Tb := Tb_at 75 (by decide +kernel) (by decide +kernel)
theorem ki_RJ1 : Cond.initialized RJ1 ∈ Tb := Tb_at 76 (by decide +kernel) (by decide +kernel)
theorem ki_RJ3 : Cond.initialized RJ3 ∈ Tb := Tb_at 77 (by decide +kernel) (by decide +kernel)
theorem ki_RJ2 : Cond.initialized RJ2 ∈ Tb := Tb_at 78 (by decide +kernel) (by decide +kernel)
theorem kl_RL_7 : Cond.classLink RL 7 RX6 ∈ Tb := Tb_at 79 (by decide +kernel) (by decide +kernel)
theorem kn_RX6 : Cond.instantiable RX6 8 ∈ Tb := Tb_at 80 (by decide +kernel) (by decide +kernel)
theorem lk_RL_9 : Cond.methodLink RL 9 yX6_init ∈ Tb := Tb_at 81 (by decide +kernel) (by decide +kernel)
theorem lk_RX6_3 : Cond.methodLink "LeftGloves" 3 ⟨"java/lang/Object", "<init>", "()V"⟩ ∈ Tb := Tb_at 84 (by decide +kernel) (by decide +kernel)
theorem kl_RX6_9 : Cond.classLink RX6 9 RX0 ∈ Tb := Tb_at 87 (by decide +kernel) (by decide +kernel)
theorem kn_RX0 : Cond.instantiable RX0 6 ∈ Tb := Tb_at 88 (by decide +kernel) (by decide +kernel)
theorem lk_RX6_11 : Cond.methodLink RX6 11 yX0_init ∈ Tb := Tb_at 89 (by decide +kernel) (by decide +kernel)
theorem lk_RX0_3 : Cond.methodLink "LeftGloves$Club" 3 ⟨"java/lang/Object", "<init>", "()V"⟩ ∈ Tb := Tb_at 92 (by decide +kernel) (by decide +kernel)
theorem kl_RX0_9 : Cond.classLink RX0 9 RX1 ∈ Tb := Tb_at 93 (by decide +kernel) (by decide +kernel)
theorem kn_RX1 : Cond.instantiable RX1 7 ∈ Tb := Tb_at 95 (by decide +kernel) (by decide +kernel)
theorem lk_RX1_3 : Cond.methodLink "LeftGloves$Glove" 3 ⟨"java/lang/Object", "<init>", "()V"⟩ ∈ Tb := Tb_at 99 (by decide +kernel) (by decide +kernel)
theorem fd_RX1_19 : gFd RX1 19 1 0 false .int := ⟨(RX1, TX1, 7), rfl, by decide, inT1, Tb_at 100 (by decide +kernel) (by decide +kernel), rfl, by decide +kernel, ⟨tyX1, tyX1_ok⟩, nmX1⟩
theorem fd_RX1_23 : gFd RX1 23 1 1 false .int := ⟨(RX1, TX1, 7), rfl, by decide, inT1, Tb_at 101 (by decide +kernel) (by decide +kernel), rfl, by decide +kernel, ⟨tyX1, tyX1_ok⟩, nmX1⟩
theorem fd_RX0_57 : gFd RX0 57 1 1 false .int := ⟨(RX1, TX1, 7), rfl, by decide, inT1, Tb_at 102 (by decide +kernel) (by decide +kernel), rfl, by decide +kernel, ⟨tyX1, tyX1_ok⟩, nmX1⟩
theorem fd_RX1_26 : gFd RX1 26 1 2 false .int := ⟨(RX1, TX1, 7), rfl, by decide, inT1, Tb_at 103 (by decide +kernel) (by decide +kernel), rfl, by decide +kernel, ⟨tyX1, tyX1_ok⟩, nmX1⟩
theorem fd_RX1_29 : gFd RX1 29 1 3 false .int := ⟨(RX1, TX1, 7), rfl, by decide, inT1, Tb_at 104 (by decide +kernel) (by decide +kernel), rfl, by decide +kernel, ⟨tyX1, tyX1_ok⟩, nmX1⟩
theorem fd_RX0_67 : gFd RX0 67 1 3 false .int := ⟨(RX1, TX1, 7), rfl, by decide, inT1, Tb_at 105 (by decide +kernel) (by decide +kernel), rfl, by decide +kernel, ⟨tyX1, tyX1_ok⟩, nmX1⟩
theorem fd_RX6_174 : gFd RX6 174 1 3 false .int := ⟨(RX1, TX1, 7), rfl, by decide, inT1, Tb_at 106 (by decide +kernel) (by decide +kernel), rfl, by decide +kernel, ⟨tyX1, tyX1_ok⟩, nmX1⟩
theorem fd_RX1_32 : gFd RX1 32 1 4 false .int := ⟨(RX1, TX1, 7), rfl, by decide, inT1, Tb_at 107 (by decide +kernel) (by decide +kernel), rfl, by decide +kernel, ⟨tyX1, tyX1_ok⟩, nmX1⟩
theorem fd_RX1_35 : gFd RX1 35 1 5 false .int := ⟨(RX1, TX1, 7), rfl, by decide, inT1, Tb_at 108 (by decide +kernel) (by decide +kernel), rfl, by decide +kernel, ⟨tyX1, tyX1_ok⟩, nmX1⟩
theorem fd_RX4_75 : gFd RX4 75 1 5 false .int := ⟨(RX1, TX1, 7), rfl, by decide, inT1, Tb_at 109 (by decide +kernel) (by decide +kernel), rfl, by decide +kernel, ⟨tyX1, tyX1_ok⟩, nmX1⟩
theorem fd_RX0_70 : gFd RX0 70 1 5 false .int := ⟨(RX1, TX1, 7), rfl, by decide, inT1, Tb_at 110 (by decide +kernel) (by decide +kernel), rfl, by decide +kernel, ⟨tyX1, tyX1_ok⟩, nmX1⟩
theorem fd_RX6_118 : gFd RX6 118 1 5 false .int := ⟨(RX1, TX1, 7), rfl, by decide, inT1, Tb_at 111 (by decide +kernel) (by decide +kernel), rfl, by decide +kernel, ⟨tyX1, tyX1_ok⟩, nmX1⟩
theorem fd_RX1_38 : gFd RX1 38 1 6 false .int := ⟨(RX1, TX1, 7), rfl, by decide, inT1, Tb_at 112 (by decide +kernel) (by decide +kernel), rfl, by decide +kernel, ⟨tyX1, tyX1_ok⟩, nmX1⟩
theorem fd_RX0_95 : gFd RX0 95 1 6 false .int := ⟨(RX1, TX1, 7), rfl, by decide, inT1, Tb_at 113 (by decide +kernel) (by decide +kernel), rfl, by decide +kernel, ⟨tyX1, tyX1_ok⟩, nmX1⟩
theorem fd_RX0_11 : gFd RX0 11 0 0 true (.array (.object "LeftGloves$Glove")) := ⟨(RX0, TX0, 6), rfl, by decide, inT0, Tb_at 132 (by decide +kernel) (by decide +kernel), rfl, by decide +kernel, ⟨tyX0, tyX0_ok⟩, nmX0⟩
theorem fd_RX4_71 : gFd RX4 71 0 0 true (.array (.object "LeftGloves$Glove")) := ⟨(RX0, TX0, 6), rfl, by decide, inT0, Tb_at 133 (by decide +kernel) (by decide +kernel), rfl, by decide +kernel, ⟨tyX0, tyX0_ok⟩, nmX0⟩
theorem fd_RX6_96 : gFd RX6 96 0 0 true (.array (.object "LeftGloves$Glove")) := ⟨(RX0, TX0, 6), rfl, by decide, inT0, Tb_at 134 (by decide +kernel) (by decide +kernel), rfl, by decide +kernel, ⟨tyX0, tyX0_ok⟩, nmX0⟩
theorem fd_RX0_18 : gFd RX0 18 0 1 true (.array .int) := ⟨(RX0, TX0, 6), rfl, by decide, inT0, Tb_at 135 (by decide +kernel) (by decide +kernel), rfl, by decide +kernel, ⟨tyX0, tyX0_ok⟩, nmX0⟩
theorem fd_RX6_64 : gFd RX6 64 0 1 true (.array .int) := ⟨(RX0, TX0, 6), rfl, by decide, inT0, Tb_at 136 (by decide +kernel) (by decide +kernel), rfl, by decide +kernel, ⟨tyX0, tyX0_ok⟩, nmX0⟩
theorem fd_RX4_57 : gFd RX4 57 0 1 true (.array .int) := ⟨(RX0, TX0, 6), rfl, by decide, inT0, Tb_at 137 (by decide +kernel) (by decide +kernel), rfl, by decide +kernel, ⟨tyX0, tyX0_ok⟩, nmX0⟩
theorem fd_RX0_26 : gFd RX0 26 0 2 true (.array .int) := ⟨(RX0, TX0, 6), rfl, by decide, inT0, Tb_at 138 (by decide +kernel) (by decide +kernel), rfl, by decide +kernel, ⟨tyX0, tyX0_ok⟩, nmX0⟩
theorem fd_RX6_244 : gFd RX6 244 0 2 true (.array .int) := ⟨(RX0, TX0, 6), rfl, by decide, inT0, Tb_at 139 (by decide +kernel) (by decide +kernel), rfl, by decide +kernel, ⟨tyX0, tyX0_ok⟩, nmX0⟩
theorem fd_RX0_29 : gFd RX0 29 0 3 false .int := ⟨(RX0, TX0, 6), rfl, by decide, inT0, Tb_at 140 (by decide +kernel) (by decide +kernel), rfl, by decide +kernel, ⟨tyX0, tyX0_ok⟩, nmX0⟩
theorem fd_RX4_67 : gFd RX4 67 0 3 false .int := ⟨(RX0, TX0, 6), rfl, by decide, inT0, Tb_at 141 (by decide +kernel) (by decide +kernel), rfl, by decide +kernel, ⟨tyX0, tyX0_ok⟩, nmX0⟩
theorem fd_RX6_80 : gFd RX6 80 0 3 false .int := ⟨(RX0, TX0, 6), rfl, by decide, inT0, Tb_at 142 (by decide +kernel) (by decide +kernel), rfl, by decide +kernel, ⟨tyX0, tyX0_ok⟩, nmX0⟩
theorem fd_RX0_33 : gFd RX0 33 0 4 false .int := ⟨(RX0, TX0, 6), rfl, by decide, inT0, Tb_at 143 (by decide +kernel) (by decide +kernel), rfl, by decide +kernel, ⟨tyX0, tyX0_ok⟩, nmX0⟩
theorem fd_RX6_125 : gFd RX6 125 0 4 false .int := ⟨(RX0, TX0, 6), rfl, by decide, inT0, Tb_at 144 (by decide +kernel) (by decide +kernel), rfl, by decide +kernel, ⟨tyX0, tyX0_ok⟩, nmX0⟩
theorem fd_RX0_36 : gFd RX0 36 0 5 false .int := ⟨(RX0, TX0, 6), rfl, by decide, inT0, Tb_at 145 (by decide +kernel) (by decide +kernel), rfl, by decide +kernel, ⟨tyX0, tyX0_ok⟩, nmX0⟩
theorem fd_RX6_230 : gFd RX6 230 0 5 false .int := ⟨(RX0, TX0, 6), rfl, by decide, inT0, Tb_at 146 (by decide +kernel) (by decide +kernel), rfl, by decide +kernel, ⟨tyX0, tyX0_ok⟩, nmX0⟩
theorem kl_RX6_26 : Cond.classLink RX6 26 RX3 ∈ Tb := Tb_at 161 (by decide +kernel) (by decide +kernel)
theorem kn_RX3 : Cond.instantiable RX3 2 ∈ Tb := Tb_at 162 (by decide +kernel) (by decide +kernel)
theorem lk_RX6_28 : Cond.methodLink RX6 28 yX3_init ∈ Tb := Tb_at 163 (by decide +kernel) (by decide +kernel)
theorem lk_RX3_3 : Cond.methodLink "LeftGloves$Tape" 3 ⟨"java/lang/Object", "<init>", "()V"⟩ ∈ Tb := Tb_at 166 (by decide +kernel) (by decide +kernel)
theorem fd_RX3_9 : gFd RX3 9 3 0 true (.array .byte) := ⟨(RX3, TX3, 2), rfl, by decide, inT3, Tb_at 167 (by decide +kernel) (by decide +kernel), rfl, by decide +kernel, ⟨tyX3, tyX3_ok⟩, nmX3⟩
theorem fd_RX3_15 : gFd RX3 15 3 1 false .int := ⟨(RX3, TX3, 2), rfl, by decide, inT3, Tb_at 168 (by decide +kernel) (by decide +kernel), rfl, by decide +kernel, ⟨tyX3, tyX3_ok⟩, nmX3⟩
theorem fd_RX5_28 : gFd RX5 28 3 1 false .int := ⟨(RX3, TX3, 2), rfl, by decide, inT3, Tb_at 169 (by decide +kernel) (by decide +kernel), rfl, by decide +kernel, ⟨tyX3, tyX3_ok⟩, nmX3⟩
theorem fd_RX6_233 : gFd RX6 233 3 1 false .int := ⟨(RX3, TX3, 2), rfl, by decide, inT3, Tb_at 170 (by decide +kernel) (by decide +kernel), rfl, by decide +kernel, ⟨tyX3, tyX3_ok⟩, nmX3⟩
theorem kl_RX6_33 : Cond.classLink RX6 33 RX4 ∈ Tb := Tb_at 177 (by decide +kernel) (by decide +kernel)
theorem kn_RX4 : Cond.instantiable RX4 3 ∈ Tb := Tb_at 178 (by decide +kernel) (by decide +kernel)
theorem lk_RX6_35 : Cond.methodLink RX6 35 yX4_init ∈ Tb := Tb_at 179 (by decide +kernel) (by decide +kernel)
theorem lk_RX4_3 : Cond.methodLink "LeftGloves$TextReader" 3 ⟨"java/lang/Object", "<init>", "()V"⟩ ∈ Tb := Tb_at 182 (by decide +kernel) (by decide +kernel)
theorem kl_RX4_9 : Cond.classLink RX4 9 RX5 ∈ Tb := Tb_at 183 (by decide +kernel) (by decide +kernel)
theorem kn_RX5 : Cond.instantiable RX5 5 ∈ Tb := Tb_at 184 (by decide +kernel) (by decide +kernel)
theorem lk_RX4_11 : Cond.methodLink RX4 11 yX5_init ∈ Tb := Tb_at 185 (by decide +kernel) (by decide +kernel)
theorem lk_RX5_3 : Cond.methodLink "LeftGloves$Tokens" 3 ⟨"java/lang/Object", "<init>", "()V"⟩ ∈ Tb := Tb_at 188 (by decide +kernel) (by decide +kernel)
theorem fd_RX5_11 : gFd RX5 11 5 0 true (.array .int) := ⟨(RX5, TX5, 5), rfl, by decide, inT5, Tb_at 189 (by decide +kernel) (by decide +kernel), rfl, by decide +kernel, ⟨tyX5, tyX5_ok⟩, nmX5⟩
theorem fd_RX5_15 : gFd RX5 15 5 1 true (.array .int) := ⟨(RX5, TX5, 5), rfl, by decide, inT5, Tb_at 190 (by decide +kernel) (by decide +kernel), rfl, by decide +kernel, ⟨tyX5, tyX5_ok⟩, nmX5⟩
theorem fd_RX5_18 : gFd RX5 18 5 2 true (.array .int) := ⟨(RX5, TX5, 5), rfl, by decide, inT5, Tb_at 191 (by decide +kernel) (by decide +kernel), rfl, by decide +kernel, ⟨tyX5, tyX5_ok⟩, nmX5⟩
theorem fd_RX5_21 : gFd RX5 21 5 3 true (.array .int) := ⟨(RX5, TX5, 5), rfl, by decide, inT5, Tb_at 192 (by decide +kernel) (by decide +kernel), rfl, by decide +kernel, ⟨tyX5, tyX5_ok⟩, nmX5⟩
theorem fd_RX5_24 : gFd RX5 24 5 4 false .int := ⟨(RX5, TX5, 5), rfl, by decide, inT5, Tb_at 193 (by decide +kernel) (by decide +kernel), rfl, by decide +kernel, ⟨tyX5, tyX5_ok⟩, nmX5⟩
theorem fd_RX4_12 : gFd RX4 12 4 0 true (.object "LeftGloves$Tokens") := ⟨(RX4, TX4, 3), rfl, by decide, inT4, Tb_at 205 (by decide +kernel) (by decide +kernel), rfl, by decide +kernel, ⟨tyX4, tyX4_ok⟩, nmX4⟩
theorem fd_RX4_18 : gFd RX4 18 4 1 false .int := ⟨(RX4, TX4, 3), rfl, by decide, inT4, Tb_at 206 (by decide +kernel) (by decide +kernel), rfl, by decide +kernel, ⟨tyX4, tyX4_ok⟩, nmX4⟩
theorem fd_RX4_22 : gFd RX4 22 4 2 false .boolean := ⟨(RX4, TX4, 3), rfl, by decide, inT4, Tb_at 207 (by decide +kernel) (by decide +kernel), rfl, by decide +kernel, ⟨tyX4, tyX4_ok⟩, nmX4⟩
theorem kl_RX6_40 : Cond.classLink RX6 40 RX2 ∈ Tb := Tb_at 215 (by decide +kernel) (by decide +kernel)
theorem kn_RX2 : Cond.instantiable RX2 3 ∈ Tb := Tb_at 217 (by decide +kernel) (by decide +kernel)
theorem lk_RX6_46 : Cond.methodLink RX6 46 yX2_init ∈ Tb := Tb_at 218 (by decide +kernel) (by decide +kernel)
theorem lk_RX2_3 : Cond.methodLink "LeftGloves$Sheet" 3 ⟨"java/lang/Object", "<init>", "()V"⟩ ∈ Tb := Tb_at 221 (by decide +kernel) (by decide +kernel)
theorem fd_RX2_9 : gFd RX2 9 2 0 true (.array .int) := ⟨(RX2, TX2, 3), rfl, by decide, inT2, Tb_at 222 (by decide +kernel) (by decide +kernel), rfl, by decide +kernel, ⟨tyX2, tyX2_ok⟩, nmX2⟩
theorem fd_RX6_220 : gFd RX6 220 2 0 true (.array .int) := ⟨(RX2, TX2, 3), rfl, by decide, inT2, Tb_at 223 (by decide +kernel) (by decide +kernel), rfl, by decide +kernel, ⟨tyX2, tyX2_ok⟩, nmX2⟩
theorem fd_RX2_15 : gFd RX2 15 2 1 false .int := ⟨(RX2, TX2, 3), rfl, by decide, inT2, Tb_at 224 (by decide +kernel) (by decide +kernel), rfl, by decide +kernel, ⟨tyX2, tyX2_ok⟩, nmX2⟩
theorem fd_RX6_266 : gFd RX6 266 2 1 false .int := ⟨(RX2, TX2, 3), rfl, by decide, inT2, Tb_at 225 (by decide +kernel) (by decide +kernel), rfl, by decide +kernel, ⟨tyX2, tyX2_ok⟩, nmX2⟩
theorem fd_RX2_19 : gFd RX2 19 2 2 false .int := ⟨(RX2, TX2, 3), rfl, by decide, inT2, Tb_at 226 (by decide +kernel) (by decide +kernel), rfl, by decide +kernel, ⟨tyX2, tyX2_ok⟩, nmX2⟩
theorem fd_RX6_219 : gFd RX6 219 2 2 false .int := ⟨(RX2, TX2, 3), rfl, by decide, inT2, Tb_at 227 (by decide +kernel) (by decide +kernel), rfl, by decide +kernel, ⟨tyX2, tyX2_ok⟩, nmX2⟩
theorem fd_RX6_12 : gFd RX6 12 6 0 true (.object "LeftGloves$Club") := ⟨(RX6, TX6, 8), rfl, by decide, inT6, Tb_at 235 (by decide +kernel) (by decide +kernel), rfl, by decide +kernel, ⟨tyX6, tyX6_ok⟩, nmX6⟩
theorem fd_RX6_16 : gFd RX6 16 6 1 true (.object "LeftGloves$Club") := ⟨(RX6, TX6, 8), rfl, by decide, inT6, Tb_at 236 (by decide +kernel) (by decide +kernel), rfl, by decide +kernel, ⟨tyX6, tyX6_ok⟩, nmX6⟩
theorem fd_RX6_19 : gFd RX6 19 6 2 true (.object "LeftGloves$Club") := ⟨(RX6, TX6, 8), rfl, by decide, inT6, Tb_at 237 (by decide +kernel) (by decide +kernel), rfl, by decide +kernel, ⟨tyX6, tyX6_ok⟩, nmX6⟩
theorem fd_RX6_22 : gFd RX6 22 6 3 false .boolean := ⟨(RX6, TX6, 8), rfl, by decide, inT6, Tb_at 238 (by decide +kernel) (by decide +kernel), rfl, by decide +kernel, ⟨tyX6, tyX6_ok⟩, nmX6⟩
theorem fd_RX6_29 : gFd RX6 29 6 4 true (.object "LeftGloves$Tape") := ⟨(RX6, TX6, 8), rfl, by decide, inT6, Tb_at 239 (by decide +kernel) (by decide +kernel), rfl, by decide +kernel, ⟨tyX6, tyX6_ok⟩, nmX6⟩
theorem fd_RX6_36 : gFd RX6 36 6 5 true (.object "LeftGloves$TextReader") := ⟨(RX6, TX6, 8), rfl, by decide, inT6, Tb_at 240 (by decide +kernel) (by decide +kernel), rfl, by decide +kernel, ⟨tyX6, tyX6_ok⟩, nmX6⟩
theorem fd_RX6_42 : gFd RX6 42 6 6 true (.array (.object "LeftGloves$Sheet")) := ⟨(RX6, TX6, 8), rfl, by decide, inT6, Tb_at 241 (by decide +kernel) (by decide +kernel), rfl, by decide +kernel, ⟨tyX6, tyX6_ok⟩, nmX6⟩
theorem fd_RX6_47 : gFd RX6 47 6 7 true (.array .int) := ⟨(RX6, TX6, 8), rfl, by decide, inT6, Tb_at 242 (by decide +kernel) (by decide +kernel), rfl, by decide +kernel, ⟨tyX6, tyX6_ok⟩, nmX6⟩
theorem lk_RL_13 : Cond.methodLink RL 13 yX6_say ∈ Tb := Tb_at 260 (by decide +kernel) (by decide +kernel)
theorem lk_RX6_51 : Cond.methodLink RX6 51 yX6_isWithin ∈ Tb := Tb_at 264 (by decide +kernel) (by decide +kernel)
theorem lk_RX6_55 : Cond.methodLink RX6 55 yX6_isSaying ∈ Tb := Tb_at 267 (by decide +kernel) (by decide +kernel)
theorem lk_RX6_281 : Cond.methodLink RX6 281 yX6_roomOf ∈ Tb := Tb_at 270 (by decide +kernel) (by decide +kernel)
theorem kc_RX6_59 : Cond.constant RX6 59 (-1000001) ∈ Tb := Tb_at 273 (by decide +kernel) (by decide +kernel)
theorem lk_RX6_60 : Cond.methodLink RX6 60 yX6_finding ∈ Tb := Tb_at 274 (by decide +kernel) (by decide +kernel)
theorem lk_RL_18 : Cond.methodLink RL 18 yX6_said ∈ Tb := Tb_at 278 (by decide +kernel) (by decide +kernel)
theorem lk_RL_23 : Cond.methodLink RL 23 yX6_room ∈ Tb := Tb_at 282 (by decide +kernel) (by decide +kernel)
theorem lk_RX6_67 : Cond.methodLink RX6 67 yX0_lyingIn ∈ Tb := Tb_at 286 (by decide +kernel) (by decide +kernel)
theorem lk_RX6_71 : Cond.methodLink RX6 71 yX0_hushOf ∈ Tb := Tb_at 290 (by decide +kernel) (by decide +kernel)
theorem lk_RX0_63 : Cond.methodLink RX0 63 yX1_hushes ∈ Tb := Tb_at 297 (by decide +kernel) (by decide +kernel)
theorem lk_RX6_74 : Cond.methodLink RX6 74 yX0_knownBy ∈ Tb := Tb_at 301 (by decide +kernel) (by decide +kernel)
theorem lk_RX6_77 : Cond.methodLink RX6 77 yX0_saidIn ∈ Tb := Tb_at 305 (by decide +kernel) (by decide +kernel)
theorem lk_RL_27 : Cond.methodLink RL 27 yX6_glove ∈ Tb := Tb_at 313 (by decide +kernel) (by decide +kernel)
theorem kc_RX6_84 : Cond.constant RX6 84 (-1000002) ∈ Tb := Tb_at 317 (by decide +kernel) (by decide +kernel)
theorem lk_RX6_85 : Cond.methodLink RX6 85 yX0_putDown ∈ Tb := Tb_at 318 (by decide +kernel) (by decide +kernel)
theorem lk_RX0_53 : Cond.methodLink RX0 53 yX1_beNew ∈ Tb := Tb_at 322 (by decide +kernel) (by decide +kernel)
theorem lk_RL_31 : Cond.methodLink RL 31 yX6_of ∈ Tb := Tb_at 326 (by decide +kernel) (by decide +kernel)
theorem lk_RX6_88 : Cond.methodLink RX6 88 yX0_has ∈ Tb := Tb_at 330 (by decide +kernel) (by decide +kernel)
theorem lk_RX6_93 : Cond.methodLink RX6 93 yX0_needOf ∈ Tb := Tb_at 335 (by decide +kernel) (by decide +kernel)
theorem lk_RX0_106 : Cond.methodLink RX0 106 yX0_lyingIn ∈ Tb := Tb_at 339 (by decide +kernel) (by decide +kernel)
theorem lk_RX0_110 : Cond.methodLink RX0 110 yX1_needs ∈ Tb := Tb_at 340 (by decide +kernel) (by decide +kernel)
theorem lk_RX1_51 : Cond.methodLink RX1 51 yJ9_max_7cf53 ∈ Tb := Tb_at 344 (by decide +kernel) (by decide +kernel)
theorem lk_RX6_100 : Cond.methodLink RX6 100 yX1_trait ∈ Tb := Tb_at 347 (by decide +kernel) (by decide +kernel)
theorem lk_RX1_41 : Cond.methodLink RX1 41 yX1_hushes ∈ Tb := Tb_at 351 (by decide +kernel) (by decide +kernel)
theorem lk_RX1_45 : Cond.methodLink RX1 45 yX1_stays ∈ Tb := Tb_at 352 (by decide +kernel) (by decide +kernel)
theorem fs_RX1_57 : Cond.fieldLink RX1 57 "LeftGloves$Glove" "STAYS_BY_KIND" "[I" ∈ Tb := Tb_at 357 (by decide +kernel) (by decide +kernel)
theorem lk_RX1_48 : Cond.methodLink RX1 48 yX1_keeps ∈ Tb := Tb_at 359 (by decide +kernel) (by decide +kernel)
theorem fs_RX1_60 : Cond.fieldLink RX1 60 "LeftGloves$Glove" "KEEPS_BY_KIND" "[I" ∈ Tb := Tb_at 363 (by decide +kernel) (by decide +kernel)
theorem lk_RL_35 : Cond.methodLink RL 35 yX6_change ∈ Tb := Tb_at 365 (by decide +kernel) (by decide +kernel)
theorem lk_RX6_103 : Cond.methodLink RX6 103 yX1_mostOf ∈ Tb := Tb_at 369 (by decide +kernel) (by decide +kernel)
theorem fs_RX1_15 : Cond.fieldLink RX1 15 "LeftGloves$Glove" "MOST" "[I" ∈ Tb := Tb_at 372 (by decide +kernel) (by decide +kernel)
theorem lk_RX6_106 : Cond.methodLink RX6 106 yX1_setTrait ∈ Tb := Tb_at 374 (by decide +kernel) (by decide +kernel)
theorem lk_RL_40 : Cond.methodLink RL 40 yX6_draw ∈ Tb := Tb_at 378 (by decide +kernel) (by decide +kernel)
theorem lk_RX6_110 : Cond.methodLink RX6 110 yX1_stays ∈ Tb := Tb_at 382 (by decide +kernel) (by decide +kernel)
theorem kc_RX6_114 : Cond.constant RX6 114 (-1000005) ∈ Tb := Tb_at 383 (by decide +kernel) (by decide +kernel)
theorem lk_RX6_115 : Cond.methodLink RX6 115 yX1_beDrawnOn ∈ Tb := Tb_at 384 (by decide +kernel) (by decide +kernel)
theorem lk_RX1_72 : Cond.methodLink RX1 72 yJ9_min_7cf53 ∈ Tb := Tb_at 388 (by decide +kernel) (by decide +kernel)
theorem lk_RL_44 : Cond.methodLink RL 44 yX6_who ∈ Tb := Tb_at 391 (by decide +kernel) (by decide +kernel)
theorem lk_RX6_121 : Cond.methodLink RX6 121 yX0_whoKnows ∈ Tb := Tb_at 395 (by decide +kernel) (by decide +kernel)
theorem lk_RL_48 : Cond.methodLink RL 48 yX6_go ∈ Tb := Tb_at 399 (by decide +kernel) (by decide +kernel)
theorem kc_RX6_128 : Cond.constant RX6 128 (99999) ∈ Tb := Tb_at 403 (by decide +kernel) (by decide +kernel)
theorem lk_RX6_129 : Cond.methodLink RX6 129 yX0_passDays ∈ Tb := Tb_at 404 (by decide +kernel) (by decide +kernel)
theorem lk_RX0_128 : Cond.methodLink RX0 128 yX0_passDay ∈ Tb := Tb_at 408 (by decide +kernel) (by decide +kernel)
theorem lk_RX0_132 : Cond.methodLink RX0 132 yX0_placeOfToday ∈ Tb := Tb_at 412 (by decide +kernel) (by decide +kernel)
theorem lk_RX0_125 : Cond.methodLink RX0 125 yJ9_floorMod_7cf53 ∈ Tb := Tb_at 416 (by decide +kernel) (by decide +kernel)
theorem lk_RX0_135 : Cond.methodLink RX0 135 yX0_hearersOf ∈ Tb := Tb_at 419 (by decide +kernel) (by decide +kernel)
theorem lk_RX0_117 : Cond.methodLink RX0 117 yX0_hushOf ∈ Tb := Tb_at 426 (by decide +kernel) (by decide +kernel)
theorem lk_RX0_120 : Cond.methodLink RX0 120 yJ9_max_7cf53 ∈ Tb := Tb_at 427 (by decide +kernel) (by decide +kernel)
theorem lk_RX0_138 : Cond.methodLink RX0 138 yX1_takeIn ∈ Tb := Tb_at 428 (by decide +kernel) (by decide +kernel)
theorem lk_RX1_66 : Cond.methodLink RX1 66 yJ6_bitCount_0f7a4 ∈ Tb := Tb_at 432 (by decide +kernel) (by decide +kernel)
theorem kc_RJ6_265 : Cond.constant RJ6 265 (1431655765) ∈ Tb := Tb_at 435 (by decide +kernel) (by decide +kernel)
theorem kc_RJ6_266 : Cond.constant RJ6 266 (858993459) ∈ Tb := Tb_at 436 (by decide +kernel) (by decide +kernel)
theorem kc_RJ6_267 : Cond.constant RJ6 267 (252645135) ∈ Tb := Tb_at 437 (by decide +kernel) (by decide +kernel)
theorem lk_RX0_141 : Cond.methodLink RX0 141 yX1_lieOneDay ∈ Tb := Tb_at 438 (by decide +kernel) (by decide +kernel)
theorem lk_RX1_75 : Cond.methodLink RX1 75 yX1_beDrawnOn ∈ Tb := Tb_at 442 (by decide +kernel) (by decide +kernel)
theorem kc_RX0_144 : Cond.constant RX0 144 (99999) ∈ Tb := Tb_at 443 (by decide +kernel) (by decide +kernel)
theorem lk_RX0_145 : Cond.methodLink RX0 145 yJ9_min_7cf53 ∈ Tb := Tb_at 444 (by decide +kernel) (by decide +kernel)
theorem lk_RX6_132 : Cond.methodLink RX6 132 yX0_knownByGloves ∈ Tb := Tb_at 445 (by decide +kernel) (by decide +kernel)
theorem lk_RX0_73 : Cond.methodLink RX0 73 yX0_everyone ∈ Tb := Tb_at 449 (by decide +kernel) (by decide +kernel)
theorem lk_RX0_76 : Cond.methodLink RX0 76 yX0_knownBy ∈ Tb := Tb_at 453 (by decide +kernel) (by decide +kernel)
theorem lk_RL_52 : Cond.methodLink RL 52 yX6_now ∈ Tb := Tb_at 454 (by decide +kernel) (by decide +kernel)
theorem lk_RX6_135 : Cond.methodLink RX6 135 yX0_knownByHands ∈ Tb := Tb_at 458 (by decide +kernel) (by decide +kernel)
theorem lk_RX0_80 : Cond.methodLink RX0 80 yX0_knownByHandsOf ∈ Tb := Tb_at 462 (by decide +kernel) (by decide +kernel)
theorem kc_RX6_138 : Cond.constant RX6 138 (65535) ∈ Tb := Tb_at 466 (by decide +kernel) (by decide +kernel)
theorem lk_RX6_139 : Cond.methodLink RX6 139 yX0_knownToAnyone ∈ Tb := Tb_at 467 (by decide +kernel) (by decide +kernel)
theorem lk_RX0_83 : Cond.methodLink RX0 83 yX0_knownByGloves ∈ Tb := Tb_at 471 (by decide +kernel) (by decide +kernel)
theorem lk_RX0_86 : Cond.methodLink RX0 86 yX0_knownByHands ∈ Tb := Tb_at 472 (by decide +kernel) (by decide +kernel)
theorem lk_RX6_142 : Cond.methodLink RX6 142 yX0_drawnInAll ∈ Tb := Tb_at 473 (by decide +kernel) (by decide +kernel)
theorem lk_RX6_145 : Cond.methodLink RX6 145 yX0_wisest ∈ Tb := Tb_at 477 (by decide +kernel) (by decide +kernel)
theorem lk_RX0_103 : Cond.methodLink RX0 103 yX0_topicsInHand ∈ Tb := Tb_at 481 (by decide +kernel) (by decide +kernel)
theorem lk_RX0_98 : Cond.methodLink RX0 98 yJ6_bitCount_0f7a4 ∈ Tb := Tb_at 485 (by decide +kernel) (by decide +kernel)
theorem lk_RX6_148 : Cond.methodLink RX6 148 yX0_placeOfToday ∈ Tb := Tb_at 486 (by decide +kernel) (by decide +kernel)
theorem lk_RX6_151 : Cond.methodLink RX6 151 yX0_hearersOf ∈ Tb := Tb_at 487 (by decide +kernel) (by decide +kernel)
theorem lk_RL_56 : Cond.methodLink RL 56 yX6_ahead ∈ Tb := Tb_at 488 (by decide +kernel) (by decide +kernel)
theorem lk_RX6_154 : Cond.methodLink RX6 154 yX6_canBeAskedAhead ∈ Tb := Tb_at 492 (by decide +kernel) (by decide +kernel)
theorem lk_RX6_157 : Cond.methodLink RX6 157 yX0_become ∈ Tb := Tb_at 495 (by decide +kernel) (by decide +kernel)
theorem lk_RX0_39 : Cond.methodLink RX0 39 yX1_become ∈ Tb := Tb_at 499 (by decide +kernel) (by decide +kernel)
theorem lk_RX0_43 : Cond.methodLink "LeftGloves$Club" 43 ⟨"java/lang/System", "arraycopy", "(Ljava/lang/Object;ILjava/lang/Object;II)V"⟩ ∈ Tb := Tb_at 503 (by decide +kernel) (by decide +kernel)
theorem lk_RL_60 : Cond.methodLink RL 60 yX6_hears ∈ Tb := Tb_at 506 (by decide +kernel) (by decide +kernel)
theorem lk_RX6_161 : Cond.methodLink RX6 161 yX6_daysUntil ∈ Tb := Tb_at 510 (by decide +kernel) (by decide +kernel)
theorem lk_RX6_165 : Cond.methodLink RX6 165 yX6_isSoInTrial ∈ Tb := Tb_at 514 (by decide +kernel) (by decide +kernel)
theorem lk_RX6_177 : Cond.methodLink RX6 177 yX6_isIn ∈ Tb := Tb_at 518 (by decide +kernel) (by decide +kernel)
theorem lk_RX6_180 : Cond.methodLink RX6 180 yX0_topicsInHand ∈ Tb := Tb_at 519 (by decide +kernel) (by decide +kernel)
theorem lk_RX6_169 : Cond.methodLink RX6 169 yX0_passDay ∈ Tb := Tb_at 520 (by decide +kernel) (by decide +kernel)
theorem kc_RX6_173 : Cond.constant RX6 173 (-1000004) ∈ Tb := Tb_at 521 (by decide +kernel) (by decide +kernel)
theorem lk_RL_64 : Cond.methodLink RL 64 yX6_wise ∈ Tb := Tb_at 522 (by decide +kernel) (by decide +kernel)
theorem lk_RL_68 : Cond.methodLink RL 68 yX6_out ∈ Tb := Tb_at 526 (by decide +kernel) (by decide +kernel)
theorem lk_RL_72 : Cond.methodLink RL 72 yX6_leave ∈ Tb := Tb_at 530 (by decide +kernel) (by decide +kernel)
theorem lk_RX6_183 : Cond.methodLink RX6 183 yX6_bestFor ∈ Tb := Tb_at 534 (by decide +kernel) (by decide +kernel)
theorem lk_RX6_187 : Cond.methodLink RX6 187 yX6_tryOut ∈ Tb := Tb_at 538 (by decide +kernel) (by decide +kernel)
theorem lk_RL_76 : Cond.methodLink RL 76 yX6_openFor ∈ Tb := Tb_at 542 (by decide +kernel) (by decide +kernel)
theorem lk_RL_80 : Cond.methodLink RL 80 yX6_kindFor ∈ Tb := Tb_at 546 (by decide +kernel) (by decide +kernel)
theorem lk_RL_84 : Cond.methodLink RL 84 yX6_lower ∈ Tb := Tb_at 550 (by decide +kernel) (by decide +kernel)
theorem lk_RX6_191 : Cond.methodLink RX6 191 yX6_loudOf ∈ Tb := Tb_at 554 (by decide +kernel) (by decide +kernel)
theorem lk_RL_88 : Cond.methodLink RL 88 yX6_cover ∈ Tb := Tb_at 555 (by decide +kernel) (by decide +kernel)
theorem lk_RX6_194 : Cond.methodLink RX6 194 yX6_isFewer ∈ Tb := Tb_at 559 (by decide +kernel) (by decide +kernel)
theorem lk_RX6_204 : Cond.methodLink RX6 204 yJ6_bitCount_0f7a4 ∈ Tb := Tb_at 562 (by decide +kernel) (by decide +kernel)
theorem lk_RX6_197 : Cond.methodLink RX6 197 yX0_knownByHandsOf ∈ Tb := Tb_at 563 (by decide +kernel) (by decide +kernel)
theorem lk_RL_92 : Cond.methodLink RL 92 yX6_away ∈ Tb := Tb_at 564 (by decide +kernel) (by decide +kernel)
theorem lk_RX6_200 : Cond.methodLink RX6 200 yX6_comesToKnowWithout ∈ Tb := Tb_at 568 (by decide +kernel) (by decide +kernel)
theorem lk_RL_96 : Cond.methodLink RL 96 yX6_fits ∈ Tb := Tb_at 572 (by decide +kernel) (by decide +kernel)
theorem lk_RX6_209 : Cond.methodLink RX6 209 yX6_choicesAsTold ∈ Tb := Tb_at 576 (by decide +kernel) (by decide +kernel)
theorem lk_RX6_212 : Cond.methodLink RX6 212 yX6_lackOf ∈ Tb := Tb_at 580 (by decide +kernel) (by decide +kernel)
theorem lk_RX6_252 : Cond.methodLink RX6 252 yX6_isSheet ∈ Tb := Tb_at 584 (by decide +kernel) (by decide +kernel)
theorem lk_RX6_262 : Cond.methodLink RX6 262 yX2_isMissing ∈ Tb := Tb_at 587 (by decide +kernel) (by decide +kernel)
theorem kc_RX6_247 : Cond.constant RX6 247 (-1000006) ∈ Tb := Tb_at 591 (by decide +kernel) (by decide +kernel)
theorem lk_RX6_215 : Cond.methodLink RX6 215 yX6_trialGoesAsTold ∈ Tb := Tb_at 592 (by decide +kernel) (by decide +kernel)
theorem lk_RL_100 : Cond.methodLink RL 100 yX6_kinds ∈ Tb := Tb_at 596 (by decide +kernel) (by decide +kernel)
theorem lk_RL_104 : Cond.methodLink RL 104 yX6_talk ∈ Tb := Tb_at 600 (by decide +kernel) (by decide +kernel)
theorem lk_RX6_223 : Cond.methodLink RX6 223 yX0_drawSaying ∈ Tb := Tb_at 604 (by decide +kernel) (by decide +kernel)
theorem lk_RX0_148 : Cond.methodLink RX0 148 yX0_nextDraw ∈ Tb := Tb_at 608 (by decide +kernel) (by decide +kernel)
theorem kc_RX0_151 : Cond.constant RX0 151 (1103515245) ∈ Tb := Tb_at 612 (by decide +kernel) (by decide +kernel)
theorem lk_RL_108 : Cond.methodLink RL 108 yX6_odds ∈ Tb := Tb_at 613 (by decide +kernel) (by decide +kernel)
theorem lk_RX6_226 : Cond.methodLink RX6 226 yX6_power ∈ Tb := Tb_at 617 (by decide +kernel) (by decide +kernel)
theorem lk_RL_113 : Cond.methodLink RL 113 yX6_seed ∈ Tb := Tb_at 620 (by decide +kernel) (by decide +kernel)
theorem lk_RL_117 : Cond.methodLink RL 117 yX6_feed ∈ Tb := Tb_at 624 (by decide +kernel) (by decide +kernel)
theorem lk_RX6_236 : Cond.methodLink RX6 236 yX3_append ∈ Tb := Tb_at 628 (by decide +kernel) (by decide +kernel)
theorem lk_RL_121 : Cond.methodLink RL 121 yX6_wipe ∈ Tb := Tb_at 632 (by decide +kernel) (by decide +kernel)
theorem lk_RL_126 : Cond.methodLink RL 126 yX6_text ∈ Tb := Tb_at 636 (by decide +kernel) (by decide +kernel)
theorem lk_RX6_240 : Cond.methodLink RX6 240 yX4_read ∈ Tb := Tb_at 640 (by decide +kernel) (by decide +kernel)
theorem lk_RX4_26 : Cond.methodLink RX4 26 yX5_readFrom ∈ Tb := Tb_at 644 (by decide +kernel) (by decide +kernel)
theorem lk_RX5_33 : Cond.methodLink RX5 33 yX3_byteAt ∈ Tb := Tb_at 648 (by decide +kernel) (by decide +kernel)
theorem lk_RX5_37 : Cond.methodLink RX5 37 yX5_sortOf ∈ Tb := Tb_at 653 (by decide +kernel) (by decide +kernel)
theorem lk_RX5_40 : Cond.methodLink RX5 40 yX5_begin ∈ Tb := Tb_at 656 (by decide +kernel) (by decide +kernel)
theorem lk_RX5_44 : Cond.methodLink RX5 44 yX5_takeUp ∈ Tb := Tb_at 660 (by decide +kernel) (by decide +kernel)
theorem kc_RX5_55 : Cond.constant RX5 55 (100000) ∈ Tb := Tb_at 665 (by decide +kernel) (by decide +kernel)
theorem lk_RX5_56 : Cond.methodLink RX5 56 yJ9_min_7cf53 ∈ Tb := Tb_at 666 (by decide +kernel) (by decide +kernel)
theorem lk_RX5_47 : Cond.methodLink RX5 47 yX5_nameWords ∈ Tb := Tb_at 667 (by decide +kernel) (by decide +kernel)
theorem lk_RX5_62 : Cond.methodLink RX5 62 yX5_spellingOf ∈ Tb := Tb_at 671 (by decide +kernel) (by decide +kernel)
theorem lk_RX5_66 : Cond.methodLink RX5 66 yX3_spells ∈ Tb := Tb_at 687 (by decide +kernel) (by decide +kernel)
theorem lk_RX3_23 : Cond.methodLink RX3 23 yJ0_length_8abf5 ∈ Tb := Tb_at 691 (by decide +kernel) (by decide +kernel)
theorem lk_RJ0_335 : Cond.methodLink RJ0 335 yJ0_coder_7d493 ∈ Tb := Tb_at 695 (by decide +kernel) (by decide +kernel)
theorem fs_RJ0_38 : Cond.fieldLink RJ0 38 "java/lang/String" "COMPACT_STRINGS" "Z" ∈ Tb := Tb_at 699 (by decide +kernel) (by decide +kernel)
theorem lk_RX3_28 : Cond.methodLink RX3 28 yX3_byteAt ∈ Tb := Tb_at 701 (by decide +kernel) (by decide +kernel)
theorem lk_RX3_32 : Cond.methodLink RX3 32 yJ0_charAt_5068e ∈ Tb := Tb_at 702 (by decide +kernel) (by decide +kernel)
theorem lk_RJ0_492 : Cond.methodLink RJ0 492 yJ0_isLatin1_aae02 ∈ Tb := Tb_at 706 (by decide +kernel) (by decide +kernel)
theorem lk_RJ0_495 : Cond.methodLink RJ0 495 yJ1_charAt_3b067 ∈ Tb := Tb_at 710 (by decide +kernel) (by decide +kernel)
theorem lk_RJ1_9 : Cond.methodLink RJ1 9 yJ0_checkIndex_df160 ∈ Tb := Tb_at 713 (by decide +kernel) (by decide +kernel)
theorem fs_RJ0_1053 : Cond.fieldLink RJ0 1053 "jdk/internal/util/Preconditions" "SIOOBE_FORMATTER" "Ljava/util/function/BiFunction;" ∈ Tb := Tb_at 716 (by decide +kernel) (by decide +kernel)
theorem lk_RJ0_1059 : Cond.methodLink RJ0 1059 yJ3_checkIndex_8e157 ∈ Tb := Tb_at 718 (by decide +kernel) (by decide +kernel)
theorem lk_RJ0_498 : Cond.methodLink RJ0 498 yJ2_charAt_3b067 ∈ Tb := Tb_at 721 (by decide +kernel) (by decide +kernel)
theorem lk_RJ2_67 : Cond.methodLink RJ2 67 yJ2_checkIndex_2214a ∈ Tb := Tb_at 724 (by decide +kernel) (by decide +kernel)
theorem lk_RJ2_48 : Cond.methodLink RJ2 48 yJ2_length_9d52b ∈ Tb := Tb_at 727 (by decide +kernel) (by decide +kernel)
theorem lk_RJ2_414 : Cond.methodLink RJ2 414 yJ0_checkIndex_df160 ∈ Tb := Tb_at 730 (by decide +kernel) (by decide +kernel)
theorem lk_RJ2_71 : Cond.methodLink RJ2 71 yJ2_getChar_3b067 ∈ Tb := Tb_at 731 (by decide +kernel) (by decide +kernel)
theorem fs_RJ2_44 : Cond.fieldLink RJ2 44 "java/lang/StringUTF16" "$assertionsDisabled" "Z" ∈ Tb := Tb_at 734 (by decide +kernel) (by decide +kernel)
theorem fs_RJ2_59 : Cond.fieldLink RJ2 59 "java/lang/StringUTF16" "HI_BYTE_SHIFT" "I" ∈ Tb := Tb_at 736 (by decide +kernel) (by decide +kernel)
theorem fs_RJ2_63 : Cond.fieldLink RJ2 63 "java/lang/StringUTF16" "LO_BYTE_SHIFT" "I" ∈ Tb := Tb_at 738 (by decide +kernel) (by decide +kernel)
theorem lk_RX4_30 : Cond.methodLink RX4 30 yX4_takeItem ∈ Tb := Tb_at 740 (by decide +kernel) (by decide +kernel)
theorem lk_RX4_38 : Cond.methodLink RX4 38 yX4_takes ∈ Tb := Tb_at 744 (by decide +kernel) (by decide +kernel)
theorem lk_RX4_34 : Cond.methodLink RX4 34 yX5_sortAt ∈ Tb := Tb_at 748 (by decide +kernel) (by decide +kernel)
theorem lk_RX4_45 : Cond.methodLink RX4 45 yX4_takeSaying ∈ Tb := Tb_at 752 (by decide +kernel) (by decide +kernel)
theorem lk_RX4_54 : Cond.methodLink RX4 54 yX4_takeNumber ∈ Tb := Tb_at 756 (by decide +kernel) (by decide +kernel)
theorem lk_RX4_99 : Cond.methodLink RX4 99 yX5_numberAt ∈ Tb := Tb_at 760 (by decide +kernel) (by decide +kernel)
theorem lk_RX4_48 : Cond.methodLink RX4 48 yX4_takeHand ∈ Tb := Tb_at 765 (by decide +kernel) (by decide +kernel)
theorem kc_RX4_70 : Cond.constant RX4 70 (65535) ∈ Tb := Tb_at 769 (by decide +kernel) (by decide +kernel)
theorem lk_RX4_51 : Cond.methodLink RX4 51 yX4_takeGlove ∈ Tb := Tb_at 770 (by decide +kernel) (by decide +kernel)
theorem lk_RX4_84 : Cond.methodLink RX4 84 yX0_putDown ∈ Tb := Tb_at 775 (by decide +kernel) (by decide +kernel)
theorem lk_RX4_88 : Cond.methodLink RX4 88 yX4_takeTrait ∈ Tb := Tb_at 776 (by decide +kernel) (by decide +kernel)
theorem lk_RX4_92 : Cond.methodLink RX4 92 yX1_mostOf ∈ Tb := Tb_at 780 (by decide +kernel) (by decide +kernel)
theorem lk_RX4_95 : Cond.methodLink RX4 95 yX1_setTrait ∈ Tb := Tb_at 781 (by decide +kernel) (by decide +kernel)
theorem lk_RX4_42 : Cond.methodLink RX4 42 yX5_startAt ∈ Tb := Tb_at 782 (by decide +kernel) (by decide +kernel)
theorem lk_RL_130 : Cond.methodLink RL 130 yX6_hold ∈ Tb := Tb_at 786 (by decide +kernel) (by decide +kernel)
theorem lk_RL_134 : Cond.methodLink RL 134 yX6_as ∈ Tb := Tb_at 790 (by decide +kernel) (by decide +kernel)
theorem lk_RX6_248 : Cond.methodLink RX6 248 yX1_isA ∈ Tb := Tb_at 794 (by decide +kernel) (by decide +kernel)
theorem fs_RX1_63 : Cond.fieldLink RX1 63 "LeftGloves$Glove" "ABOVE" "[I" ∈ Tb := Tb_at 798 (by decide +kernel) (by decide +kernel)
theorem kc_RX6_251 : Cond.constant RX6 251 (-1000003) ∈ Tb := Tb_at 800 (by decide +kernel) (by decide +kernel)
theorem lk_RL_138 : Cond.methodLink RL 138 yX6_sheet ∈ Tb := Tb_at 801 (by decide +kernel) (by decide +kernel)
theorem kc_RX6_255 : Cond.constant RX6 255 (-1000007) ∈ Tb := Tb_at 805 (by decide +kernel) (by decide +kernel)
theorem lk_RX6_256 : Cond.methodLink RX6 256 yX2_layOut ∈ Tb := Tb_at 806 (by decide +kernel) (by decide +kernel)
theorem lk_RL_142 : Cond.methodLink RL 142 yX6_write ∈ Tb := Tb_at 810 (by decide +kernel) (by decide +kernel)
theorem lk_RX6_259 : Cond.methodLink RX6 259 yX2_setNumber ∈ Tb := Tb_at 814 (by decide +kernel) (by decide +kernel)
theorem lk_RL_146 : Cond.methodLink RL 146 yX6_copy ∈ Tb := Tb_at 818 (by decide +kernel) (by decide +kernel)
theorem lk_RX6_269 : Cond.methodLink RX6 269 yX2_hasRow ∈ Tb := Tb_at 822 (by decide +kernel) (by decide +kernel)
theorem lk_RX6_272 : Cond.methodLink "LeftGloves" 272 ⟨"java/lang/System", "arraycopy", "(Ljava/lang/Object;ILjava/lang/Object;II)V"⟩ ∈ Tb := Tb_at 827 (by decide +kernel) (by decide +kernel)
theorem lk_RL_151 : Cond.methodLink RL 151 yX6_load ∈ Tb := Tb_at 828 (by decide +kernel) (by decide +kernel)
theorem lk_RL_155 : Cond.methodLink RL 155 yX6_judge ∈ Tb := Tb_at 832 (by decide +kernel) (by decide +kernel)
theorem lk_RL_159 : Cond.methodLink RL 159 yX6_image ∈ Tb := Tb_at 836 (by decide +kernel) (by decide +kernel)
theorem lk_RL_163 : Cond.methodLink RL 163 yX6_undo ∈ Tb := Tb_at 840 (by decide +kernel) (by decide +kernel)
theorem lk_RL_167 : Cond.methodLink RL 167 yX6_tear ∈ Tb := Tb_at 844 (by decide +kernel) (by decide +kernel)
theorem lk_RL_171 : Cond.methodLink RL 171 yX6_count ∈ Tb := Tb_at 848 (by decide +kernel) (by decide +kernel)
theorem lk_RX6_278 : Cond.methodLink RX6 278 yX0_spotsThatHold ∈ Tb := Tb_at 852 (by decide +kernel) (by decide +kernel)
theorem lk_RL_175 : Cond.methodLink RL 175 yX6_status ∈ Tb := Tb_at 856 (by decide +kernel) (by decide +kernel)
theorem kl_RL_10 : Cond.classLink RL 10 RX7 ∈ Tb := Tb_at 860 (by decide +kernel) (by decide +kernel)
theorem kn_RX7 : Cond.instantiable RX7 18 ∈ Tb := Tb_at 861 (by decide +kernel) (by decide +kernel)
theorem lk_RL_12 : Cond.methodLink RL 12 yX7_init ∈ Tb := Tb_at 862 (by decide +kernel) (by decide +kernel)
theorem lk_RX7_1 : Cond.methodLink "LeftGlovesModel" 1 ⟨"java/lang/Object", "<init>", "()V"⟩ ∈ Tb := Tb_at 865 (by decide +kernel) (by decide +kernel)
theorem fd_RX7_7 : gFd RX7 7 7 0 true (.array .int) := ⟨(RX7, TX7, 18), rfl, by decide, inT7, Tb_at 866 (by decide +kernel) (by decide +kernel), rfl, by decide +kernel, ⟨tyX7, tyX7_ok⟩, nmX7⟩
theorem fd_RX7_13 : gFd RX7 13 7 1 true (.array .int) := ⟨(RX7, TX7, 18), rfl, by decide, inT7, Tb_at 867 (by decide +kernel) (by decide +kernel), rfl, by decide +kernel, ⟨tyX7, tyX7_ok⟩, nmX7⟩
theorem fd_RX7_16 : gFd RX7 16 7 2 true (.array .int) := ⟨(RX7, TX7, 18), rfl, by decide, inT7, Tb_at 868 (by decide +kernel) (by decide +kernel), rfl, by decide +kernel, ⟨tyX7, tyX7_ok⟩, nmX7⟩
theorem fd_RX7_19 : gFd RX7 19 7 3 true (.array .int) := ⟨(RX7, TX7, 18), rfl, by decide, inT7, Tb_at 869 (by decide +kernel) (by decide +kernel), rfl, by decide +kernel, ⟨tyX7, tyX7_ok⟩, nmX7⟩
theorem fd_RX7_312 : gFd RX7 312 7 4 false .boolean := ⟨(RX7, TX7, 18), rfl, by decide, inT7, Tb_at 870 (by decide +kernel) (by decide +kernel), rfl, by decide +kernel, ⟨tyX7, tyX7_ok⟩, nmX7⟩
theorem fd_RX7_22 : gFd RX7 22 7 5 true (.array .int) := ⟨(RX7, TX7, 18), rfl, by decide, inT7, Tb_at 871 (by decide +kernel) (by decide +kernel), rfl, by decide +kernel, ⟨tyX7, tyX7_ok⟩, nmX7⟩
theorem fd_RX7_25 : gFd RX7 25 7 6 true (.array .byte) := ⟨(RX7, TX7, 18), rfl, by decide, inT7, Tb_at 872 (by decide +kernel) (by decide +kernel), rfl, by decide +kernel, ⟨tyX7, tyX7_ok⟩, nmX7⟩
theorem fd_RX7_205 : gFd RX7 205 7 7 false .int := ⟨(RX7, TX7, 18), rfl, by decide, inT7, Tb_at 873 (by decide +kernel) (by decide +kernel), rfl, by decide +kernel, ⟨tyX7, tyX7_ok⟩, nmX7⟩
theorem fd_RX7_54 : gFd RX7 54 7 8 false .int := ⟨(RX7, TX7, 18), rfl, by decide, inT7, Tb_at 874 (by decide +kernel) (by decide +kernel), rfl, by decide +kernel, ⟨tyX7, tyX7_ok⟩, nmX7⟩
theorem fd_RX7_208 : gFd RX7 208 7 9 false .int := ⟨(RX7, TX7, 18), rfl, by decide, inT7, Tb_at 875 (by decide +kernel) (by decide +kernel), rfl, by decide +kernel, ⟨tyX7, tyX7_ok⟩, nmX7⟩
theorem fd_RX7_221 : gFd RX7 221 7 10 false .int := ⟨(RX7, TX7, 18), rfl, by decide, inT7, Tb_at 876 (by decide +kernel) (by decide +kernel), rfl, by decide +kernel, ⟨tyX7, tyX7_ok⟩, nmX7⟩
theorem fd_RX7_214 : gFd RX7 214 7 11 false .int := ⟨(RX7, TX7, 18), rfl, by decide, inT7, Tb_at 877 (by decide +kernel) (by decide +kernel), rfl, by decide +kernel, ⟨tyX7, tyX7_ok⟩, nmX7⟩
theorem fd_RX7_217 : gFd RX7 217 7 12 false .long := ⟨(RX7, TX7, 18), rfl, by decide, inT7, Tb_at 878 (by decide +kernel) (by decide +kernel), rfl, by decide +kernel, ⟨tyX7, tyX7_ok⟩, nmX7⟩
theorem fd_RX7_238 : gFd RX7 238 7 13 false .int := ⟨(RX7, TX7, 18), rfl, by decide, inT7, Tb_at 879 (by decide +kernel) (by decide +kernel), rfl, by decide +kernel, ⟨tyX7, tyX7_ok⟩, nmX7⟩
theorem fd_RX7_29 : gFd RX7 29 7 14 true (.array .int) := ⟨(RX7, TX7, 18), rfl, by decide, inT7, Tb_at 880 (by decide +kernel) (by decide +kernel), rfl, by decide +kernel, ⟨tyX7, tyX7_ok⟩, nmX7⟩
theorem fd_RX7_32 : gFd RX7 32 7 15 true (.array .int) := ⟨(RX7, TX7, 18), rfl, by decide, inT7, Tb_at 881 (by decide +kernel) (by decide +kernel), rfl, by decide +kernel, ⟨tyX7, tyX7_ok⟩, nmX7⟩
theorem fd_RX7_35 : gFd RX7 35 7 16 true (.array .int) := ⟨(RX7, TX7, 18), rfl, by decide, inT7, Tb_at 882 (by decide +kernel) (by decide +kernel), rfl, by decide +kernel, ⟨tyX7, tyX7_ok⟩, nmX7⟩
theorem fd_RX7_38 : gFd RX7 38 7 17 true (.array .int) := ⟨(RX7, TX7, 18), rfl, by decide, inT7, Tb_at 883 (by decide +kernel) (by decide +kernel), rfl, by decide +kernel, ⟨tyX7, tyX7_ok⟩, nmX7⟩
theorem lk_RL_17 : Cond.methodLink RL 17 yX7_say ∈ Tb := Tb_at 921 (by decide +kernel) (by decide +kernel)
theorem lk_RX7_119 : Cond.methodLink RX7 119 yX7_isPlace ∈ Tb := Tb_at 925 (by decide +kernel) (by decide +kernel)
theorem kc_RX7_50 : Cond.constantLong RX7 50 (5) ∈ Tb := Tb_at 928 (by decide +kernel) (by decide +kernel)
theorem lk_RX7_42 : Cond.methodLink RX7 42 yX7_in ∈ Tb := Tb_at 929 (by decide +kernel) (by decide +kernel)
theorem lk_RX7_122 : Cond.methodLink RX7 122 yX7_isSaying ∈ Tb := Tb_at 932 (by decide +kernel) (by decide +kernel)
theorem kc_RX7_52 : Cond.constantLong RX7 52 (5159) ∈ Tb := Tb_at 935 (by decide +kernel) (by decide +kernel)
theorem lk_RX7_125 : Cond.methodLink RX7 125 yX7_becomes ∈ Tb := Tb_at 936 (by decide +kernel) (by decide +kernel)
theorem lk_RX7_128 : Cond.methodLink RX7 128 yX7_finds ∈ Tb := Tb_at 940 (by decide +kernel) (by decide +kernel)
theorem kc_RX7_41 : Cond.constant RX7 41 (-1000001) ∈ Tb := Tb_at 944 (by decide +kernel) (by decide +kernel)
theorem lk_RL_22 : Cond.methodLink RL 22 yX7_said ∈ Tb := Tb_at 945 (by decide +kernel) (by decide +kernel)
theorem lk_RL_26 : Cond.methodLink RL 26 yX7_room ∈ Tb := Tb_at 949 (by decide +kernel) (by decide +kernel)
theorem kc_RX7_131 : Cond.constantLong RX7 131 (3) ∈ Tb := Tb_at 953 (by decide +kernel) (by decide +kernel)
theorem lk_RX7_62 : Cond.methodLink RX7 62 yX7_isIn ∈ Tb := Tb_at 954 (by decide +kernel) (by decide +kernel)
theorem lk_RX7_58 : Cond.methodLink RX7 58 yX7_its ∈ Tb := Tb_at 958 (by decide +kernel) (by decide +kernel)
theorem lk_RX7_78 : Cond.methodLink RX7 78 yX7_hushIn ∈ Tb := Tb_at 962 (by decide +kernel) (by decide +kernel)
theorem lk_RX7_74 : Cond.methodLink RX7 74 yX7_hushes ∈ Tb := Tb_at 966 (by decide +kernel) (by decide +kernel)
theorem lk_RX7_116 : Cond.methodLink RX7 116 yX7_known ∈ Tb := Tb_at 970 (by decide +kernel) (by decide +kernel)
theorem lk_RL_30 : Cond.methodLink RL 30 yX7_glove ∈ Tb := Tb_at 974 (by decide +kernel) (by decide +kernel)
theorem kc_RX7_133 : Cond.constantLong RX7 133 (6) ∈ Tb := Tb_at 978 (by decide +kernel) (by decide +kernel)
theorem lk_RX7_135 : Cond.methodLink RX7 135 yX7_comes ∈ Tb := Tb_at 979 (by decide +kernel) (by decide +kernel)
theorem lk_RX7_90 : Cond.methodLink RX7 90 yX7_sets ∈ Tb := Tb_at 983 (by decide +kernel) (by decide +kernel)
theorem lk_RL_34 : Cond.methodLink RL 34 yX7_of ∈ Tb := Tb_at 987 (by decide +kernel) (by decide +kernel)
theorem lk_RX7_138 : Cond.methodLink RX7 138 yX7_isGlove ∈ Tb := Tb_at 991 (by decide +kernel) (by decide +kernel)
theorem kc_RX7_141 : Cond.constantLong RX7 141 (10) ∈ Tb := Tb_at 995 (by decide +kernel) (by decide +kernel)
theorem lk_RX7_81 : Cond.methodLink RX7 81 yX7_needs ∈ Tb := Tb_at 996 (by decide +kernel) (by decide +kernel)
theorem lk_RX7_66 : Cond.methodLink RX7 66 yX7_held ∈ Tb := Tb_at 1000 (by decide +kernel) (by decide +kernel)
theorem lk_RX7_70 : Cond.methodLink RX7 70 yX7_hasOther ∈ Tb := Tb_at 1003 (by decide +kernel) (by decide +kernel)
theorem lk_RX7_105 : Cond.methodLink RX7 105 yX7_stays ∈ Tb := Tb_at 1007 (by decide +kernel) (by decide +kernel)
theorem lk_RX7_87 : Cond.methodLink RX7 87 yX7_keeps ∈ Tb := Tb_at 1011 (by decide +kernel) (by decide +kernel)
theorem lk_RL_39 : Cond.methodLink RL 39 yX7_change ∈ Tb := Tb_at 1015 (by decide +kernel) (by decide +kernel)
theorem lk_RX7_144 : Cond.methodLink RX7 144 yX7_mostOf ∈ Tb := Tb_at 1019 (by decide +kernel) (by decide +kernel)
theorem kc_RX7_143 : Cond.constant RX7 143 (65535) ∈ Tb := Tb_at 1022 (by decide +kernel) (by decide +kernel)
theorem lk_RL_43 : Cond.methodLink RL 43 yX7_draw ∈ Tb := Tb_at 1023 (by decide +kernel) (by decide +kernel)
theorem lk_RX7_108 : Cond.methodLink RX7 108 yX7_drawnOn ∈ Tb := Tb_at 1027 (by decide +kernel) (by decide +kernel)
theorem lk_RL_47 : Cond.methodLink RL 47 yX7_who ∈ Tb := Tb_at 1031 (by decide +kernel) (by decide +kernel)
theorem lk_RX7_147 : Cond.methodLink RX7 147 yX7_isTopic ∈ Tb := Tb_at 1035 (by decide +kernel) (by decide +kernel)
theorem kc_RX7_46 : Cond.constantLong RX7 46 (15) ∈ Tb := Tb_at 1038 (by decide +kernel) (by decide +kernel)
theorem lk_RL_51 : Cond.methodLink RL 51 yX7_go ∈ Tb := Tb_at 1039 (by decide +kernel) (by decide +kernel)
theorem kc_RX7_150 : Cond.constantLong RX7 150 (60) ∈ Tb := Tb_at 1043 (by decide +kernel) (by decide +kernel)
theorem kc_RX7_112 : Cond.constant RX7 112 (99999) ∈ Tb := Tb_at 1044 (by decide +kernel) (by decide +kernel)
theorem lk_RX7_152 : Cond.methodLink RX7 152 yX7_daysGo ∈ Tb := Tb_at 1045 (by decide +kernel) (by decide +kernel)
theorem lk_RX7_113 : Cond.methodLink RX7 113 yX7_dayGoes ∈ Tb := Tb_at 1049 (by decide +kernel) (by decide +kernel)
theorem lk_RX7_94 : Cond.methodLink RX7 94 yX7_todays ∈ Tb := Tb_at 1053 (by decide +kernel) (by decide +kernel)
theorem lk_RX7_98 : Cond.methodLink RX7 98 yX7_hearers ∈ Tb := Tb_at 1057 (by decide +kernel) (by decide +kernel)
theorem lk_RX7_101 : Cond.methodLink RX7 101 yX7_learns ∈ Tb := Tb_at 1061 (by decide +kernel) (by decide +kernel)
theorem lk_RX7_84 : Cond.methodLink RX7 84 yX7_ones ∈ Tb := Tb_at 1065 (by decide +kernel) (by decide +kernel)
theorem lk_RX7_155 : Cond.methodLink RX7 155 yX7_allKnow ∈ Tb := Tb_at 1068 (by decide +kernel) (by decide +kernel)
theorem lk_RL_55 : Cond.methodLink RL 55 yX7_now ∈ Tb := Tb_at 1072 (by decide +kernel) (by decide +kernel)
theorem lk_RX7_158 : Cond.methodLink RX7 158 yX7_allHands ∈ Tb := Tb_at 1076 (by decide +kernel) (by decide +kernel)
theorem lk_RX7_161 : Cond.methodLink RX7 161 yX7_allDrawn ∈ Tb := Tb_at 1080 (by decide +kernel) (by decide +kernel)
theorem lk_RX7_164 : Cond.methodLink RX7 164 yX7_wisest ∈ Tb := Tb_at 1084 (by decide +kernel) (by decide +kernel)
theorem lk_RL_59 : Cond.methodLink RL 59 yX7_ahead ∈ Tb := Tb_at 1088 (by decide +kernel) (by decide +kernel)
theorem kc_RX7_171 : Cond.constantLong RX7 171 (100) ∈ Tb := Tb_at 1092 (by decide +kernel) (by decide +kernel)
theorem lk_RX7_167 : Cond.methodLink RX7 167 yX7_copies ∈ Tb := Tb_at 1093 (by decide +kernel) (by decide +kernel)
theorem lk_RX7_173 : Cond.methodLink RX7 173 yX7_behind ∈ Tb := Tb_at 1096 (by decide +kernel) (by decide +kernel)
theorem lk_RL_63 : Cond.methodLink RL 63 yX7_hears ∈ Tb := Tb_at 1100 (by decide +kernel) (by decide +kernel)
theorem lk_RL_67 : Cond.methodLink RL 67 yX7_wise ∈ Tb := Tb_at 1104 (by decide +kernel) (by decide +kernel)
theorem kc_RX7_176 : Cond.constantLong RX7 176 (16) ∈ Tb := Tb_at 1108 (by decide +kernel) (by decide +kernel)
theorem lk_RL_71 : Cond.methodLink RL 71 yX7_out ∈ Tb := Tb_at 1109 (by decide +kernel) (by decide +kernel)
theorem lk_RX7_178 : Cond.methodLink RX7 178 yX7_areTopics ∈ Tb := Tb_at 1113 (by decide +kernel) (by decide +kernel)
theorem kc_RX7_48 : Cond.constantLong RX7 48 (65535) ∈ Tb := Tb_at 1116 (by decide +kernel) (by decide +kernel)
theorem lk_RX7_181 : Cond.methodLink RX7 181 yX7_areKnown ∈ Tb := Tb_at 1117 (by decide +kernel) (by decide +kernel)
theorem lk_RL_75 : Cond.methodLink RL 75 yX7_leave ∈ Tb := Tb_at 1121 (by decide +kernel) (by decide +kernel)
theorem lk_RX7_184 : Cond.methodLink RX7 184 yX7_bestOf ∈ Tb := Tb_at 1125 (by decide +kernel) (by decide +kernel)
theorem lk_RL_79 : Cond.methodLink RL 79 yX7_openFor ∈ Tb := Tb_at 1129 (by decide +kernel) (by decide +kernel)
theorem lk_RL_83 : Cond.methodLink RL 83 yX7_kindFor ∈ Tb := Tb_at 1133 (by decide +kernel) (by decide +kernel)
theorem lk_RL_87 : Cond.methodLink RL 87 yX7_lower ∈ Tb := Tb_at 1137 (by decide +kernel) (by decide +kernel)
theorem lk_RL_91 : Cond.methodLink RL 91 yX7_cover ∈ Tb := Tb_at 1141 (by decide +kernel) (by decide +kernel)
theorem lk_RL_95 : Cond.methodLink RL 95 yX7_away ∈ Tb := Tb_at 1145 (by decide +kernel) (by decide +kernel)
theorem kc_RX7_188 : Cond.constantLong RX7 188 (20) ∈ Tb := Tb_at 1149 (by decide +kernel) (by decide +kernel)
theorem lk_RL_99 : Cond.methodLink RL 99 yX7_fits ∈ Tb := Tb_at 1150 (by decide +kernel) (by decide +kernel)
theorem lk_RX7_193 : Cond.methodLink RX7 193 yX7_whyNot ∈ Tb := Tb_at 1154 (by decide +kernel) (by decide +kernel)
theorem lk_RX7_190 : Cond.methodLink RX7 190 yX7_whyNone ∈ Tb := Tb_at 1158 (by decide +kernel) (by decide +kernel)
theorem lk_RX7_309 : Cond.methodLink RX7 309 yX7_isSheet ∈ Tb := Tb_at 1162 (by decide +kernel) (by decide +kernel)
theorem lk_RX7_196 : Cond.methodLink RX7 196 yX7_fitting ∈ Tb := Tb_at 1165 (by decide +kernel) (by decide +kernel)
theorem lk_RL_103 : Cond.methodLink RL 103 yX7_kinds ∈ Tb := Tb_at 1169 (by decide +kernel) (by decide +kernel)
theorem lk_RL_107 : Cond.methodLink RL 107 yX7_talk ∈ Tb := Tb_at 1173 (by decide +kernel) (by decide +kernel)
theorem lk_RX7_200 : Cond.methodLink RX7 200 yX7_drawOne ∈ Tb := Tb_at 1177 (by decide +kernel) (by decide +kernel)
theorem kc_RX7_199 : Cond.constant RX7 199 (1103515245) ∈ Tb := Tb_at 1181 (by decide +kernel) (by decide +kernel)
theorem lk_RL_112 : Cond.methodLink RL 112 yX7_odds ∈ Tb := Tb_at 1182 (by decide +kernel) (by decide +kernel)
theorem lk_RL_116 : Cond.methodLink RL 116 yX7_seed ∈ Tb := Tb_at 1186 (by decide +kernel) (by decide +kernel)
theorem lk_RL_120 : Cond.methodLink RL 120 yX7_feed ∈ Tb := Tb_at 1190 (by decide +kernel) (by decide +kernel)
theorem kc_RX7_203 : Cond.constantLong RX7 203 (4) ∈ Tb := Tb_at 1194 (by decide +kernel) (by decide +kernel)
theorem lk_RL_125 : Cond.methodLink RL 125 yX7_wipe ∈ Tb := Tb_at 1195 (by decide +kernel) (by decide +kernel)
theorem lk_RL_129 : Cond.methodLink RL 129 yX7_text ∈ Tb := Tb_at 1199 (by decide +kernel) (by decide +kernel)
theorem lk_RX7_299 : Cond.methodLink RX7 299 yX7_items ∈ Tb := Tb_at 1203 (by decide +kernel) (by decide +kernel)
theorem lk_RX7_262 : Cond.methodLink RX7 262 yX7_next ∈ Tb := Tb_at 1207 (by decide +kernel) (by decide +kernel)
theorem lk_RX7_211 : Cond.methodLink RX7 211 yX7_byteAt ∈ Tb := Tb_at 1211 (by decide +kernel) (by decide +kernel)
theorem lk_RX7_224 : Cond.methodLink RX7 224 yX7_letter ∈ Tb := Tb_at 1215 (by decide +kernel) (by decide +kernel)
theorem kc_RX7_227 : Cond.constantLong RX7 227 (100000000000000000) ∈ Tb := Tb_at 1218 (by decide +kernel) (by decide +kernel)
theorem kc_RX7_229 : Cond.constantLong RX7 229 (27) ∈ Tb := Tb_at 1219 (by decide +kernel) (by decide +kernel)
theorem lk_RX7_231 : Cond.methodLink RX7 231 yX7_isDigit ∈ Tb := Tb_at 1220 (by decide +kernel) (by decide +kernel)
theorem kc_RX7_234 : Cond.constantLong RX7 234 (99999) ∈ Tb := Tb_at 1223 (by decide +kernel) (by decide +kernel)
theorem kc_RX7_236 : Cond.constantLong RX7 236 (48) ∈ Tb := Tb_at 1224 (by decide +kernel) (by decide +kernel)
theorem lk_RX7_296 : Cond.methodLink RX7 296 yX7_item ∈ Tb := Tb_at 1225 (by decide +kernel) (by decide +kernel)
theorem lk_RX7_280 : Cond.methodLink RX7 280 yX7_kindHere ∈ Tb := Tb_at 1229 (by decide +kernel) (by decide +kernel)
theorem kc_RX7_241 : Cond.constantLong RX7 241 (3967817) ∈ Tb := Tb_at 1233 (by decide +kernel) (by decide +kernel)
theorem lk_RX7_243 : Cond.methodLink RX7 243 yX7_isWord ∈ Tb := Tb_at 1234 (by decide +kernel) (by decide +kernel)
theorem kc_RX7_247 : Cond.constantLong RX7 247 (4393273559) ∈ Tb := Tb_at 1238 (by decide +kernel) (by decide +kernel)
theorem kc_RX7_249 : Cond.constantLong RX7 249 (191727149) ∈ Tb := Tb_at 1239 (by decide +kernel) (by decide +kernel)
theorem kc_RX7_251 : Cond.constantLong RX7 251 (237058) ∈ Tb := Tb_at 1240 (by decide +kernel) (by decide +kernel)
theorem kc_RX7_253 : Cond.constantLong RX7 253 (1489745) ∈ Tb := Tb_at 1241 (by decide +kernel) (by decide +kernel)
theorem kc_RX7_255 : Cond.constantLong RX7 255 (10497768) ∈ Tb := Tb_at 1242 (by decide +kernel) (by decide +kernel)
theorem kc_RX7_257 : Cond.constantLong RX7 257 (65782373) ∈ Tb := Tb_at 1243 (by decide +kernel) (by decide +kernel)
theorem lk_RX7_283 : Cond.methodLink RX7 283 yX7_gloveHere ∈ Tb := Tb_at 1244 (by decide +kernel) (by decide +kernel)
theorem lk_RX7_259 : Cond.methodLink RX7 259 yX7_wrongHere ∈ Tb := Tb_at 1248 (by decide +kernel) (by decide +kernel)
theorem kc_RX7_268 : Cond.constantLong RX7 268 (257) ∈ Tb := Tb_at 1252 (by decide +kernel) (by decide +kernel)
theorem lk_RX7_270 : Cond.methodLink RX7 270 yX7_perhaps ∈ Tb := Tb_at 1253 (by decide +kernel) (by decide +kernel)
theorem lk_RX7_265 : Cond.methodLink RX7 265 yX7_numberHere ∈ Tb := Tb_at 1257 (by decide +kernel) (by decide +kernel)
theorem kc_RX7_274 : Cond.constantLong RX7 274 (307058) ∈ Tb := Tb_at 1261 (by decide +kernel) (by decide +kernel)
theorem kc_RX7_276 : Cond.constantLong RX7 276 (6132988) ∈ Tb := Tb_at 1262 (by decide +kernel) (by decide +kernel)
theorem kc_RX7_278 : Cond.constantLong RX7 278 (242911) ∈ Tb := Tb_at 1263 (by decide +kernel) (by decide +kernel)
theorem kc_RX7_286 : Cond.constantLong RX7 286 (374953) ∈ Tb := Tb_at 1264 (by decide +kernel) (by decide +kernel)
theorem lk_RX7_288 : Cond.methodLink RX7 288 yX7_saidHere ∈ Tb := Tb_at 1265 (by decide +kernel) (by decide +kernel)
theorem kc_RX7_291 : Cond.constantLong RX7 291 (158575) ∈ Tb := Tb_at 1269 (by decide +kernel) (by decide +kernel)
theorem lk_RX7_293 : Cond.methodLink RX7 293 yX7_handHere ∈ Tb := Tb_at 1270 (by decide +kernel) (by decide +kernel)
theorem lk_RL_133 : Cond.methodLink RL 133 yX7_hold ∈ Tb := Tb_at 1274 (by decide +kernel) (by decide +kernel)
theorem kc_RX7_302 : Cond.constantLong RX7 302 (9) ∈ Tb := Tb_at 1278 (by decide +kernel) (by decide +kernel)
theorem kc_RX7_304 : Cond.constantLong RX7 304 (-1) ∈ Tb := Tb_at 1279 (by decide +kernel) (by decide +kernel)
theorem lk_RL_137 : Cond.methodLink RL 137 yX7_as ∈ Tb := Tb_at 1280 (by decide +kernel) (by decide +kernel)
theorem lk_RX7_306 : Cond.methodLink RX7 306 yX7_above ∈ Tb := Tb_at 1284 (by decide +kernel) (by decide +kernel)
theorem lk_RL_141 : Cond.methodLink RL 141 yX7_sheet ∈ Tb := Tb_at 1287 (by decide +kernel) (by decide +kernel)
theorem lk_RL_145 : Cond.methodLink RL 145 yX7_write ∈ Tb := Tb_at 1291 (by decide +kernel) (by decide +kernel)
theorem lk_RL_150 : Cond.methodLink RL 150 yX7_copy ∈ Tb := Tb_at 1295 (by decide +kernel) (by decide +kernel)
theorem lk_RL_154 : Cond.methodLink RL 154 yX7_load ∈ Tb := Tb_at 1299 (by decide +kernel) (by decide +kernel)
theorem lk_RL_158 : Cond.methodLink RL 158 yX7_judge ∈ Tb := Tb_at 1303 (by decide +kernel) (by decide +kernel)
theorem lk_RL_162 : Cond.methodLink RL 162 yX7_image ∈ Tb := Tb_at 1307 (by decide +kernel) (by decide +kernel)
theorem lk_RL_166 : Cond.methodLink RL 166 yX7_undo ∈ Tb := Tb_at 1311 (by decide +kernel) (by decide +kernel)
theorem lk_RL_170 : Cond.methodLink RL 170 yX7_tear ∈ Tb := Tb_at 1315 (by decide +kernel) (by decide +kernel)
theorem lk_RL_174 : Cond.methodLink RL 174 yX7_count ∈ Tb := Tb_at 1319 (by decide +kernel) (by decide +kernel)
theorem lk_RX7_316 : Cond.methodLink RX7 316 yX7_holding ∈ Tb := Tb_at 1323 (by decide +kernel) (by decide +kernel)
theorem lk_RL_178 : Cond.methodLink RL 178 yX7_status ∈ Tb := Tb_at 1327 (by decide +kernel) (by decide +kernel)
theorem fs_RJ0_9 : Cond.fieldLink RJ0 9 "java/lang/String" "value" "[B" ∈ Tb := Tb_at 1331 (by decide +kernel) (by decide +kernel)
theorem fs_RJ0_15 : Cond.fieldLink RJ0 15 "java/lang/String" "coder" "B" ∈ Tb := Tb_at 1332 (by decide +kernel) (by decide +kernel)
theorem kcode_yX0_init : Cond.code yX0_init cX0_init 2 none ∈ Tb := Tb_at 91 (by decide +kernel) (by decide +kernel)
theorem kinst_yX0_init : Cond.instanceMethod yX0_init ∈ Tb := Tb_at 90 (by decide +kernel) (by decide +kernel)
theorem kyd_yX0_init : gYd yX0_init 0 := ⟨by decide +kernel, by decide +kernel, by decide +kernel⟩
theorem ky_yX0_become : gYV yX0_become cX0_become 3 none 1 0 := ⟨Tb_at 498 (by decide +kernel) (by decide +kernel), Tb_at 65 (by decide +kernel) (by decide +kernel), Tb_at 496 (by decide +kernel) (by decide +kernel), Tb_at 497 (by decide +kernel) (by decide +kernel), ⟨by decide +kernel, by decide +kernel, by decide +kernel⟩, (RX0, TX0, 6), rfl, rfl⟩
theorem ky_yX0_has : gYV yX0_has cX0_has 2 (some .boolean) 1 0 := ⟨Tb_at 333 (by decide +kernel) (by decide +kernel), Tb_at 65 (by decide +kernel) (by decide +kernel), Tb_at 331 (by decide +kernel) (by decide +kernel), Tb_at 332 (by decide +kernel) (by decide +kernel), ⟨by decide +kernel, by decide +kernel, by decide +kernel⟩, (RX0, TX0, 6), rfl, rfl⟩
theorem ky_yX0_putDown : gYV yX0_putDown cX0_putDown 3 (some .int) 2 0 := ⟨Tb_at 321 (by decide +kernel) (by decide +kernel), Tb_at 65 (by decide +kernel) (by decide +kernel), Tb_at 319 (by decide +kernel) (by decide +kernel), Tb_at 320 (by decide +kernel) (by decide +kernel), ⟨by decide +kernel, by decide +kernel, by decide +kernel⟩, (RX0, TX0, 6), rfl, rfl⟩
theorem ky_yX0_lyingIn : gYV yX0_lyingIn cX0_lyingIn 5 (some .int) 2 0 := ⟨Tb_at 289 (by decide +kernel) (by decide +kernel), Tb_at 65 (by decide +kernel) (by decide +kernel), Tb_at 287 (by decide +kernel) (by decide +kernel), Tb_at 288 (by decide +kernel) (by decide +kernel), ⟨by decide +kernel, by decide +kernel, by decide +kernel⟩, (RX0, TX0, 6), rfl, rfl⟩
theorem ky_yX0_hushOf : gYV yX0_hushOf cX0_hushOf 4 (some .int) 1 0 := ⟨Tb_at 293 (by decide +kernel) (by decide +kernel), Tb_at 65 (by decide +kernel) (by decide +kernel), Tb_at 291 (by decide +kernel) (by decide +kernel), Tb_at 292 (by decide +kernel) (by decide +kernel), ⟨by decide +kernel, by decide +kernel, by decide +kernel⟩, (RX0, TX0, 6), rfl, rfl⟩
theorem ky_yX0_knownBy : gYV yX0_knownBy cX0_knownBy 4 (some .int) 1 0 := ⟨Tb_at 304 (by decide +kernel) (by decide +kernel), Tb_at 65 (by decide +kernel) (by decide +kernel), Tb_at 302 (by decide +kernel) (by decide +kernel), Tb_at 303 (by decide +kernel) (by decide +kernel), ⟨by decide +kernel, by decide +kernel, by decide +kernel⟩, (RX0, TX0, 6), rfl, rfl⟩
theorem ky_yX0_knownByHandsOf : gYV yX0_knownByHandsOf cX0_knownByHandsOf 4 (some .int) 1 0 := ⟨Tb_at 465 (by decide +kernel) (by decide +kernel), Tb_at 65 (by decide +kernel) (by decide +kernel), Tb_at 463 (by decide +kernel) (by decide +kernel), Tb_at 464 (by decide +kernel) (by decide +kernel), ⟨by decide +kernel, by decide +kernel, by decide +kernel⟩, (RX0, TX0, 6), rfl, rfl⟩
theorem ky_yX0_knownByGloves : gYV yX0_knownByGloves cX0_knownByGloves 1 (some .int) 0 0 := ⟨Tb_at 448 (by decide +kernel) (by decide +kernel), Tb_at 65 (by decide +kernel) (by decide +kernel), Tb_at 446 (by decide +kernel) (by decide +kernel), Tb_at 447 (by decide +kernel) (by decide +kernel), ⟨by decide +kernel, by decide +kernel, by decide +kernel⟩, (RX0, TX0, 6), rfl, rfl⟩
theorem ky_yX0_knownByHands : gYV yX0_knownByHands cX0_knownByHands 1 (some .int) 0 0 := ⟨Tb_at 461 (by decide +kernel) (by decide +kernel), Tb_at 65 (by decide +kernel) (by decide +kernel), Tb_at 459 (by decide +kernel) (by decide +kernel), Tb_at 460 (by decide +kernel) (by decide +kernel), ⟨by decide +kernel, by decide +kernel, by decide +kernel⟩, (RX0, TX0, 6), rfl, rfl⟩
theorem ky_yX0_knownToAnyone : gYV yX0_knownToAnyone cX0_knownToAnyone 1 (some .int) 0 0 := ⟨Tb_at 470 (by decide +kernel) (by decide +kernel), Tb_at 65 (by decide +kernel) (by decide +kernel), Tb_at 468 (by decide +kernel) (by decide +kernel), Tb_at 469 (by decide +kernel) (by decide +kernel), ⟨by decide +kernel, by decide +kernel, by decide +kernel⟩, (RX0, TX0, 6), rfl, rfl⟩
theorem ky_yX0_everyone : gYV yX0_everyone cX0_everyone 1 (some .int) 0 0 := ⟨Tb_at 452 (by decide +kernel) (by decide +kernel), Tb_at 65 (by decide +kernel) (by decide +kernel), Tb_at 450 (by decide +kernel) (by decide +kernel), Tb_at 451 (by decide +kernel) (by decide +kernel), ⟨by decide +kernel, by decide +kernel, by decide +kernel⟩, (RX0, TX0, 6), rfl, rfl⟩
theorem ky_yX0_whoKnows : gYV yX0_whoKnows cX0_whoKnows 5 (some .int) 2 0 := ⟨Tb_at 398 (by decide +kernel) (by decide +kernel), Tb_at 65 (by decide +kernel) (by decide +kernel), Tb_at 396 (by decide +kernel) (by decide +kernel), Tb_at 397 (by decide +kernel) (by decide +kernel), ⟨by decide +kernel, by decide +kernel, by decide +kernel⟩, (RX0, TX0, 6), rfl, rfl⟩
theorem ky_yX0_saidIn : gYV yX0_saidIn cX0_saidIn 4 (some .int) 1 0 := ⟨Tb_at 308 (by decide +kernel) (by decide +kernel), Tb_at 65 (by decide +kernel) (by decide +kernel), Tb_at 306 (by decide +kernel) (by decide +kernel), Tb_at 307 (by decide +kernel) (by decide +kernel), ⟨by decide +kernel, by decide +kernel, by decide +kernel⟩, (RX0, TX0, 6), rfl, rfl⟩
theorem ky_yX0_drawnInAll : gYV yX0_drawnInAll cX0_drawnInAll 3 (some .int) 0 0 := ⟨Tb_at 476 (by decide +kernel) (by decide +kernel), Tb_at 65 (by decide +kernel) (by decide +kernel), Tb_at 474 (by decide +kernel) (by decide +kernel), Tb_at 475 (by decide +kernel) (by decide +kernel), ⟨by decide +kernel, by decide +kernel, by decide +kernel⟩, (RX0, TX0, 6), rfl, rfl⟩
theorem ky_yX0_topicsInHand : gYV yX0_topicsInHand cX0_topicsInHand 2 (some .int) 1 0 := ⟨Tb_at 484 (by decide +kernel) (by decide +kernel), Tb_at 65 (by decide +kernel) (by decide +kernel), Tb_at 482 (by decide +kernel) (by decide +kernel), Tb_at 483 (by decide +kernel) (by decide +kernel), ⟨by decide +kernel, by decide +kernel, by decide +kernel⟩, (RX0, TX0, 6), rfl, rfl⟩
theorem ky_yX0_wisest : gYV yX0_wisest cX0_wisest 5 (some .int) 0 0 := ⟨Tb_at 480 (by decide +kernel) (by decide +kernel), Tb_at 65 (by decide +kernel) (by decide +kernel), Tb_at 478 (by decide +kernel) (by decide +kernel), Tb_at 479 (by decide +kernel) (by decide +kernel), ⟨by decide +kernel, by decide +kernel, by decide +kernel⟩, (RX0, TX0, 6), rfl, rfl⟩
theorem ky_yX0_spotsThatHold : gYV yX0_spotsThatHold cX0_spotsThatHold 3 (some .int) 0 0 := ⟨Tb_at 855 (by decide +kernel) (by decide +kernel), Tb_at 65 (by decide +kernel) (by decide +kernel), Tb_at 853 (by decide +kernel) (by decide +kernel), Tb_at 854 (by decide +kernel) (by decide +kernel), ⟨by decide +kernel, by decide +kernel, by decide +kernel⟩, (RX0, TX0, 6), rfl, rfl⟩
theorem ky_yX0_needOf : gYV yX0_needOf cX0_needOf 3 (some .int) 1 0 := ⟨Tb_at 338 (by decide +kernel) (by decide +kernel), Tb_at 65 (by decide +kernel) (by decide +kernel), Tb_at 336 (by decide +kernel) (by decide +kernel), Tb_at 337 (by decide +kernel) (by decide +kernel), ⟨by decide +kernel, by decide +kernel, by decide +kernel⟩, (RX0, TX0, 6), rfl, rfl⟩
theorem ky_yX0_hearersOf : gYV yX0_hearersOf cX0_hearersOf 8 (some .int) 2 0 := ⟨Tb_at 422 (by decide +kernel) (by decide +kernel), Tb_at 65 (by decide +kernel) (by decide +kernel), Tb_at 420 (by decide +kernel) (by decide +kernel), Tb_at 421 (by decide +kernel) (by decide +kernel), ⟨by decide +kernel, by decide +kernel, by decide +kernel⟩, (RX0, TX0, 6), rfl, rfl⟩
theorem ky_yX0_placeOfToday : gYV yX0_placeOfToday cX0_placeOfToday 1 (some .int) 0 0 := ⟨Tb_at 415 (by decide +kernel) (by decide +kernel), Tb_at 65 (by decide +kernel) (by decide +kernel), Tb_at 413 (by decide +kernel) (by decide +kernel), Tb_at 414 (by decide +kernel) (by decide +kernel), ⟨by decide +kernel, by decide +kernel, by decide +kernel⟩, (RX0, TX0, 6), rfl, rfl⟩
theorem ky_yX0_passDays : gYV yX0_passDays cX0_passDays 4 none 2 0 := ⟨Tb_at 407 (by decide +kernel) (by decide +kernel), Tb_at 65 (by decide +kernel) (by decide +kernel), Tb_at 405 (by decide +kernel) (by decide +kernel), Tb_at 406 (by decide +kernel) (by decide +kernel), ⟨by decide +kernel, by decide +kernel, by decide +kernel⟩, (RX0, TX0, 6), rfl, rfl⟩
theorem ky_yX0_passDay : gYV yX0_passDay cX0_passDay 5 none 1 0 := ⟨Tb_at 411 (by decide +kernel) (by decide +kernel), Tb_at 65 (by decide +kernel) (by decide +kernel), Tb_at 409 (by decide +kernel) (by decide +kernel), Tb_at 410 (by decide +kernel) (by decide +kernel), ⟨by decide +kernel, by decide +kernel, by decide +kernel⟩, (RX0, TX0, 6), rfl, rfl⟩
theorem ky_yX0_drawSaying : gYV yX0_drawSaying cX0_drawSaying 4 none 0 0 := ⟨Tb_at 607 (by decide +kernel) (by decide +kernel), Tb_at 65 (by decide +kernel) (by decide +kernel), Tb_at 605 (by decide +kernel) (by decide +kernel), Tb_at 606 (by decide +kernel) (by decide +kernel), ⟨by decide +kernel, by decide +kernel, by decide +kernel⟩, (RX0, TX0, 6), rfl, rfl⟩
theorem ky_yX0_nextDraw : gYV yX0_nextDraw cX0_nextDraw 1 (some .int) 0 0 := ⟨Tb_at 611 (by decide +kernel) (by decide +kernel), Tb_at 65 (by decide +kernel) (by decide +kernel), Tb_at 609 (by decide +kernel) (by decide +kernel), Tb_at 610 (by decide +kernel) (by decide +kernel), ⟨by decide +kernel, by decide +kernel, by decide +kernel⟩, (RX0, TX0, 6), rfl, rfl⟩
theorem kcode_yX1_init : Cond.code yX1_init cX1_init 1 none ∈ Tb := Tb_at 98 (by decide +kernel) (by decide +kernel)
theorem kinst_yX1_init : Cond.instanceMethod yX1_init ∈ Tb := Tb_at 97 (by decide +kernel) (by decide +kernel)
theorem kyd_yX1_init : gYd yX1_init 0 := ⟨by decide +kernel, by decide +kernel, by decide +kernel⟩
theorem ky_yX1_mostOf : gYS yX1_mostOf cX1_mostOf 1 (some .int) 1 := ⟨Tb_at 371 (by decide +kernel) (by decide +kernel), Tb_at 66 (by decide +kernel) (by decide +kernel), Tb_at 370 (by decide +kernel) (by decide +kernel), ⟨by decide +kernel, by decide +kernel, by decide +kernel⟩⟩
theorem ky_yX1_beNew : gYV yX1_beNew cX1_beNew 3 none 2 1 := ⟨Tb_at 325 (by decide +kernel) (by decide +kernel), Tb_at 66 (by decide +kernel) (by decide +kernel), Tb_at 323 (by decide +kernel) (by decide +kernel), Tb_at 324 (by decide +kernel) (by decide +kernel), ⟨by decide +kernel, by decide +kernel, by decide +kernel⟩, (RX1, TX1, 7), rfl, rfl⟩
theorem ky_yX1_become : gYV yX1_become cX1_become 2 none 1 1 := ⟨Tb_at 502 (by decide +kernel) (by decide +kernel), Tb_at 66 (by decide +kernel) (by decide +kernel), Tb_at 500 (by decide +kernel) (by decide +kernel), Tb_at 501 (by decide +kernel) (by decide +kernel), ⟨by decide +kernel, by decide +kernel, by decide +kernel⟩, (RX1, TX1, 7), rfl, rfl⟩
theorem ky_yX1_trait : gYV yX1_trait cX1_trait 2 (some .int) 1 1 := ⟨Tb_at 350 (by decide +kernel) (by decide +kernel), Tb_at 66 (by decide +kernel) (by decide +kernel), Tb_at 348 (by decide +kernel) (by decide +kernel), Tb_at 349 (by decide +kernel) (by decide +kernel), ⟨by decide +kernel, by decide +kernel, by decide +kernel⟩, (RX1, TX1, 7), rfl, rfl⟩
theorem ky_yX1_setTrait : gYV yX1_setTrait cX1_setTrait 3 none 2 1 := ⟨Tb_at 377 (by decide +kernel) (by decide +kernel), Tb_at 66 (by decide +kernel) (by decide +kernel), Tb_at 375 (by decide +kernel) (by decide +kernel), Tb_at 376 (by decide +kernel) (by decide +kernel), ⟨by decide +kernel, by decide +kernel, by decide +kernel⟩, (RX1, TX1, 7), rfl, rfl⟩
theorem ky_yX1_needs : gYV yX1_needs cX1_needs 5 (some .int) 1 1 := ⟨Tb_at 343 (by decide +kernel) (by decide +kernel), Tb_at 66 (by decide +kernel) (by decide +kernel), Tb_at 341 (by decide +kernel) (by decide +kernel), Tb_at 342 (by decide +kernel) (by decide +kernel), ⟨by decide +kernel, by decide +kernel, by decide +kernel⟩, (RX1, TX1, 7), rfl, rfl⟩
theorem ky_yX1_hushes : gYV yX1_hushes cX1_hushes 1 (some .int) 0 1 := ⟨Tb_at 300 (by decide +kernel) (by decide +kernel), Tb_at 66 (by decide +kernel) (by decide +kernel), Tb_at 298 (by decide +kernel) (by decide +kernel), Tb_at 299 (by decide +kernel) (by decide +kernel), ⟨by decide +kernel, by decide +kernel, by decide +kernel⟩, (RX1, TX1, 7), rfl, rfl⟩
theorem ky_yX1_stays : gYV yX1_stays cX1_stays 1 (some .int) 0 1 := ⟨Tb_at 355 (by decide +kernel) (by decide +kernel), Tb_at 66 (by decide +kernel) (by decide +kernel), Tb_at 353 (by decide +kernel) (by decide +kernel), Tb_at 354 (by decide +kernel) (by decide +kernel), ⟨by decide +kernel, by decide +kernel, by decide +kernel⟩, (RX1, TX1, 7), rfl, rfl⟩
theorem ky_yX1_keeps : gYV yX1_keeps cX1_keeps 1 (some .int) 0 1 := ⟨Tb_at 362 (by decide +kernel) (by decide +kernel), Tb_at 66 (by decide +kernel) (by decide +kernel), Tb_at 360 (by decide +kernel) (by decide +kernel), Tb_at 361 (by decide +kernel) (by decide +kernel), ⟨by decide +kernel, by decide +kernel, by decide +kernel⟩, (RX1, TX1, 7), rfl, rfl⟩
theorem ky_yX1_isA : gYV yX1_isA cX1_isA 4 (some .boolean) 1 1 := ⟨Tb_at 797 (by decide +kernel) (by decide +kernel), Tb_at 66 (by decide +kernel) (by decide +kernel), Tb_at 795 (by decide +kernel) (by decide +kernel), Tb_at 796 (by decide +kernel) (by decide +kernel), ⟨by decide +kernel, by decide +kernel, by decide +kernel⟩, (RX1, TX1, 7), rfl, rfl⟩
theorem ky_yX1_takeIn : gYV yX1_takeIn cX1_takeIn 4 none 1 1 := ⟨Tb_at 431 (by decide +kernel) (by decide +kernel), Tb_at 66 (by decide +kernel) (by decide +kernel), Tb_at 429 (by decide +kernel) (by decide +kernel), Tb_at 430 (by decide +kernel) (by decide +kernel), ⟨by decide +kernel, by decide +kernel, by decide +kernel⟩, (RX1, TX1, 7), rfl, rfl⟩
theorem ky_yX1_lieOneDay : gYV yX1_lieOneDay cX1_lieOneDay 2 none 0 1 := ⟨Tb_at 441 (by decide +kernel) (by decide +kernel), Tb_at 66 (by decide +kernel) (by decide +kernel), Tb_at 439 (by decide +kernel) (by decide +kernel), Tb_at 440 (by decide +kernel) (by decide +kernel), ⟨by decide +kernel, by decide +kernel, by decide +kernel⟩, (RX1, TX1, 7), rfl, rfl⟩
theorem ky_yX1_beDrawnOn : gYV yX1_beDrawnOn cX1_beDrawnOn 1 none 0 1 := ⟨Tb_at 387 (by decide +kernel) (by decide +kernel), Tb_at 66 (by decide +kernel) (by decide +kernel), Tb_at 385 (by decide +kernel) (by decide +kernel), Tb_at 386 (by decide +kernel) (by decide +kernel), ⟨by decide +kernel, by decide +kernel, by decide +kernel⟩, (RX1, TX1, 7), rfl, rfl⟩
theorem kcode_yX2_init : Cond.code yX2_init cX2_init 1 none ∈ Tb := Tb_at 220 (by decide +kernel) (by decide +kernel)
theorem kinst_yX2_init : Cond.instanceMethod yX2_init ∈ Tb := Tb_at 219 (by decide +kernel) (by decide +kernel)
theorem kyd_yX2_init : gYd yX2_init 0 := ⟨by decide +kernel, by decide +kernel, by decide +kernel⟩
theorem ky_yX2_isMissing : gYV yX2_isMissing cX2_isMissing 1 (some .boolean) 0 2 := ⟨Tb_at 590 (by decide +kernel) (by decide +kernel), Tb_at 70 (by decide +kernel) (by decide +kernel), Tb_at 588 (by decide +kernel) (by decide +kernel), Tb_at 589 (by decide +kernel) (by decide +kernel), ⟨by decide +kernel, by decide +kernel, by decide +kernel⟩, (RX2, TX2, 3), rfl, rfl⟩
theorem ky_yX2_layOut : gYV yX2_layOut cX2_layOut 4 none 2 2 := ⟨Tb_at 809 (by decide +kernel) (by decide +kernel), Tb_at 70 (by decide +kernel) (by decide +kernel), Tb_at 807 (by decide +kernel) (by decide +kernel), Tb_at 808 (by decide +kernel) (by decide +kernel), ⟨by decide +kernel, by decide +kernel, by decide +kernel⟩, (RX2, TX2, 3), rfl, rfl⟩
theorem ky_yX2_setNumber : gYV yX2_setNumber cX2_setNumber 3 none 2 2 := ⟨Tb_at 817 (by decide +kernel) (by decide +kernel), Tb_at 70 (by decide +kernel) (by decide +kernel), Tb_at 815 (by decide +kernel) (by decide +kernel), Tb_at 816 (by decide +kernel) (by decide +kernel), ⟨by decide +kernel, by decide +kernel, by decide +kernel⟩, (RX2, TX2, 3), rfl, rfl⟩
theorem ky_yX2_hasRow : gYV yX2_hasRow cX2_hasRow 3 (some .boolean) 2 2 := ⟨Tb_at 825 (by decide +kernel) (by decide +kernel), Tb_at 70 (by decide +kernel) (by decide +kernel), Tb_at 823 (by decide +kernel) (by decide +kernel), Tb_at 824 (by decide +kernel) (by decide +kernel), ⟨by decide +kernel, by decide +kernel, by decide +kernel⟩, (RX2, TX2, 3), rfl, rfl⟩
theorem kcode_yX3_init : Cond.code yX3_init cX3_init 1 none ∈ Tb := Tb_at 165 (by decide +kernel) (by decide +kernel)
theorem kinst_yX3_init : Cond.instanceMethod yX3_init ∈ Tb := Tb_at 164 (by decide +kernel) (by decide +kernel)
theorem kyd_yX3_init : gYd yX3_init 0 := ⟨by decide +kernel, by decide +kernel, by decide +kernel⟩
theorem ky_yX3_append : gYV yX3_append cX3_append 2 none 1 3 := ⟨Tb_at 631 (by decide +kernel) (by decide +kernel), Tb_at 67 (by decide +kernel) (by decide +kernel), Tb_at 629 (by decide +kernel) (by decide +kernel), Tb_at 630 (by decide +kernel) (by decide +kernel), ⟨by decide +kernel, by decide +kernel, by decide +kernel⟩, (RX3, TX3, 2), rfl, rfl⟩
theorem ky_yX3_byteAt : gYV yX3_byteAt cX3_byteAt 2 (some .int) 1 3 := ⟨Tb_at 651 (by decide +kernel) (by decide +kernel), Tb_at 67 (by decide +kernel) (by decide +kernel), Tb_at 649 (by decide +kernel) (by decide +kernel), Tb_at 650 (by decide +kernel) (by decide +kernel), ⟨by decide +kernel, by decide +kernel, by decide +kernel⟩, (RX3, TX3, 2), rfl, rfl⟩
theorem ky_yX3_spells : gYV yX3_spells cX3_spells 5 (some .boolean) 3 3 := ⟨Tb_at 690 (by decide +kernel) (by decide +kernel), Tb_at 67 (by decide +kernel) (by decide +kernel), Tb_at 688 (by decide +kernel) (by decide +kernel), Tb_at 689 (by decide +kernel) (by decide +kernel), ⟨by decide +kernel, by decide +kernel, by decide +kernel⟩, (RX3, TX3, 2), rfl, rfl⟩
theorem kcode_yX4_init : Cond.code yX4_init cX4_init 1 none ∈ Tb := Tb_at 181 (by decide +kernel) (by decide +kernel)
theorem kinst_yX4_init : Cond.instanceMethod yX4_init ∈ Tb := Tb_at 180 (by decide +kernel) (by decide +kernel)
theorem kyd_yX4_init : gYd yX4_init 0 := ⟨by decide +kernel, by decide +kernel, by decide +kernel⟩
theorem ky_yX4_read : gYV yX4_read cX4_read 4 (some .int) 2 4 := ⟨Tb_at 643 (by decide +kernel) (by decide +kernel), Tb_at 68 (by decide +kernel) (by decide +kernel), Tb_at 641 (by decide +kernel) (by decide +kernel), Tb_at 642 (by decide +kernel) (by decide +kernel), ⟨by decide +kernel, by decide +kernel, by decide +kernel⟩, (RX4, TX4, 3), rfl, rfl⟩
theorem ky_yX4_takeItem : gYV yX4_takeItem cX4_takeItem 2 none 1 4 := ⟨Tb_at 743 (by decide +kernel) (by decide +kernel), Tb_at 68 (by decide +kernel) (by decide +kernel), Tb_at 742 (by decide +kernel) (by decide +kernel), Tb_at 12 (by decide +kernel) (by decide +kernel), ⟨by decide +kernel, by decide +kernel, by decide +kernel⟩, (RX4, TX4, 3), rfl, rfl⟩
theorem ky_yX4_takeSaying : gYV yX4_takeSaying cX4_takeSaying 6 none 1 4 := ⟨Tb_at 755 (by decide +kernel) (by decide +kernel), Tb_at 68 (by decide +kernel) (by decide +kernel), Tb_at 754 (by decide +kernel) (by decide +kernel), Tb_at 14 (by decide +kernel) (by decide +kernel), ⟨by decide +kernel, by decide +kernel, by decide +kernel⟩, (RX4, TX4, 3), rfl, rfl⟩
theorem ky_yX4_takeHand : gYV yX4_takeHand cX4_takeHand 4 none 1 4 := ⟨Tb_at 768 (by decide +kernel) (by decide +kernel), Tb_at 68 (by decide +kernel) (by decide +kernel), Tb_at 767 (by decide +kernel) (by decide +kernel), Tb_at 16 (by decide +kernel) (by decide +kernel), ⟨by decide +kernel, by decide +kernel, by decide +kernel⟩, (RX4, TX4, 3), rfl, rfl⟩
theorem ky_yX4_takeGlove : gYV yX4_takeGlove cX4_takeGlove 4 none 1 4 := ⟨Tb_at 773 (by decide +kernel) (by decide +kernel), Tb_at 68 (by decide +kernel) (by decide +kernel), Tb_at 772 (by decide +kernel) (by decide +kernel), Tb_at 17 (by decide +kernel) (by decide +kernel), ⟨by decide +kernel, by decide +kernel, by decide +kernel⟩, (RX4, TX4, 3), rfl, rfl⟩
theorem ky_yX4_takeTrait : gYV yX4_takeTrait cX4_takeTrait 4 none 3 4 := ⟨Tb_at 779 (by decide +kernel) (by decide +kernel), Tb_at 68 (by decide +kernel) (by decide +kernel), Tb_at 778 (by decide +kernel) (by decide +kernel), Tb_at 18 (by decide +kernel) (by decide +kernel), ⟨by decide +kernel, by decide +kernel, by decide +kernel⟩, (RX4, TX4, 3), rfl, rfl⟩
theorem ky_yX4_takeNumber : gYV yX4_takeNumber cX4_takeNumber 3 (some .int) 1 4 := ⟨Tb_at 759 (by decide +kernel) (by decide +kernel), Tb_at 68 (by decide +kernel) (by decide +kernel), Tb_at 758 (by decide +kernel) (by decide +kernel), Tb_at 15 (by decide +kernel) (by decide +kernel), ⟨by decide +kernel, by decide +kernel, by decide +kernel⟩, (RX4, TX4, 3), rfl, rfl⟩
theorem ky_yX4_takes : gYV yX4_takes cX4_takes 2 (some .boolean) 1 4 := ⟨Tb_at 747 (by decide +kernel) (by decide +kernel), Tb_at 68 (by decide +kernel) (by decide +kernel), Tb_at 746 (by decide +kernel) (by decide +kernel), Tb_at 13 (by decide +kernel) (by decide +kernel), ⟨by decide +kernel, by decide +kernel, by decide +kernel⟩, (RX4, TX4, 3), rfl, rfl⟩
theorem kcode_yX5_init : Cond.code yX5_init cX5_init 1 none ∈ Tb := Tb_at 187 (by decide +kernel) (by decide +kernel)
theorem kinst_yX5_init : Cond.instanceMethod yX5_init ∈ Tb := Tb_at 186 (by decide +kernel) (by decide +kernel)
theorem kyd_yX5_init : gYd yX5_init 0 := ⟨by decide +kernel, by decide +kernel, by decide +kernel⟩
theorem ky_yX5_sortAt : gYV yX5_sortAt cX5_sortAt 2 (some .int) 1 5 := ⟨Tb_at 751 (by decide +kernel) (by decide +kernel), Tb_at 69 (by decide +kernel) (by decide +kernel), Tb_at 749 (by decide +kernel) (by decide +kernel), Tb_at 750 (by decide +kernel) (by decide +kernel), ⟨by decide +kernel, by decide +kernel, by decide +kernel⟩, (RX5, TX5, 5), rfl, rfl⟩
theorem ky_yX5_startAt : gYV yX5_startAt cX5_startAt 2 (some .int) 1 5 := ⟨Tb_at 785 (by decide +kernel) (by decide +kernel), Tb_at 69 (by decide +kernel) (by decide +kernel), Tb_at 783 (by decide +kernel) (by decide +kernel), Tb_at 784 (by decide +kernel) (by decide +kernel), ⟨by decide +kernel, by decide +kernel, by decide +kernel⟩, (RX5, TX5, 5), rfl, rfl⟩
theorem ky_yX5_numberAt : gYV yX5_numberAt cX5_numberAt 2 (some .int) 1 5 := ⟨Tb_at 763 (by decide +kernel) (by decide +kernel), Tb_at 69 (by decide +kernel) (by decide +kernel), Tb_at 761 (by decide +kernel) (by decide +kernel), Tb_at 762 (by decide +kernel) (by decide +kernel), ⟨by decide +kernel, by decide +kernel, by decide +kernel⟩, (RX5, TX5, 5), rfl, rfl⟩
theorem ky_yX5_readFrom : gYV yX5_readFrom cX5_readFrom 6 none 1 5 := ⟨Tb_at 647 (by decide +kernel) (by decide +kernel), Tb_at 69 (by decide +kernel) (by decide +kernel), Tb_at 645 (by decide +kernel) (by decide +kernel), Tb_at 646 (by decide +kernel) (by decide +kernel), ⟨by decide +kernel, by decide +kernel, by decide +kernel⟩, (RX5, TX5, 5), rfl, rfl⟩
theorem ky_yX5_sortOf : gYS yX5_sortOf cX5_sortOf 1 (some .int) 1 := ⟨Tb_at 655 (by decide +kernel) (by decide +kernel), Tb_at 69 (by decide +kernel) (by decide +kernel), Tb_at 654 (by decide +kernel) (by decide +kernel), ⟨by decide +kernel, by decide +kernel, by decide +kernel⟩⟩
theorem ky_yX5_begin : gYV yX5_begin cX5_begin 3 none 2 5 := ⟨Tb_at 659 (by decide +kernel) (by decide +kernel), Tb_at 69 (by decide +kernel) (by decide +kernel), Tb_at 658 (by decide +kernel) (by decide +kernel), Tb_at 9 (by decide +kernel) (by decide +kernel), ⟨by decide +kernel, by decide +kernel, by decide +kernel⟩, (RX5, TX5, 5), rfl, rfl⟩
theorem ky_yX5_takeUp : gYV yX5_takeUp cX5_takeUp 4 none 2 5 := ⟨Tb_at 663 (by decide +kernel) (by decide +kernel), Tb_at 69 (by decide +kernel) (by decide +kernel), Tb_at 662 (by decide +kernel) (by decide +kernel), Tb_at 10 (by decide +kernel) (by decide +kernel), ⟨by decide +kernel, by decide +kernel, by decide +kernel⟩, (RX5, TX5, 5), rfl, rfl⟩
theorem ky_yX5_nameWords : gYV yX5_nameWords cX5_nameWords 4 none 1 5 := ⟨Tb_at 670 (by decide +kernel) (by decide +kernel), Tb_at 69 (by decide +kernel) (by decide +kernel), Tb_at 669 (by decide +kernel) (by decide +kernel), Tb_at 11 (by decide +kernel) (by decide +kernel), ⟨by decide +kernel, by decide +kernel, by decide +kernel⟩, (RX5, TX5, 5), rfl, rfl⟩
theorem ky_yX5_spellingOf : gYS yX5_spellingOf cX5_spellingOf 1 (some (.object "java/lang/String")) 1 := ⟨Tb_at 673 (by decide +kernel) (by decide +kernel), Tb_at 69 (by decide +kernel) (by decide +kernel), Tb_at 672 (by decide +kernel) (by decide +kernel), ⟨by decide +kernel, by decide +kernel, by decide +kernel⟩⟩
theorem kcode_yX6_init : Cond.code yX6_init cX6_init 2 none ∈ Tb := Tb_at 83 (by decide +kernel) (by decide +kernel)
theorem kinst_yX6_init : Cond.instanceMethod yX6_init ∈ Tb := Tb_at 82 (by decide +kernel) (by decide +kernel)
theorem kyd_yX6_init : gYd yX6_init 0 := ⟨by decide +kernel, by decide +kernel, by decide +kernel⟩
theorem ky_yX6_say : gYV yX6_say cX6_say 4 (some .int) 2 6 := ⟨Tb_at 263 (by decide +kernel) (by decide +kernel), Tb_at 64 (by decide +kernel) (by decide +kernel), Tb_at 261 (by decide +kernel) (by decide +kernel), Tb_at 262 (by decide +kernel) (by decide +kernel), ⟨by decide +kernel, by decide +kernel, by decide +kernel⟩, (RX6, TX6, 8), rfl, rfl⟩
theorem ky_yX6_said : gYV yX6_said cX6_said 2 (some .int) 1 6 := ⟨Tb_at 281 (by decide +kernel) (by decide +kernel), Tb_at 64 (by decide +kernel) (by decide +kernel), Tb_at 279 (by decide +kernel) (by decide +kernel), Tb_at 280 (by decide +kernel) (by decide +kernel), ⟨by decide +kernel, by decide +kernel, by decide +kernel⟩, (RX6, TX6, 8), rfl, rfl⟩
theorem ky_yX6_room : gYV yX6_room cX6_room 4 (some .int) 2 6 := ⟨Tb_at 285 (by decide +kernel) (by decide +kernel), Tb_at 64 (by decide +kernel) (by decide +kernel), Tb_at 283 (by decide +kernel) (by decide +kernel), Tb_at 284 (by decide +kernel) (by decide +kernel), ⟨by decide +kernel, by decide +kernel, by decide +kernel⟩, (RX6, TX6, 8), rfl, rfl⟩
theorem ky_yX6_glove : gYV yX6_glove cX6_glove 3 (some .int) 2 6 := ⟨Tb_at 316 (by decide +kernel) (by decide +kernel), Tb_at 64 (by decide +kernel) (by decide +kernel), Tb_at 314 (by decide +kernel) (by decide +kernel), Tb_at 315 (by decide +kernel) (by decide +kernel), ⟨by decide +kernel, by decide +kernel, by decide +kernel⟩, (RX6, TX6, 8), rfl, rfl⟩
theorem ky_yX6_of : gYV yX6_of cX6_of 3 (some .int) 2 6 := ⟨Tb_at 329 (by decide +kernel) (by decide +kernel), Tb_at 64 (by decide +kernel) (by decide +kernel), Tb_at 327 (by decide +kernel) (by decide +kernel), Tb_at 328 (by decide +kernel) (by decide +kernel), ⟨by decide +kernel, by decide +kernel, by decide +kernel⟩, (RX6, TX6, 8), rfl, rfl⟩
theorem ky_yX6_change : gYV yX6_change cX6_change 6 (some .int) 3 6 := ⟨Tb_at 368 (by decide +kernel) (by decide +kernel), Tb_at 64 (by decide +kernel) (by decide +kernel), Tb_at 366 (by decide +kernel) (by decide +kernel), Tb_at 367 (by decide +kernel) (by decide +kernel), ⟨by decide +kernel, by decide +kernel, by decide +kernel⟩, (RX6, TX6, 8), rfl, rfl⟩
theorem ky_yX6_draw : gYV yX6_draw cX6_draw 3 (some .int) 1 6 := ⟨Tb_at 381 (by decide +kernel) (by decide +kernel), Tb_at 64 (by decide +kernel) (by decide +kernel), Tb_at 379 (by decide +kernel) (by decide +kernel), Tb_at 380 (by decide +kernel) (by decide +kernel), ⟨by decide +kernel, by decide +kernel, by decide +kernel⟩, (RX6, TX6, 8), rfl, rfl⟩
theorem ky_yX6_who : gYV yX6_who cX6_who 3 (some .int) 2 6 := ⟨Tb_at 394 (by decide +kernel) (by decide +kernel), Tb_at 64 (by decide +kernel) (by decide +kernel), Tb_at 392 (by decide +kernel) (by decide +kernel), Tb_at 393 (by decide +kernel) (by decide +kernel), ⟨by decide +kernel, by decide +kernel, by decide +kernel⟩, (RX6, TX6, 8), rfl, rfl⟩
theorem ky_yX6_go : gYV yX6_go cX6_go 2 (some .int) 1 6 := ⟨Tb_at 402 (by decide +kernel) (by decide +kernel), Tb_at 64 (by decide +kernel) (by decide +kernel), Tb_at 400 (by decide +kernel) (by decide +kernel), Tb_at 401 (by decide +kernel) (by decide +kernel), ⟨by decide +kernel, by decide +kernel, by decide +kernel⟩, (RX6, TX6, 8), rfl, rfl⟩
theorem ky_yX6_now : gYV yX6_now cX6_now 2 (some .int) 1 6 := ⟨Tb_at 457 (by decide +kernel) (by decide +kernel), Tb_at 64 (by decide +kernel) (by decide +kernel), Tb_at 455 (by decide +kernel) (by decide +kernel), Tb_at 456 (by decide +kernel) (by decide +kernel), ⟨by decide +kernel, by decide +kernel, by decide +kernel⟩, (RX6, TX6, 8), rfl, rfl⟩
theorem ky_yX6_ahead : gYV yX6_ahead cX6_ahead 4 (some .int) 3 6 := ⟨Tb_at 491 (by decide +kernel) (by decide +kernel), Tb_at 64 (by decide +kernel) (by decide +kernel), Tb_at 489 (by decide +kernel) (by decide +kernel), Tb_at 490 (by decide +kernel) (by decide +kernel), ⟨by decide +kernel, by decide +kernel, by decide +kernel⟩, (RX6, TX6, 8), rfl, rfl⟩
theorem ky_yX6_hears : gYV yX6_hears cX6_hears 3 (some .int) 2 6 := ⟨Tb_at 509 (by decide +kernel) (by decide +kernel), Tb_at 64 (by decide +kernel) (by decide +kernel), Tb_at 507 (by decide +kernel) (by decide +kernel), Tb_at 508 (by decide +kernel) (by decide +kernel), ⟨by decide +kernel, by decide +kernel, by decide +kernel⟩, (RX6, TX6, 8), rfl, rfl⟩
theorem ky_yX6_wise : gYV yX6_wise cX6_wise 3 (some .int) 2 6 := ⟨Tb_at 525 (by decide +kernel) (by decide +kernel), Tb_at 64 (by decide +kernel) (by decide +kernel), Tb_at 523 (by decide +kernel) (by decide +kernel), Tb_at 524 (by decide +kernel) (by decide +kernel), ⟨by decide +kernel, by decide +kernel, by decide +kernel⟩, (RX6, TX6, 8), rfl, rfl⟩
theorem ky_yX6_out : gYV yX6_out cX6_out 2 (some .int) 1 6 := ⟨Tb_at 529 (by decide +kernel) (by decide +kernel), Tb_at 64 (by decide +kernel) (by decide +kernel), Tb_at 527 (by decide +kernel) (by decide +kernel), Tb_at 528 (by decide +kernel) (by decide +kernel), ⟨by decide +kernel, by decide +kernel, by decide +kernel⟩, (RX6, TX6, 8), rfl, rfl⟩
theorem ky_yX6_canBeAskedAhead : gYS yX6_canBeAskedAhead cX6_canBeAskedAhead 1 (some .boolean) 1 := ⟨Tb_at 494 (by decide +kernel) (by decide +kernel), Tb_at 64 (by decide +kernel) (by decide +kernel), Tb_at 493 (by decide +kernel) (by decide +kernel), ⟨by decide +kernel, by decide +kernel, by decide +kernel⟩⟩
theorem ky_yX6_daysUntil : gYV yX6_daysUntil cX6_daysUntil 5 (some .int) 3 6 := ⟨Tb_at 513 (by decide +kernel) (by decide +kernel), Tb_at 64 (by decide +kernel) (by decide +kernel), Tb_at 512 (by decide +kernel) (by decide +kernel), Tb_at 1 (by decide +kernel) (by decide +kernel), ⟨by decide +kernel, by decide +kernel, by decide +kernel⟩, (RX6, TX6, 8), rfl, rfl⟩
theorem ky_yX6_isSoInTrial : gYV yX6_isSoInTrial cX6_isSoInTrial 4 (some .boolean) 3 6 := ⟨Tb_at 517 (by decide +kernel) (by decide +kernel), Tb_at 64 (by decide +kernel) (by decide +kernel), Tb_at 516 (by decide +kernel) (by decide +kernel), Tb_at 2 (by decide +kernel) (by decide +kernel), ⟨by decide +kernel, by decide +kernel, by decide +kernel⟩, (RX6, TX6, 8), rfl, rfl⟩
theorem ky_yX6_leave : gYV yX6_leave cX6_leave 3 (some .int) 2 6 := ⟨Tb_at 533 (by decide +kernel) (by decide +kernel), Tb_at 64 (by decide +kernel) (by decide +kernel), Tb_at 531 (by decide +kernel) (by decide +kernel), Tb_at 532 (by decide +kernel) (by decide +kernel), ⟨by decide +kernel, by decide +kernel, by decide +kernel⟩, (RX6, TX6, 8), rfl, rfl⟩
theorem ky_yX6_openFor : gYV yX6_openFor cX6_openFor 5 (some .int) 3 6 := ⟨Tb_at 545 (by decide +kernel) (by decide +kernel), Tb_at 64 (by decide +kernel) (by decide +kernel), Tb_at 543 (by decide +kernel) (by decide +kernel), Tb_at 544 (by decide +kernel) (by decide +kernel), ⟨by decide +kernel, by decide +kernel, by decide +kernel⟩, (RX6, TX6, 8), rfl, rfl⟩
theorem ky_yX6_kindFor : gYV yX6_kindFor cX6_kindFor 3 (some .int) 2 6 := ⟨Tb_at 549 (by decide +kernel) (by decide +kernel), Tb_at 64 (by decide +kernel) (by decide +kernel), Tb_at 547 (by decide +kernel) (by decide +kernel), Tb_at 548 (by decide +kernel) (by decide +kernel), ⟨by decide +kernel, by decide +kernel, by decide +kernel⟩, (RX6, TX6, 8), rfl, rfl⟩
theorem ky_yX6_lower : gYV yX6_lower cX6_lower 4 (some .int) 1 6 := ⟨Tb_at 553 (by decide +kernel) (by decide +kernel), Tb_at 64 (by decide +kernel) (by decide +kernel), Tb_at 551 (by decide +kernel) (by decide +kernel), Tb_at 552 (by decide +kernel) (by decide +kernel), ⟨by decide +kernel, by decide +kernel, by decide +kernel⟩, (RX6, TX6, 8), rfl, rfl⟩
theorem ky_yX6_cover : gYV yX6_cover cX6_cover 4 (some .int) 1 6 := ⟨Tb_at 558 (by decide +kernel) (by decide +kernel), Tb_at 64 (by decide +kernel) (by decide +kernel), Tb_at 556 (by decide +kernel) (by decide +kernel), Tb_at 557 (by decide +kernel) (by decide +kernel), ⟨by decide +kernel, by decide +kernel, by decide +kernel⟩, (RX6, TX6, 8), rfl, rfl⟩
theorem ky_yX6_away : gYV yX6_away cX6_away 6 (some .int) 3 6 := ⟨Tb_at 567 (by decide +kernel) (by decide +kernel), Tb_at 64 (by decide +kernel) (by decide +kernel), Tb_at 565 (by decide +kernel) (by decide +kernel), Tb_at 566 (by decide +kernel) (by decide +kernel), ⟨by decide +kernel, by decide +kernel, by decide +kernel⟩, (RX6, TX6, 8), rfl, rfl⟩
theorem ky_yX6_isFewer : gYS yX6_isFewer cX6_isFewer 2 (some .boolean) 2 := ⟨Tb_at 561 (by decide +kernel) (by decide +kernel), Tb_at 64 (by decide +kernel) (by decide +kernel), Tb_at 560 (by decide +kernel) (by decide +kernel), ⟨by decide +kernel, by decide +kernel, by decide +kernel⟩⟩
theorem ky_yX6_bestFor : gYV yX6_bestFor cX6_bestFor 9 (some .int) 4 6 := ⟨Tb_at 537 (by decide +kernel) (by decide +kernel), Tb_at 64 (by decide +kernel) (by decide +kernel), Tb_at 536 (by decide +kernel) (by decide +kernel), Tb_at 3 (by decide +kernel) (by decide +kernel), ⟨by decide +kernel, by decide +kernel, by decide +kernel⟩, (RX6, TX6, 8), rfl, rfl⟩
theorem ky_yX6_tryOut : gYV yX6_tryOut cX6_tryOut 4 none 3 6 := ⟨Tb_at 541 (by decide +kernel) (by decide +kernel), Tb_at 64 (by decide +kernel) (by decide +kernel), Tb_at 540 (by decide +kernel) (by decide +kernel), Tb_at 4 (by decide +kernel) (by decide +kernel), ⟨by decide +kernel, by decide +kernel, by decide +kernel⟩, (RX6, TX6, 8), rfl, rfl⟩
theorem ky_yX6_comesToKnowWithout : gYV yX6_comesToKnowWithout cX6_comesToKnowWithout 6 (some .boolean) 4 6 := ⟨Tb_at 571 (by decide +kernel) (by decide +kernel), Tb_at 64 (by decide +kernel) (by decide +kernel), Tb_at 570 (by decide +kernel) (by decide +kernel), Tb_at 5 (by decide +kernel) (by decide +kernel), ⟨by decide +kernel, by decide +kernel, by decide +kernel⟩, (RX6, TX6, 8), rfl, rfl⟩
theorem ky_yX6_fits : gYV yX6_fits cX6_fits 3 (some .int) 2 6 := ⟨Tb_at 575 (by decide +kernel) (by decide +kernel), Tb_at 64 (by decide +kernel) (by decide +kernel), Tb_at 573 (by decide +kernel) (by decide +kernel), Tb_at 574 (by decide +kernel) (by decide +kernel), ⟨by decide +kernel, by decide +kernel, by decide +kernel⟩, (RX6, TX6, 8), rfl, rfl⟩
theorem ky_yX6_kinds : gYV yX6_kinds cX6_kinds 3 (some .int) 2 6 := ⟨Tb_at 599 (by decide +kernel) (by decide +kernel), Tb_at 64 (by decide +kernel) (by decide +kernel), Tb_at 597 (by decide +kernel) (by decide +kernel), Tb_at 598 (by decide +kernel) (by decide +kernel), ⟨by decide +kernel, by decide +kernel, by decide +kernel⟩, (RX6, TX6, 8), rfl, rfl⟩
theorem ky_yX6_choicesAsTold : gYV yX6_choicesAsTold cX6_choicesAsTold 8 (some .int) 4 6 := ⟨Tb_at 579 (by decide +kernel) (by decide +kernel), Tb_at 64 (by decide +kernel) (by decide +kernel), Tb_at 578 (by decide +kernel) (by decide +kernel), Tb_at 6 (by decide +kernel) (by decide +kernel), ⟨by decide +kernel, by decide +kernel, by decide +kernel⟩, (RX6, TX6, 8), rfl, rfl⟩
theorem ky_yX6_trialGoesAsTold : gYV yX6_trialGoesAsTold cX6_trialGoesAsTold 5 (some .boolean) 2 6 := ⟨Tb_at 595 (by decide +kernel) (by decide +kernel), Tb_at 64 (by decide +kernel) (by decide +kernel), Tb_at 594 (by decide +kernel) (by decide +kernel), Tb_at 8 (by decide +kernel) (by decide +kernel), ⟨by decide +kernel, by decide +kernel, by decide +kernel⟩, (RX6, TX6, 8), rfl, rfl⟩
theorem ky_yX6_talk : gYV yX6_talk cX6_talk 3 (some .int) 1 6 := ⟨Tb_at 603 (by decide +kernel) (by decide +kernel), Tb_at 64 (by decide +kernel) (by decide +kernel), Tb_at 601 (by decide +kernel) (by decide +kernel), Tb_at 602 (by decide +kernel) (by decide +kernel), ⟨by decide +kernel, by decide +kernel, by decide +kernel⟩, (RX6, TX6, 8), rfl, rfl⟩
theorem ky_yX6_odds : gYV yX6_odds cX6_odds 6 (some .long) 3 6 := ⟨Tb_at 616 (by decide +kernel) (by decide +kernel), Tb_at 64 (by decide +kernel) (by decide +kernel), Tb_at 614 (by decide +kernel) (by decide +kernel), Tb_at 615 (by decide +kernel) (by decide +kernel), ⟨by decide +kernel, by decide +kernel, by decide +kernel⟩, (RX6, TX6, 8), rfl, rfl⟩
theorem ky_yX6_seed : gYV yX6_seed cX6_seed 3 (some .int) 1 6 := ⟨Tb_at 623 (by decide +kernel) (by decide +kernel), Tb_at 64 (by decide +kernel) (by decide +kernel), Tb_at 621 (by decide +kernel) (by decide +kernel), Tb_at 622 (by decide +kernel) (by decide +kernel), ⟨by decide +kernel, by decide +kernel, by decide +kernel⟩, (RX6, TX6, 8), rfl, rfl⟩
theorem ky_yX6_power : gYS yX6_power cX6_power 5 (some .long) 2 := ⟨Tb_at 619 (by decide +kernel) (by decide +kernel), Tb_at 64 (by decide +kernel) (by decide +kernel), Tb_at 618 (by decide +kernel) (by decide +kernel), ⟨by decide +kernel, by decide +kernel, by decide +kernel⟩⟩
theorem ky_yX6_feed : gYV yX6_feed cX6_feed 4 (some .int) 2 6 := ⟨Tb_at 627 (by decide +kernel) (by decide +kernel), Tb_at 64 (by decide +kernel) (by decide +kernel), Tb_at 625 (by decide +kernel) (by decide +kernel), Tb_at 626 (by decide +kernel) (by decide +kernel), ⟨by decide +kernel, by decide +kernel, by decide +kernel⟩, (RX6, TX6, 8), rfl, rfl⟩
theorem ky_yX6_wipe : gYV yX6_wipe cX6_wipe 2 (some .int) 0 6 := ⟨Tb_at 635 (by decide +kernel) (by decide +kernel), Tb_at 64 (by decide +kernel) (by decide +kernel), Tb_at 633 (by decide +kernel) (by decide +kernel), Tb_at 634 (by decide +kernel) (by decide +kernel), ⟨by decide +kernel, by decide +kernel, by decide +kernel⟩, (RX6, TX6, 8), rfl, rfl⟩
theorem ky_yX6_text : gYV yX6_text cX6_text 2 (some .int) 0 6 := ⟨Tb_at 639 (by decide +kernel) (by decide +kernel), Tb_at 64 (by decide +kernel) (by decide +kernel), Tb_at 637 (by decide +kernel) (by decide +kernel), Tb_at 638 (by decide +kernel) (by decide +kernel), ⟨by decide +kernel, by decide +kernel, by decide +kernel⟩, (RX6, TX6, 8), rfl, rfl⟩
theorem ky_yX6_hold : gYV yX6_hold cX6_hold 3 (some .int) 2 6 := ⟨Tb_at 789 (by decide +kernel) (by decide +kernel), Tb_at 64 (by decide +kernel) (by decide +kernel), Tb_at 787 (by decide +kernel) (by decide +kernel), Tb_at 788 (by decide +kernel) (by decide +kernel), ⟨by decide +kernel, by decide +kernel, by decide +kernel⟩, (RX6, TX6, 8), rfl, rfl⟩
theorem ky_yX6_as : gYV yX6_as cX6_as 4 (some .int) 2 6 := ⟨Tb_at 793 (by decide +kernel) (by decide +kernel), Tb_at 64 (by decide +kernel) (by decide +kernel), Tb_at 791 (by decide +kernel) (by decide +kernel), Tb_at 792 (by decide +kernel) (by decide +kernel), ⟨by decide +kernel, by decide +kernel, by decide +kernel⟩, (RX6, TX6, 8), rfl, rfl⟩
theorem ky_yX6_sheet : gYV yX6_sheet cX6_sheet 4 (some .int) 3 6 := ⟨Tb_at 804 (by decide +kernel) (by decide +kernel), Tb_at 64 (by decide +kernel) (by decide +kernel), Tb_at 802 (by decide +kernel) (by decide +kernel), Tb_at 803 (by decide +kernel) (by decide +kernel), ⟨by decide +kernel, by decide +kernel, by decide +kernel⟩, (RX6, TX6, 8), rfl, rfl⟩
theorem ky_yX6_write : gYV yX6_write cX6_write 5 (some .int) 3 6 := ⟨Tb_at 813 (by decide +kernel) (by decide +kernel), Tb_at 64 (by decide +kernel) (by decide +kernel), Tb_at 811 (by decide +kernel) (by decide +kernel), Tb_at 812 (by decide +kernel) (by decide +kernel), ⟨by decide +kernel, by decide +kernel, by decide +kernel⟩, (RX6, TX6, 8), rfl, rfl⟩
theorem ky_yX6_copy : gYV yX6_copy cX6_copy 8 (some .int) 5 6 := ⟨Tb_at 821 (by decide +kernel) (by decide +kernel), Tb_at 64 (by decide +kernel) (by decide +kernel), Tb_at 819 (by decide +kernel) (by decide +kernel), Tb_at 820 (by decide +kernel) (by decide +kernel), ⟨by decide +kernel, by decide +kernel, by decide +kernel⟩, (RX6, TX6, 8), rfl, rfl⟩
theorem ky_yX6_load : gYV yX6_load cX6_load 4 (some .int) 1 6 := ⟨Tb_at 831 (by decide +kernel) (by decide +kernel), Tb_at 64 (by decide +kernel) (by decide +kernel), Tb_at 829 (by decide +kernel) (by decide +kernel), Tb_at 830 (by decide +kernel) (by decide +kernel), ⟨by decide +kernel, by decide +kernel, by decide +kernel⟩, (RX6, TX6, 8), rfl, rfl⟩
theorem ky_yX6_judge : gYV yX6_judge cX6_judge 4 (some .int) 1 6 := ⟨Tb_at 835 (by decide +kernel) (by decide +kernel), Tb_at 64 (by decide +kernel) (by decide +kernel), Tb_at 833 (by decide +kernel) (by decide +kernel), Tb_at 834 (by decide +kernel) (by decide +kernel), ⟨by decide +kernel, by decide +kernel, by decide +kernel⟩, (RX6, TX6, 8), rfl, rfl⟩
theorem ky_yX6_image : gYV yX6_image cX6_image 1 (some .int) 0 6 := ⟨Tb_at 839 (by decide +kernel) (by decide +kernel), Tb_at 64 (by decide +kernel) (by decide +kernel), Tb_at 837 (by decide +kernel) (by decide +kernel), Tb_at 838 (by decide +kernel) (by decide +kernel), ⟨by decide +kernel, by decide +kernel, by decide +kernel⟩, (RX6, TX6, 8), rfl, rfl⟩
theorem ky_yX6_undo : gYV yX6_undo cX6_undo 1 (some .int) 0 6 := ⟨Tb_at 843 (by decide +kernel) (by decide +kernel), Tb_at 64 (by decide +kernel) (by decide +kernel), Tb_at 841 (by decide +kernel) (by decide +kernel), Tb_at 842 (by decide +kernel) (by decide +kernel), ⟨by decide +kernel, by decide +kernel, by decide +kernel⟩, (RX6, TX6, 8), rfl, rfl⟩
theorem ky_yX6_tear : gYV yX6_tear cX6_tear 2 (some .int) 0 6 := ⟨Tb_at 847 (by decide +kernel) (by decide +kernel), Tb_at 64 (by decide +kernel) (by decide +kernel), Tb_at 845 (by decide +kernel) (by decide +kernel), Tb_at 846 (by decide +kernel) (by decide +kernel), ⟨by decide +kernel, by decide +kernel, by decide +kernel⟩, (RX6, TX6, 8), rfl, rfl⟩
theorem ky_yX6_count : gYV yX6_count cX6_count 2 (some .int) 1 6 := ⟨Tb_at 851 (by decide +kernel) (by decide +kernel), Tb_at 64 (by decide +kernel) (by decide +kernel), Tb_at 849 (by decide +kernel) (by decide +kernel), Tb_at 850 (by decide +kernel) (by decide +kernel), ⟨by decide +kernel, by decide +kernel, by decide +kernel⟩, (RX6, TX6, 8), rfl, rfl⟩
theorem ky_yX6_status : gYV yX6_status cX6_status 4 (some .int) 1 6 := ⟨Tb_at 859 (by decide +kernel) (by decide +kernel), Tb_at 64 (by decide +kernel) (by decide +kernel), Tb_at 857 (by decide +kernel) (by decide +kernel), Tb_at 858 (by decide +kernel) (by decide +kernel), ⟨by decide +kernel, by decide +kernel, by decide +kernel⟩, (RX6, TX6, 8), rfl, rfl⟩
theorem ky_yX6_finding : gYV yX6_finding cX6_finding 3 (some .int) 1 6 := ⟨Tb_at 277 (by decide +kernel) (by decide +kernel), Tb_at 64 (by decide +kernel) (by decide +kernel), Tb_at 276 (by decide +kernel) (by decide +kernel), Tb_at 0 (by decide +kernel) (by decide +kernel), ⟨by decide +kernel, by decide +kernel, by decide +kernel⟩, (RX6, TX6, 8), rfl, rfl⟩
theorem ky_yX6_lackOf : gYV yX6_lackOf cX6_lackOf 2 (some .int) 1 6 := ⟨Tb_at 583 (by decide +kernel) (by decide +kernel), Tb_at 64 (by decide +kernel) (by decide +kernel), Tb_at 582 (by decide +kernel) (by decide +kernel), Tb_at 7 (by decide +kernel) (by decide +kernel), ⟨by decide +kernel, by decide +kernel, by decide +kernel⟩, (RX6, TX6, 8), rfl, rfl⟩
theorem ky_yX6_isSheet : gYS yX6_isSheet cX6_isSheet 1 (some .boolean) 1 := ⟨Tb_at 586 (by decide +kernel) (by decide +kernel), Tb_at 64 (by decide +kernel) (by decide +kernel), Tb_at 585 (by decide +kernel) (by decide +kernel), ⟨by decide +kernel, by decide +kernel, by decide +kernel⟩⟩
theorem ky_yX6_isWithin : gYS yX6_isWithin cX6_isWithin 2 (some .boolean) 2 := ⟨Tb_at 266 (by decide +kernel) (by decide +kernel), Tb_at 64 (by decide +kernel) (by decide +kernel), Tb_at 265 (by decide +kernel) (by decide +kernel), ⟨by decide +kernel, by decide +kernel, by decide +kernel⟩⟩
theorem ky_yX6_isIn : gYS yX6_isIn cX6_isIn 2 (some .boolean) 2 := ⟨Tb_at 296 (by decide +kernel) (by decide +kernel), Tb_at 64 (by decide +kernel) (by decide +kernel), Tb_at 295 (by decide +kernel) (by decide +kernel), ⟨by decide +kernel, by decide +kernel, by decide +kernel⟩⟩
theorem ky_yX6_isSaying : gYS yX6_isSaying cX6_isSaying 1 (some .boolean) 1 := ⟨Tb_at 269 (by decide +kernel) (by decide +kernel), Tb_at 64 (by decide +kernel) (by decide +kernel), Tb_at 268 (by decide +kernel) (by decide +kernel), ⟨by decide +kernel, by decide +kernel, by decide +kernel⟩⟩
theorem ky_yX6_roomOf : gYS yX6_roomOf cX6_roomOf 1 (some .int) 1 := ⟨Tb_at 272 (by decide +kernel) (by decide +kernel), Tb_at 64 (by decide +kernel) (by decide +kernel), Tb_at 271 (by decide +kernel) (by decide +kernel), ⟨by decide +kernel, by decide +kernel, by decide +kernel⟩⟩
theorem ky_yX6_topicOf : gYS yX6_topicOf cX6_topicOf 1 (some .int) 1 := ⟨Tb_at 312 (by decide +kernel) (by decide +kernel), Tb_at 64 (by decide +kernel) (by decide +kernel), Tb_at 311 (by decide +kernel) (by decide +kernel), ⟨by decide +kernel, by decide +kernel, by decide +kernel⟩⟩
theorem ky_yX6_loudOf : gYS yX6_loudOf cX6_loudOf 1 (some .int) 1 := ⟨Tb_at 425 (by decide +kernel) (by decide +kernel), Tb_at 64 (by decide +kernel) (by decide +kernel), Tb_at 424 (by decide +kernel) (by decide +kernel), ⟨by decide +kernel, by decide +kernel, by decide +kernel⟩⟩
theorem ky_yX6_sayingOf : gYS yX6_sayingOf cX6_sayingOf 3 (some .int) 3 := ⟨Tb_at 131 (by decide +kernel) (by decide +kernel), Tb_at 64 (by decide +kernel) (by decide +kernel), Tb_at 130 (by decide +kernel) (by decide +kernel), ⟨by decide +kernel, by decide +kernel, by decide +kernel⟩⟩
theorem kcode_yX7_init : Cond.code yX7_init cX7_init 2 none ∈ Tb := Tb_at 864 (by decide +kernel) (by decide +kernel)
theorem kinst_yX7_init : Cond.instanceMethod yX7_init ∈ Tb := Tb_at 863 (by decide +kernel) (by decide +kernel)
theorem kyd_yX7_init : gYd yX7_init 0 := ⟨by decide +kernel, by decide +kernel, by decide +kernel⟩
theorem ky_yX7_finds : gYV yX7_finds cX7_finds 2 (some .int) 1 7 := ⟨Tb_at 943 (by decide +kernel) (by decide +kernel), Tb_at 71 (by decide +kernel) (by decide +kernel), Tb_at 942 (by decide +kernel) (by decide +kernel), Tb_at 20 (by decide +kernel) (by decide +kernel), ⟨by decide +kernel, by decide +kernel, by decide +kernel⟩, (RX7, TX7, 18), rfl, rfl⟩
theorem ky_yX7_in : gYS yX7_in cX7_in 6 (some .boolean) 3 := ⟨Tb_at 931 (by decide +kernel) (by decide +kernel), Tb_at 71 (by decide +kernel) (by decide +kernel), Tb_at 930 (by decide +kernel) (by decide +kernel), ⟨by decide +kernel, by decide +kernel, by decide +kernel⟩⟩
theorem ky_yX7_held : gYS yX7_held cX7_held 3 (some .int) 3 := ⟨Tb_at 1002 (by decide +kernel) (by decide +kernel), Tb_at 71 (by decide +kernel) (by decide +kernel), Tb_at 1001 (by decide +kernel) (by decide +kernel), ⟨by decide +kernel, by decide +kernel, by decide +kernel⟩⟩
theorem ky_yX7_copies : gYS yX7_copies cX7_copies 3 none 2 := ⟨Tb_at 1095 (by decide +kernel) (by decide +kernel), Tb_at 71 (by decide +kernel) (by decide +kernel), Tb_at 1094 (by decide +kernel) (by decide +kernel), ⟨by decide +kernel, by decide +kernel, by decide +kernel⟩⟩
theorem ky_yX7_isGlove : gYV yX7_isGlove cX7_isGlove 2 (some .boolean) 1 7 := ⟨Tb_at 994 (by decide +kernel) (by decide +kernel), Tb_at 71 (by decide +kernel) (by decide +kernel), Tb_at 993 (by decide +kernel) (by decide +kernel), Tb_at 28 (by decide +kernel) (by decide +kernel), ⟨by decide +kernel, by decide +kernel, by decide +kernel⟩, (RX7, TX7, 18), rfl, rfl⟩
theorem ky_yX7_isTopic : gYS yX7_isTopic cX7_isTopic 1 (some .boolean) 1 := ⟨Tb_at 1037 (by decide +kernel) (by decide +kernel), Tb_at 71 (by decide +kernel) (by decide +kernel), Tb_at 1036 (by decide +kernel) (by decide +kernel), ⟨by decide +kernel, by decide +kernel, by decide +kernel⟩⟩
theorem ky_yX7_areTopics : gYS yX7_areTopics cX7_areTopics 1 (some .boolean) 1 := ⟨Tb_at 1115 (by decide +kernel) (by decide +kernel), Tb_at 71 (by decide +kernel) (by decide +kernel), Tb_at 1114 (by decide +kernel) (by decide +kernel), ⟨by decide +kernel, by decide +kernel, by decide +kernel⟩⟩
theorem ky_yX7_isPlace : gYS yX7_isPlace cX7_isPlace 1 (some .boolean) 1 := ⟨Tb_at 927 (by decide +kernel) (by decide +kernel), Tb_at 71 (by decide +kernel) (by decide +kernel), Tb_at 926 (by decide +kernel) (by decide +kernel), ⟨by decide +kernel, by decide +kernel, by decide +kernel⟩⟩
theorem ky_yX7_isSaying : gYS yX7_isSaying cX7_isSaying 1 (some .boolean) 1 := ⟨Tb_at 934 (by decide +kernel) (by decide +kernel), Tb_at 71 (by decide +kernel) (by decide +kernel), Tb_at 933 (by decide +kernel) (by decide +kernel), ⟨by decide +kernel, by decide +kernel, by decide +kernel⟩⟩
theorem ky_yX7_its : gYV yX7_its cX7_its 3 (some .int) 2 7 := ⟨Tb_at 961 (by decide +kernel) (by decide +kernel), Tb_at 71 (by decide +kernel) (by decide +kernel), Tb_at 960 (by decide +kernel) (by decide +kernel), Tb_at 22 (by decide +kernel) (by decide +kernel), ⟨by decide +kernel, by decide +kernel, by decide +kernel⟩, (RX7, TX7, 18), rfl, rfl⟩
theorem ky_yX7_sets : gYV yX7_sets cX7_sets 4 none 3 7 := ⟨Tb_at 986 (by decide +kernel) (by decide +kernel), Tb_at 71 (by decide +kernel) (by decide +kernel), Tb_at 985 (by decide +kernel) (by decide +kernel), Tb_at 27 (by decide +kernel) (by decide +kernel), ⟨by decide +kernel, by decide +kernel, by decide +kernel⟩, (RX7, TX7, 18), rfl, rfl⟩
theorem ky_yX7_becomes : gYV yX7_becomes cX7_becomes 4 (some .int) 2 7 := ⟨Tb_at 939 (by decide +kernel) (by decide +kernel), Tb_at 71 (by decide +kernel) (by decide +kernel), Tb_at 938 (by decide +kernel) (by decide +kernel), Tb_at 19 (by decide +kernel) (by decide +kernel), ⟨by decide +kernel, by decide +kernel, by decide +kernel⟩, (RX7, TX7, 18), rfl, rfl⟩
theorem ky_yX7_ones : gYS yX7_ones cX7_ones 3 (some .int) 1 := ⟨Tb_at 1067 (by decide +kernel) (by decide +kernel), Tb_at 71 (by decide +kernel) (by decide +kernel), Tb_at 1066 (by decide +kernel) (by decide +kernel), ⟨by decide +kernel, by decide +kernel, by decide +kernel⟩⟩
theorem ky_yX7_isIn : gYV yX7_isIn cX7_isIn 3 (some .boolean) 2 7 := ⟨Tb_at 957 (by decide +kernel) (by decide +kernel), Tb_at 71 (by decide +kernel) (by decide +kernel), Tb_at 956 (by decide +kernel) (by decide +kernel), Tb_at 21 (by decide +kernel) (by decide +kernel), ⟨by decide +kernel, by decide +kernel, by decide +kernel⟩, (RX7, TX7, 18), rfl, rfl⟩
theorem ky_yX7_hasOther : gYV yX7_hasOther cX7_hasOther 3 (some .boolean) 1 7 := ⟨Tb_at 1006 (by decide +kernel) (by decide +kernel), Tb_at 71 (by decide +kernel) (by decide +kernel), Tb_at 1005 (by decide +kernel) (by decide +kernel), Tb_at 30 (by decide +kernel) (by decide +kernel), ⟨by decide +kernel, by decide +kernel, by decide +kernel⟩, (RX7, TX7, 18), rfl, rfl⟩
theorem ky_yX7_needs : gYV yX7_needs cX7_needs 4 (some .int) 1 7 := ⟨Tb_at 999 (by decide +kernel) (by decide +kernel), Tb_at 71 (by decide +kernel) (by decide +kernel), Tb_at 998 (by decide +kernel) (by decide +kernel), Tb_at 29 (by decide +kernel) (by decide +kernel), ⟨by decide +kernel, by decide +kernel, by decide +kernel⟩, (RX7, TX7, 18), rfl, rfl⟩
theorem ky_yX7_hushes : gYV yX7_hushes cX7_hushes 2 (some .int) 1 7 := ⟨Tb_at 969 (by decide +kernel) (by decide +kernel), Tb_at 71 (by decide +kernel) (by decide +kernel), Tb_at 968 (by decide +kernel) (by decide +kernel), Tb_at 24 (by decide +kernel) (by decide +kernel), ⟨by decide +kernel, by decide +kernel, by decide +kernel⟩, (RX7, TX7, 18), rfl, rfl⟩
theorem ky_yX7_stays : gYV yX7_stays cX7_stays 2 (some .int) 1 7 := ⟨Tb_at 1010 (by decide +kernel) (by decide +kernel), Tb_at 71 (by decide +kernel) (by decide +kernel), Tb_at 1009 (by decide +kernel) (by decide +kernel), Tb_at 31 (by decide +kernel) (by decide +kernel), ⟨by decide +kernel, by decide +kernel, by decide +kernel⟩, (RX7, TX7, 18), rfl, rfl⟩
theorem ky_yX7_keeps : gYV yX7_keeps cX7_keeps 2 (some .int) 1 7 := ⟨Tb_at 1014 (by decide +kernel) (by decide +kernel), Tb_at 71 (by decide +kernel) (by decide +kernel), Tb_at 1013 (by decide +kernel) (by decide +kernel), Tb_at 32 (by decide +kernel) (by decide +kernel), ⟨by decide +kernel, by decide +kernel, by decide +kernel⟩, (RX7, TX7, 18), rfl, rfl⟩
theorem ky_yX7_hushIn : gYV yX7_hushIn cX7_hushIn 4 (some .int) 1 7 := ⟨Tb_at 965 (by decide +kernel) (by decide +kernel), Tb_at 71 (by decide +kernel) (by decide +kernel), Tb_at 964 (by decide +kernel) (by decide +kernel), Tb_at 23 (by decide +kernel) (by decide +kernel), ⟨by decide +kernel, by decide +kernel, by decide +kernel⟩, (RX7, TX7, 18), rfl, rfl⟩
theorem ky_yX7_hearers : gYV yX7_hearers cX7_hearers 6 (some .int) 1 7 := ⟨Tb_at 1060 (by decide +kernel) (by decide +kernel), Tb_at 71 (by decide +kernel) (by decide +kernel), Tb_at 1059 (by decide +kernel) (by decide +kernel), Tb_at 37 (by decide +kernel) (by decide +kernel), ⟨by decide +kernel, by decide +kernel, by decide +kernel⟩, (RX7, TX7, 18), rfl, rfl⟩
theorem ky_yX7_learns : gYV yX7_learns cX7_learns 5 none 2 7 := ⟨Tb_at 1064 (by decide +kernel) (by decide +kernel), Tb_at 71 (by decide +kernel) (by decide +kernel), Tb_at 1063 (by decide +kernel) (by decide +kernel), Tb_at 38 (by decide +kernel) (by decide +kernel), ⟨by decide +kernel, by decide +kernel, by decide +kernel⟩, (RX7, TX7, 18), rfl, rfl⟩
theorem ky_yX7_drawnOn : gYV yX7_drawnOn cX7_drawnOn 2 none 1 7 := ⟨Tb_at 1030 (by decide +kernel) (by decide +kernel), Tb_at 71 (by decide +kernel) (by decide +kernel), Tb_at 1029 (by decide +kernel) (by decide +kernel), Tb_at 33 (by decide +kernel) (by decide +kernel), ⟨by decide +kernel, by decide +kernel, by decide +kernel⟩, (RX7, TX7, 18), rfl, rfl⟩
theorem ky_yX7_todays : gYV yX7_todays cX7_todays 1 (some .int) 0 7 := ⟨Tb_at 1056 (by decide +kernel) (by decide +kernel), Tb_at 71 (by decide +kernel) (by decide +kernel), Tb_at 1055 (by decide +kernel) (by decide +kernel), Tb_at 36 (by decide +kernel) (by decide +kernel), ⟨by decide +kernel, by decide +kernel, by decide +kernel⟩, (RX7, TX7, 18), rfl, rfl⟩
theorem ky_yX7_dayGoes : gYV yX7_dayGoes cX7_dayGoes 3 none 0 7 := ⟨Tb_at 1052 (by decide +kernel) (by decide +kernel), Tb_at 71 (by decide +kernel) (by decide +kernel), Tb_at 1051 (by decide +kernel) (by decide +kernel), Tb_at 35 (by decide +kernel) (by decide +kernel), ⟨by decide +kernel, by decide +kernel, by decide +kernel⟩, (RX7, TX7, 18), rfl, rfl⟩
theorem ky_yX7_daysGo : gYV yX7_daysGo cX7_daysGo 3 none 1 7 := ⟨Tb_at 1048 (by decide +kernel) (by decide +kernel), Tb_at 71 (by decide +kernel) (by decide +kernel), Tb_at 1047 (by decide +kernel) (by decide +kernel), Tb_at 34 (by decide +kernel) (by decide +kernel), ⟨by decide +kernel, by decide +kernel, by decide +kernel⟩, (RX7, TX7, 18), rfl, rfl⟩
theorem ky_yX7_known : gYV yX7_known cX7_known 5 (some .int) 2 7 := ⟨Tb_at 973 (by decide +kernel) (by decide +kernel), Tb_at 71 (by decide +kernel) (by decide +kernel), Tb_at 972 (by decide +kernel) (by decide +kernel), Tb_at 25 (by decide +kernel) (by decide +kernel), ⟨by decide +kernel, by decide +kernel, by decide +kernel⟩, (RX7, TX7, 18), rfl, rfl⟩
theorem ky_yX7_allKnow : gYV yX7_allKnow cX7_allKnow 1 (some .int) 0 7 := ⟨Tb_at 1071 (by decide +kernel) (by decide +kernel), Tb_at 71 (by decide +kernel) (by decide +kernel), Tb_at 1070 (by decide +kernel) (by decide +kernel), Tb_at 39 (by decide +kernel) (by decide +kernel), ⟨by decide +kernel, by decide +kernel, by decide +kernel⟩, (RX7, TX7, 18), rfl, rfl⟩
theorem ky_yX7_allHands : gYV yX7_allHands cX7_allHands 1 (some .int) 0 7 := ⟨Tb_at 1079 (by decide +kernel) (by decide +kernel), Tb_at 71 (by decide +kernel) (by decide +kernel), Tb_at 1078 (by decide +kernel) (by decide +kernel), Tb_at 40 (by decide +kernel) (by decide +kernel), ⟨by decide +kernel, by decide +kernel, by decide +kernel⟩, (RX7, TX7, 18), rfl, rfl⟩
theorem ky_yX7_allDrawn : gYV yX7_allDrawn cX7_allDrawn 3 (some .int) 0 7 := ⟨Tb_at 1083 (by decide +kernel) (by decide +kernel), Tb_at 71 (by decide +kernel) (by decide +kernel), Tb_at 1082 (by decide +kernel) (by decide +kernel), Tb_at 41 (by decide +kernel) (by decide +kernel), ⟨by decide +kernel, by decide +kernel, by decide +kernel⟩, (RX7, TX7, 18), rfl, rfl⟩
theorem ky_yX7_say : gYV yX7_say cX7_say 3 (some .int) 2 7 := ⟨Tb_at 924 (by decide +kernel) (by decide +kernel), Tb_at 71 (by decide +kernel) (by decide +kernel), Tb_at 922 (by decide +kernel) (by decide +kernel), Tb_at 923 (by decide +kernel) (by decide +kernel), ⟨by decide +kernel, by decide +kernel, by decide +kernel⟩, (RX7, TX7, 18), rfl, rfl⟩
theorem ky_yX7_said : gYV yX7_said cX7_said 2 (some .int) 1 7 := ⟨Tb_at 948 (by decide +kernel) (by decide +kernel), Tb_at 71 (by decide +kernel) (by decide +kernel), Tb_at 946 (by decide +kernel) (by decide +kernel), Tb_at 947 (by decide +kernel) (by decide +kernel), ⟨by decide +kernel, by decide +kernel, by decide +kernel⟩, (RX7, TX7, 18), rfl, rfl⟩
theorem ky_yX7_room : gYV yX7_room cX7_room 6 (some .int) 2 7 := ⟨Tb_at 952 (by decide +kernel) (by decide +kernel), Tb_at 71 (by decide +kernel) (by decide +kernel), Tb_at 950 (by decide +kernel) (by decide +kernel), Tb_at 951 (by decide +kernel) (by decide +kernel), ⟨by decide +kernel, by decide +kernel, by decide +kernel⟩, (RX7, TX7, 18), rfl, rfl⟩
theorem ky_yX7_comes : gYV yX7_comes cX7_comes 5 (some .int) 2 7 := ⟨Tb_at 982 (by decide +kernel) (by decide +kernel), Tb_at 71 (by decide +kernel) (by decide +kernel), Tb_at 981 (by decide +kernel) (by decide +kernel), Tb_at 26 (by decide +kernel) (by decide +kernel), ⟨by decide +kernel, by decide +kernel, by decide +kernel⟩, (RX7, TX7, 18), rfl, rfl⟩
theorem ky_yX7_glove : gYV yX7_glove cX7_glove 3 (some .int) 2 7 := ⟨Tb_at 977 (by decide +kernel) (by decide +kernel), Tb_at 71 (by decide +kernel) (by decide +kernel), Tb_at 975 (by decide +kernel) (by decide +kernel), Tb_at 976 (by decide +kernel) (by decide +kernel), ⟨by decide +kernel, by decide +kernel, by decide +kernel⟩, (RX7, TX7, 18), rfl, rfl⟩
theorem ky_yX7_of : gYV yX7_of cX7_of 3 (some .int) 2 7 := ⟨Tb_at 990 (by decide +kernel) (by decide +kernel), Tb_at 71 (by decide +kernel) (by decide +kernel), Tb_at 988 (by decide +kernel) (by decide +kernel), Tb_at 989 (by decide +kernel) (by decide +kernel), ⟨by decide +kernel, by decide +kernel, by decide +kernel⟩, (RX7, TX7, 18), rfl, rfl⟩
theorem ky_yX7_mostOf : gYS yX7_mostOf cX7_mostOf 1 (some .int) 1 := ⟨Tb_at 1021 (by decide +kernel) (by decide +kernel), Tb_at 71 (by decide +kernel) (by decide +kernel), Tb_at 1020 (by decide +kernel) (by decide +kernel), ⟨by decide +kernel, by decide +kernel, by decide +kernel⟩⟩
theorem ky_yX7_change : gYV yX7_change cX7_change 4 (some .int) 3 7 := ⟨Tb_at 1018 (by decide +kernel) (by decide +kernel), Tb_at 71 (by decide +kernel) (by decide +kernel), Tb_at 1016 (by decide +kernel) (by decide +kernel), Tb_at 1017 (by decide +kernel) (by decide +kernel), ⟨by decide +kernel, by decide +kernel, by decide +kernel⟩, (RX7, TX7, 18), rfl, rfl⟩
theorem ky_yX7_draw : gYV yX7_draw cX7_draw 2 (some .int) 1 7 := ⟨Tb_at 1026 (by decide +kernel) (by decide +kernel), Tb_at 71 (by decide +kernel) (by decide +kernel), Tb_at 1024 (by decide +kernel) (by decide +kernel), Tb_at 1025 (by decide +kernel) (by decide +kernel), ⟨by decide +kernel, by decide +kernel, by decide +kernel⟩, (RX7, TX7, 18), rfl, rfl⟩
theorem ky_yX7_who : gYV yX7_who cX7_who 5 (some .int) 2 7 := ⟨Tb_at 1034 (by decide +kernel) (by decide +kernel), Tb_at 71 (by decide +kernel) (by decide +kernel), Tb_at 1032 (by decide +kernel) (by decide +kernel), Tb_at 1033 (by decide +kernel) (by decide +kernel), ⟨by decide +kernel, by decide +kernel, by decide +kernel⟩, (RX7, TX7, 18), rfl, rfl⟩
theorem ky_yX7_go : gYV yX7_go cX7_go 2 (some .int) 1 7 := ⟨Tb_at 1042 (by decide +kernel) (by decide +kernel), Tb_at 71 (by decide +kernel) (by decide +kernel), Tb_at 1040 (by decide +kernel) (by decide +kernel), Tb_at 1041 (by decide +kernel) (by decide +kernel), ⟨by decide +kernel, by decide +kernel, by decide +kernel⟩, (RX7, TX7, 18), rfl, rfl⟩
theorem ky_yX7_wisest : gYV yX7_wisest cX7_wisest 3 (some .int) 0 7 := ⟨Tb_at 1087 (by decide +kernel) (by decide +kernel), Tb_at 71 (by decide +kernel) (by decide +kernel), Tb_at 1086 (by decide +kernel) (by decide +kernel), Tb_at 42 (by decide +kernel) (by decide +kernel), ⟨by decide +kernel, by decide +kernel, by decide +kernel⟩, (RX7, TX7, 18), rfl, rfl⟩
theorem ky_yX7_now : gYV yX7_now cX7_now 2 (some .int) 1 7 := ⟨Tb_at 1075 (by decide +kernel) (by decide +kernel), Tb_at 71 (by decide +kernel) (by decide +kernel), Tb_at 1073 (by decide +kernel) (by decide +kernel), Tb_at 1074 (by decide +kernel) (by decide +kernel), ⟨by decide +kernel, by decide +kernel, by decide +kernel⟩, (RX7, TX7, 18), rfl, rfl⟩
theorem ky_yX7_behind : gYV yX7_behind cX7_behind 4 (some .int) 2 7 := ⟨Tb_at 1099 (by decide +kernel) (by decide +kernel), Tb_at 71 (by decide +kernel) (by decide +kernel), Tb_at 1098 (by decide +kernel) (by decide +kernel), Tb_at 43 (by decide +kernel) (by decide +kernel), ⟨by decide +kernel, by decide +kernel, by decide +kernel⟩, (RX7, TX7, 18), rfl, rfl⟩
theorem ky_yX7_ahead : gYV yX7_ahead cX7_ahead 4 (some .int) 3 7 := ⟨Tb_at 1091 (by decide +kernel) (by decide +kernel), Tb_at 71 (by decide +kernel) (by decide +kernel), Tb_at 1089 (by decide +kernel) (by decide +kernel), Tb_at 1090 (by decide +kernel) (by decide +kernel), ⟨by decide +kernel, by decide +kernel, by decide +kernel⟩, (RX7, TX7, 18), rfl, rfl⟩
theorem ky_yX7_hears : gYV yX7_hears cX7_hears 5 (some .int) 2 7 := ⟨Tb_at 1103 (by decide +kernel) (by decide +kernel), Tb_at 71 (by decide +kernel) (by decide +kernel), Tb_at 1101 (by decide +kernel) (by decide +kernel), Tb_at 1102 (by decide +kernel) (by decide +kernel), ⟨by decide +kernel, by decide +kernel, by decide +kernel⟩, (RX7, TX7, 18), rfl, rfl⟩
theorem ky_yX7_wise : gYV yX7_wise cX7_wise 5 (some .int) 2 7 := ⟨Tb_at 1107 (by decide +kernel) (by decide +kernel), Tb_at 71 (by decide +kernel) (by decide +kernel), Tb_at 1105 (by decide +kernel) (by decide +kernel), Tb_at 1106 (by decide +kernel) (by decide +kernel), ⟨by decide +kernel, by decide +kernel, by decide +kernel⟩, (RX7, TX7, 18), rfl, rfl⟩
theorem ky_yX7_areKnown : gYV yX7_areKnown cX7_areKnown 2 (some .boolean) 1 7 := ⟨Tb_at 1120 (by decide +kernel) (by decide +kernel), Tb_at 71 (by decide +kernel) (by decide +kernel), Tb_at 1119 (by decide +kernel) (by decide +kernel), Tb_at 44 (by decide +kernel) (by decide +kernel), ⟨by decide +kernel, by decide +kernel, by decide +kernel⟩, (RX7, TX7, 18), rfl, rfl⟩
theorem ky_yX7_out : gYV yX7_out cX7_out 4 (some .int) 1 7 := ⟨Tb_at 1112 (by decide +kernel) (by decide +kernel), Tb_at 71 (by decide +kernel) (by decide +kernel), Tb_at 1110 (by decide +kernel) (by decide +kernel), Tb_at 1111 (by decide +kernel) (by decide +kernel), ⟨by decide +kernel, by decide +kernel, by decide +kernel⟩, (RX7, TX7, 18), rfl, rfl⟩
theorem ky_yX7_bestOf : gYV yX7_bestOf cX7_bestOf 9 (some .int) 4 7 := ⟨Tb_at 1128 (by decide +kernel) (by decide +kernel), Tb_at 71 (by decide +kernel) (by decide +kernel), Tb_at 1127 (by decide +kernel) (by decide +kernel), Tb_at 45 (by decide +kernel) (by decide +kernel), ⟨by decide +kernel, by decide +kernel, by decide +kernel⟩, (RX7, TX7, 18), rfl, rfl⟩
theorem ky_yX7_leave : gYV yX7_leave cX7_leave 3 (some .int) 2 7 := ⟨Tb_at 1124 (by decide +kernel) (by decide +kernel), Tb_at 71 (by decide +kernel) (by decide +kernel), Tb_at 1122 (by decide +kernel) (by decide +kernel), Tb_at 1123 (by decide +kernel) (by decide +kernel), ⟨by decide +kernel, by decide +kernel, by decide +kernel⟩, (RX7, TX7, 18), rfl, rfl⟩
theorem ky_yX7_openFor : gYV yX7_openFor cX7_openFor 5 (some .int) 3 7 := ⟨Tb_at 1132 (by decide +kernel) (by decide +kernel), Tb_at 71 (by decide +kernel) (by decide +kernel), Tb_at 1130 (by decide +kernel) (by decide +kernel), Tb_at 1131 (by decide +kernel) (by decide +kernel), ⟨by decide +kernel, by decide +kernel, by decide +kernel⟩, (RX7, TX7, 18), rfl, rfl⟩
theorem ky_yX7_kindFor : gYV yX7_kindFor cX7_kindFor 3 (some .int) 2 7 := ⟨Tb_at 1136 (by decide +kernel) (by decide +kernel), Tb_at 71 (by decide +kernel) (by decide +kernel), Tb_at 1134 (by decide +kernel) (by decide +kernel), Tb_at 1135 (by decide +kernel) (by decide +kernel), ⟨by decide +kernel, by decide +kernel, by decide +kernel⟩, (RX7, TX7, 18), rfl, rfl⟩
theorem ky_yX7_lower : gYV yX7_lower cX7_lower 4 (some .int) 1 7 := ⟨Tb_at 1140 (by decide +kernel) (by decide +kernel), Tb_at 71 (by decide +kernel) (by decide +kernel), Tb_at 1138 (by decide +kernel) (by decide +kernel), Tb_at 1139 (by decide +kernel) (by decide +kernel), ⟨by decide +kernel, by decide +kernel, by decide +kernel⟩, (RX7, TX7, 18), rfl, rfl⟩
theorem ky_yX7_cover : gYV yX7_cover cX7_cover 5 (some .int) 1 7 := ⟨Tb_at 1144 (by decide +kernel) (by decide +kernel), Tb_at 71 (by decide +kernel) (by decide +kernel), Tb_at 1142 (by decide +kernel) (by decide +kernel), Tb_at 1143 (by decide +kernel) (by decide +kernel), ⟨by decide +kernel, by decide +kernel, by decide +kernel⟩, (RX7, TX7, 18), rfl, rfl⟩
theorem ky_yX7_away : gYV yX7_away cX7_away 7 (some .int) 3 7 := ⟨Tb_at 1148 (by decide +kernel) (by decide +kernel), Tb_at 71 (by decide +kernel) (by decide +kernel), Tb_at 1146 (by decide +kernel) (by decide +kernel), Tb_at 1147 (by decide +kernel) (by decide +kernel), ⟨by decide +kernel, by decide +kernel, by decide +kernel⟩, (RX7, TX7, 18), rfl, rfl⟩
theorem ky_yX7_fitting : gYV yX7_fitting cX7_fitting 10 (some .int) 4 7 := ⟨Tb_at 1168 (by decide +kernel) (by decide +kernel), Tb_at 71 (by decide +kernel) (by decide +kernel), Tb_at 1167 (by decide +kernel) (by decide +kernel), Tb_at 48 (by decide +kernel) (by decide +kernel), ⟨by decide +kernel, by decide +kernel, by decide +kernel⟩, (RX7, TX7, 18), rfl, rfl⟩
theorem ky_yX7_whyNot : gYV yX7_whyNot cX7_whyNot 4 (some .int) 2 7 := ⟨Tb_at 1157 (by decide +kernel) (by decide +kernel), Tb_at 71 (by decide +kernel) (by decide +kernel), Tb_at 1156 (by decide +kernel) (by decide +kernel), Tb_at 46 (by decide +kernel) (by decide +kernel), ⟨by decide +kernel, by decide +kernel, by decide +kernel⟩, (RX7, TX7, 18), rfl, rfl⟩
theorem ky_yX7_fits : gYV yX7_fits cX7_fits 4 (some .int) 2 7 := ⟨Tb_at 1153 (by decide +kernel) (by decide +kernel), Tb_at 71 (by decide +kernel) (by decide +kernel), Tb_at 1151 (by decide +kernel) (by decide +kernel), Tb_at 1152 (by decide +kernel) (by decide +kernel), ⟨by decide +kernel, by decide +kernel, by decide +kernel⟩, (RX7, TX7, 18), rfl, rfl⟩
theorem ky_yX7_kinds : gYV yX7_kinds cX7_kinds 4 (some .int) 2 7 := ⟨Tb_at 1172 (by decide +kernel) (by decide +kernel), Tb_at 71 (by decide +kernel) (by decide +kernel), Tb_at 1170 (by decide +kernel) (by decide +kernel), Tb_at 1171 (by decide +kernel) (by decide +kernel), ⟨by decide +kernel, by decide +kernel, by decide +kernel⟩, (RX7, TX7, 18), rfl, rfl⟩
theorem ky_yX7_drawOne : gYV yX7_drawOne cX7_drawOne 1 (some .int) 0 7 := ⟨Tb_at 1180 (by decide +kernel) (by decide +kernel), Tb_at 71 (by decide +kernel) (by decide +kernel), Tb_at 1179 (by decide +kernel) (by decide +kernel), Tb_at 49 (by decide +kernel) (by decide +kernel), ⟨by decide +kernel, by decide +kernel, by decide +kernel⟩, (RX7, TX7, 18), rfl, rfl⟩
theorem ky_yX7_talk : gYV yX7_talk cX7_talk 6 (some .int) 1 7 := ⟨Tb_at 1176 (by decide +kernel) (by decide +kernel), Tb_at 71 (by decide +kernel) (by decide +kernel), Tb_at 1174 (by decide +kernel) (by decide +kernel), Tb_at 1175 (by decide +kernel) (by decide +kernel), ⟨by decide +kernel, by decide +kernel, by decide +kernel⟩, (RX7, TX7, 18), rfl, rfl⟩
theorem ky_yX7_odds : gYV yX7_odds cX7_odds 9 (some .long) 3 7 := ⟨Tb_at 1185 (by decide +kernel) (by decide +kernel), Tb_at 71 (by decide +kernel) (by decide +kernel), Tb_at 1183 (by decide +kernel) (by decide +kernel), Tb_at 1184 (by decide +kernel) (by decide +kernel), ⟨by decide +kernel, by decide +kernel, by decide +kernel⟩, (RX7, TX7, 18), rfl, rfl⟩
theorem ky_yX7_seed : gYV yX7_seed cX7_seed 2 (some .int) 1 7 := ⟨Tb_at 1189 (by decide +kernel) (by decide +kernel), Tb_at 71 (by decide +kernel) (by decide +kernel), Tb_at 1187 (by decide +kernel) (by decide +kernel), Tb_at 1188 (by decide +kernel) (by decide +kernel), ⟨by decide +kernel, by decide +kernel, by decide +kernel⟩, (RX7, TX7, 18), rfl, rfl⟩
theorem ky_yX7_feed : gYV yX7_feed cX7_feed 4 (some .int) 2 7 := ⟨Tb_at 1193 (by decide +kernel) (by decide +kernel), Tb_at 71 (by decide +kernel) (by decide +kernel), Tb_at 1191 (by decide +kernel) (by decide +kernel), Tb_at 1192 (by decide +kernel) (by decide +kernel), ⟨by decide +kernel, by decide +kernel, by decide +kernel⟩, (RX7, TX7, 18), rfl, rfl⟩
theorem ky_yX7_wipe : gYV yX7_wipe cX7_wipe 2 (some .int) 0 7 := ⟨Tb_at 1198 (by decide +kernel) (by decide +kernel), Tb_at 71 (by decide +kernel) (by decide +kernel), Tb_at 1196 (by decide +kernel) (by decide +kernel), Tb_at 1197 (by decide +kernel) (by decide +kernel), ⟨by decide +kernel, by decide +kernel, by decide +kernel⟩, (RX7, TX7, 18), rfl, rfl⟩
theorem ky_yX7_letter : gYS yX7_letter cX7_letter 1 (some .int) 1 := ⟨Tb_at 1217 (by decide +kernel) (by decide +kernel), Tb_at 71 (by decide +kernel) (by decide +kernel), Tb_at 1216 (by decide +kernel) (by decide +kernel), ⟨by decide +kernel, by decide +kernel, by decide +kernel⟩⟩
theorem ky_yX7_isDigit : gYS yX7_isDigit cX7_isDigit 1 (some .boolean) 1 := ⟨Tb_at 1222 (by decide +kernel) (by decide +kernel), Tb_at 71 (by decide +kernel) (by decide +kernel), Tb_at 1221 (by decide +kernel) (by decide +kernel), ⟨by decide +kernel, by decide +kernel, by decide +kernel⟩⟩
theorem ky_yX7_byteAt : gYV yX7_byteAt cX7_byteAt 2 (some .int) 1 7 := ⟨Tb_at 1214 (by decide +kernel) (by decide +kernel), Tb_at 71 (by decide +kernel) (by decide +kernel), Tb_at 1213 (by decide +kernel) (by decide +kernel), Tb_at 52 (by decide +kernel) (by decide +kernel), ⟨by decide +kernel, by decide +kernel, by decide +kernel⟩, (RX7, TX7, 18), rfl, rfl⟩
theorem ky_yX7_next : gYV yX7_next cX7_next 2 none 0 7 := ⟨Tb_at 1210 (by decide +kernel) (by decide +kernel), Tb_at 71 (by decide +kernel) (by decide +kernel), Tb_at 1209 (by decide +kernel) (by decide +kernel), Tb_at 51 (by decide +kernel) (by decide +kernel), ⟨by decide +kernel, by decide +kernel, by decide +kernel⟩, (RX7, TX7, 18), rfl, rfl⟩
theorem ky_yX7_wrongHere : gYV yX7_wrongHere cX7_wrongHere 1 none 0 7 := ⟨Tb_at 1251 (by decide +kernel) (by decide +kernel), Tb_at 71 (by decide +kernel) (by decide +kernel), Tb_at 1250 (by decide +kernel) (by decide +kernel), Tb_at 57 (by decide +kernel) (by decide +kernel), ⟨by decide +kernel, by decide +kernel, by decide +kernel⟩, (RX7, TX7, 18), rfl, rfl⟩
theorem ky_yX7_isWord : gYV yX7_isWord cX7_isWord 3 (some .boolean) 1 7 := ⟨Tb_at 1237 (by decide +kernel) (by decide +kernel), Tb_at 71 (by decide +kernel) (by decide +kernel), Tb_at 1236 (by decide +kernel) (by decide +kernel), Tb_at 55 (by decide +kernel) (by decide +kernel), ⟨by decide +kernel, by decide +kernel, by decide +kernel⟩, (RX7, TX7, 18), rfl, rfl⟩
theorem ky_yX7_kindHere : gYV yX7_kindHere cX7_kindHere 1 (some .int) 0 7 := ⟨Tb_at 1232 (by decide +kernel) (by decide +kernel), Tb_at 71 (by decide +kernel) (by decide +kernel), Tb_at 1231 (by decide +kernel) (by decide +kernel), Tb_at 54 (by decide +kernel) (by decide +kernel), ⟨by decide +kernel, by decide +kernel, by decide +kernel⟩, (RX7, TX7, 18), rfl, rfl⟩
theorem ky_yX7_numberHere : gYV yX7_numberHere cX7_numberHere 3 (some .int) 1 7 := ⟨Tb_at 1260 (by decide +kernel) (by decide +kernel), Tb_at 71 (by decide +kernel) (by decide +kernel), Tb_at 1259 (by decide +kernel) (by decide +kernel), Tb_at 59 (by decide +kernel) (by decide +kernel), ⟨by decide +kernel, by decide +kernel, by decide +kernel⟩, (RX7, TX7, 18), rfl, rfl⟩
theorem ky_yX7_perhaps : gYV yX7_perhaps cX7_perhaps 6 none 3 7 := ⟨Tb_at 1256 (by decide +kernel) (by decide +kernel), Tb_at 71 (by decide +kernel) (by decide +kernel), Tb_at 1255 (by decide +kernel) (by decide +kernel), Tb_at 58 (by decide +kernel) (by decide +kernel), ⟨by decide +kernel, by decide +kernel, by decide +kernel⟩, (RX7, TX7, 18), rfl, rfl⟩
theorem ky_yX7_gloveHere : gYV yX7_gloveHere cX7_gloveHere 3 none 1 7 := ⟨Tb_at 1247 (by decide +kernel) (by decide +kernel), Tb_at 71 (by decide +kernel) (by decide +kernel), Tb_at 1246 (by decide +kernel) (by decide +kernel), Tb_at 56 (by decide +kernel) (by decide +kernel), ⟨by decide +kernel, by decide +kernel, by decide +kernel⟩, (RX7, TX7, 18), rfl, rfl⟩
theorem ky_yX7_saidHere : gYV yX7_saidHere cX7_saidHere 5 none 0 7 := ⟨Tb_at 1268 (by decide +kernel) (by decide +kernel), Tb_at 71 (by decide +kernel) (by decide +kernel), Tb_at 1267 (by decide +kernel) (by decide +kernel), Tb_at 60 (by decide +kernel) (by decide +kernel), ⟨by decide +kernel, by decide +kernel, by decide +kernel⟩, (RX7, TX7, 18), rfl, rfl⟩
theorem ky_yX7_handHere : gYV yX7_handHere cX7_handHere 3 none 0 7 := ⟨Tb_at 1273 (by decide +kernel) (by decide +kernel), Tb_at 71 (by decide +kernel) (by decide +kernel), Tb_at 1272 (by decide +kernel) (by decide +kernel), Tb_at 61 (by decide +kernel) (by decide +kernel), ⟨by decide +kernel, by decide +kernel, by decide +kernel⟩, (RX7, TX7, 18), rfl, rfl⟩
theorem ky_yX7_item : gYV yX7_item cX7_item 2 none 0 7 := ⟨Tb_at 1228 (by decide +kernel) (by decide +kernel), Tb_at 71 (by decide +kernel) (by decide +kernel), Tb_at 1227 (by decide +kernel) (by decide +kernel), Tb_at 53 (by decide +kernel) (by decide +kernel), ⟨by decide +kernel, by decide +kernel, by decide +kernel⟩, (RX7, TX7, 18), rfl, rfl⟩
theorem ky_yX7_items : gYV yX7_items cX7_items 2 (some .int) 0 7 := ⟨Tb_at 1206 (by decide +kernel) (by decide +kernel), Tb_at 71 (by decide +kernel) (by decide +kernel), Tb_at 1205 (by decide +kernel) (by decide +kernel), Tb_at 50 (by decide +kernel) (by decide +kernel), ⟨by decide +kernel, by decide +kernel, by decide +kernel⟩, (RX7, TX7, 18), rfl, rfl⟩
theorem ky_yX7_text : gYV yX7_text cX7_text 2 (some .int) 0 7 := ⟨Tb_at 1202 (by decide +kernel) (by decide +kernel), Tb_at 71 (by decide +kernel) (by decide +kernel), Tb_at 1200 (by decide +kernel) (by decide +kernel), Tb_at 1201 (by decide +kernel) (by decide +kernel), ⟨by decide +kernel, by decide +kernel, by decide +kernel⟩, (RX7, TX7, 18), rfl, rfl⟩
theorem ky_yX7_hold : gYV yX7_hold cX7_hold 3 (some .int) 2 7 := ⟨Tb_at 1277 (by decide +kernel) (by decide +kernel), Tb_at 71 (by decide +kernel) (by decide +kernel), Tb_at 1275 (by decide +kernel) (by decide +kernel), Tb_at 1276 (by decide +kernel) (by decide +kernel), ⟨by decide +kernel, by decide +kernel, by decide +kernel⟩, (RX7, TX7, 18), rfl, rfl⟩
theorem ky_yX7_above : gYS yX7_above cX7_above 1 (some .int) 1 := ⟨Tb_at 1286 (by decide +kernel) (by decide +kernel), Tb_at 71 (by decide +kernel) (by decide +kernel), Tb_at 1285 (by decide +kernel) (by decide +kernel), ⟨by decide +kernel, by decide +kernel, by decide +kernel⟩⟩
theorem ky_yX7_as : gYV yX7_as cX7_as 5 (some .int) 2 7 := ⟨Tb_at 1283 (by decide +kernel) (by decide +kernel), Tb_at 71 (by decide +kernel) (by decide +kernel), Tb_at 1281 (by decide +kernel) (by decide +kernel), Tb_at 1282 (by decide +kernel) (by decide +kernel), ⟨by decide +kernel, by decide +kernel, by decide +kernel⟩, (RX7, TX7, 18), rfl, rfl⟩
theorem ky_yX7_isSheet : gYS yX7_isSheet cX7_isSheet 1 (some .boolean) 1 := ⟨Tb_at 1164 (by decide +kernel) (by decide +kernel), Tb_at 71 (by decide +kernel) (by decide +kernel), Tb_at 1163 (by decide +kernel) (by decide +kernel), ⟨by decide +kernel, by decide +kernel, by decide +kernel⟩⟩
theorem ky_yX7_sheet : gYV yX7_sheet cX7_sheet 5 (some .int) 3 7 := ⟨Tb_at 1290 (by decide +kernel) (by decide +kernel), Tb_at 71 (by decide +kernel) (by decide +kernel), Tb_at 1288 (by decide +kernel) (by decide +kernel), Tb_at 1289 (by decide +kernel) (by decide +kernel), ⟨by decide +kernel, by decide +kernel, by decide +kernel⟩, (RX7, TX7, 18), rfl, rfl⟩
theorem ky_yX7_whyNone : gYV yX7_whyNone cX7_whyNone 2 (some .int) 1 7 := ⟨Tb_at 1161 (by decide +kernel) (by decide +kernel), Tb_at 71 (by decide +kernel) (by decide +kernel), Tb_at 1160 (by decide +kernel) (by decide +kernel), Tb_at 47 (by decide +kernel) (by decide +kernel), ⟨by decide +kernel, by decide +kernel, by decide +kernel⟩, (RX7, TX7, 18), rfl, rfl⟩
theorem ky_yX7_write : gYV yX7_write cX7_write 5 (some .int) 3 7 := ⟨Tb_at 1294 (by decide +kernel) (by decide +kernel), Tb_at 71 (by decide +kernel) (by decide +kernel), Tb_at 1292 (by decide +kernel) (by decide +kernel), Tb_at 1293 (by decide +kernel) (by decide +kernel), ⟨by decide +kernel, by decide +kernel, by decide +kernel⟩, (RX7, TX7, 18), rfl, rfl⟩
theorem ky_yX7_copy : gYV yX7_copy cX7_copy 7 (some .int) 5 7 := ⟨Tb_at 1298 (by decide +kernel) (by decide +kernel), Tb_at 71 (by decide +kernel) (by decide +kernel), Tb_at 1296 (by decide +kernel) (by decide +kernel), Tb_at 1297 (by decide +kernel) (by decide +kernel), ⟨by decide +kernel, by decide +kernel, by decide +kernel⟩, (RX7, TX7, 18), rfl, rfl⟩
theorem ky_yX7_load : gYV yX7_load cX7_load 4 (some .int) 1 7 := ⟨Tb_at 1302 (by decide +kernel) (by decide +kernel), Tb_at 71 (by decide +kernel) (by decide +kernel), Tb_at 1300 (by decide +kernel) (by decide +kernel), Tb_at 1301 (by decide +kernel) (by decide +kernel), ⟨by decide +kernel, by decide +kernel, by decide +kernel⟩, (RX7, TX7, 18), rfl, rfl⟩
theorem ky_yX7_judge : gYV yX7_judge cX7_judge 4 (some .int) 1 7 := ⟨Tb_at 1306 (by decide +kernel) (by decide +kernel), Tb_at 71 (by decide +kernel) (by decide +kernel), Tb_at 1304 (by decide +kernel) (by decide +kernel), Tb_at 1305 (by decide +kernel) (by decide +kernel), ⟨by decide +kernel, by decide +kernel, by decide +kernel⟩, (RX7, TX7, 18), rfl, rfl⟩
theorem ky_yX7_image : gYV yX7_image cX7_image 1 (some .int) 0 7 := ⟨Tb_at 1310 (by decide +kernel) (by decide +kernel), Tb_at 71 (by decide +kernel) (by decide +kernel), Tb_at 1308 (by decide +kernel) (by decide +kernel), Tb_at 1309 (by decide +kernel) (by decide +kernel), ⟨by decide +kernel, by decide +kernel, by decide +kernel⟩, (RX7, TX7, 18), rfl, rfl⟩
theorem ky_yX7_undo : gYV yX7_undo cX7_undo 1 (some .int) 0 7 := ⟨Tb_at 1314 (by decide +kernel) (by decide +kernel), Tb_at 71 (by decide +kernel) (by decide +kernel), Tb_at 1312 (by decide +kernel) (by decide +kernel), Tb_at 1313 (by decide +kernel) (by decide +kernel), ⟨by decide +kernel, by decide +kernel, by decide +kernel⟩, (RX7, TX7, 18), rfl, rfl⟩
theorem ky_yX7_tear : gYV yX7_tear cX7_tear 2 (some .int) 0 7 := ⟨Tb_at 1318 (by decide +kernel) (by decide +kernel), Tb_at 71 (by decide +kernel) (by decide +kernel), Tb_at 1316 (by decide +kernel) (by decide +kernel), Tb_at 1317 (by decide +kernel) (by decide +kernel), ⟨by decide +kernel, by decide +kernel, by decide +kernel⟩, (RX7, TX7, 18), rfl, rfl⟩
theorem ky_yX7_holding : gYV yX7_holding cX7_holding 3 (some .int) 0 7 := ⟨Tb_at 1326 (by decide +kernel) (by decide +kernel), Tb_at 71 (by decide +kernel) (by decide +kernel), Tb_at 1325 (by decide +kernel) (by decide +kernel), Tb_at 62 (by decide +kernel) (by decide +kernel), ⟨by decide +kernel, by decide +kernel, by decide +kernel⟩, (RX7, TX7, 18), rfl, rfl⟩
theorem ky_yX7_count : gYV yX7_count cX7_count 2 (some .int) 1 7 := ⟨Tb_at 1322 (by decide +kernel) (by decide +kernel), Tb_at 71 (by decide +kernel) (by decide +kernel), Tb_at 1320 (by decide +kernel) (by decide +kernel), Tb_at 1321 (by decide +kernel) (by decide +kernel), ⟨by decide +kernel, by decide +kernel, by decide +kernel⟩, (RX7, TX7, 18), rfl, rfl⟩
theorem ky_yX7_status : gYV yX7_status cX7_status 4 (some .int) 1 7 := ⟨Tb_at 1330 (by decide +kernel) (by decide +kernel), Tb_at 71 (by decide +kernel) (by decide +kernel), Tb_at 1328 (by decide +kernel) (by decide +kernel), Tb_at 1329 (by decide +kernel) (by decide +kernel), ⟨by decide +kernel, by decide +kernel, by decide +kernel⟩, (RX7, TX7, 18), rfl, rfl⟩
theorem ky_yJ6_bitCount_0f7a4 : gYS yJ6_bitCount_0f7a4 cJ6_bitCount_0f7a4 1 (some .int) 1 := ⟨Tb_at 434 (by decide +kernel) (by decide +kernel), Tb_at 73 (by decide +kernel) (by decide +kernel), Tb_at 433 (by decide +kernel) (by decide +kernel), ⟨by decide +kernel, by decide +kernel, by decide +kernel⟩⟩
theorem ky_yJ9_floorMod_7cf53 : gYS yJ9_floorMod_7cf53 cJ9_floorMod_7cf53 3 (some .int) 2 := ⟨Tb_at 418 (by decide +kernel) (by decide +kernel), Tb_at 72 (by decide +kernel) (by decide +kernel), Tb_at 417 (by decide +kernel) (by decide +kernel), ⟨by decide +kernel, by decide +kernel, by decide +kernel⟩⟩
theorem ky_yJ9_max_7cf53 : gYS yJ9_max_7cf53 cJ9_max_7cf53 2 (some .int) 2 := ⟨Tb_at 346 (by decide +kernel) (by decide +kernel), Tb_at 72 (by decide +kernel) (by decide +kernel), Tb_at 345 (by decide +kernel) (by decide +kernel), ⟨by decide +kernel, by decide +kernel, by decide +kernel⟩⟩
theorem ky_yJ9_min_7cf53 : gYS yJ9_min_7cf53 cJ9_min_7cf53 2 (some .int) 2 := ⟨Tb_at 390 (by decide +kernel) (by decide +kernel), Tb_at 72 (by decide +kernel) (by decide +kernel), Tb_at 389 (by decide +kernel) (by decide +kernel), ⟨by decide +kernel, by decide +kernel, by decide +kernel⟩⟩
theorem kcode_yJ0_length_8abf5 : Cond.code yJ0_length_8abf5 cJ0_length_8abf5 1 (some .int) ∈ Tb := Tb_at 694 (by decide +kernel) (by decide +kernel)
theorem kinst_yJ0_length_8abf5 : Cond.instanceMethod yJ0_length_8abf5 ∈ Tb := Tb_at 692 (by decide +kernel) (by decide +kernel)
theorem ksel_yJ0_length_8abf5 : Cond.selects RJ0 yJ0_length_8abf5 yJ0_length_8abf5 ∈ Tb := Tb_at 693 (by decide +kernel) (by decide +kernel)
theorem kyd_yJ0_length_8abf5 : gYd yJ0_length_8abf5 0 := ⟨by decide +kernel, by decide +kernel, by decide +kernel⟩
theorem kcode_yJ0_charAt_5068e : Cond.code yJ0_charAt_5068e cJ0_charAt_5068e 2 (some .char) ∈ Tb := Tb_at 705 (by decide +kernel) (by decide +kernel)
theorem kinst_yJ0_charAt_5068e : Cond.instanceMethod yJ0_charAt_5068e ∈ Tb := Tb_at 703 (by decide +kernel) (by decide +kernel)
theorem ksel_yJ0_charAt_5068e : Cond.selects RJ0 yJ0_charAt_5068e yJ0_charAt_5068e ∈ Tb := Tb_at 704 (by decide +kernel) (by decide +kernel)
theorem kyd_yJ0_charAt_5068e : gYd yJ0_charAt_5068e 1 := ⟨by decide +kernel, by decide +kernel, by decide +kernel⟩
theorem kcode_yJ0_coder_7d493 : Cond.code yJ0_coder_7d493 cJ0_coder_7d493 1 (some .byte) ∈ Tb := Tb_at 698 (by decide +kernel) (by decide +kernel)
theorem kinst_yJ0_coder_7d493 : Cond.instanceMethod yJ0_coder_7d493 ∈ Tb := Tb_at 696 (by decide +kernel) (by decide +kernel)
theorem ksel_yJ0_coder_7d493 : Cond.selects RJ0 yJ0_coder_7d493 yJ0_coder_7d493 ∈ Tb := Tb_at 697 (by decide +kernel) (by decide +kernel)
theorem kyd_yJ0_coder_7d493 : gYd yJ0_coder_7d493 0 := ⟨by decide +kernel, by decide +kernel, by decide +kernel⟩
theorem kcode_yJ0_isLatin1_aae02 : Cond.code yJ0_isLatin1_aae02 cJ0_isLatin1_aae02 1 (some .boolean) ∈ Tb := Tb_at 709 (by decide +kernel) (by decide +kernel)
theorem kinst_yJ0_isLatin1_aae02 : Cond.instanceMethod yJ0_isLatin1_aae02 ∈ Tb := Tb_at 707 (by decide +kernel) (by decide +kernel)
theorem ksel_yJ0_isLatin1_aae02 : Cond.selects RJ0 yJ0_isLatin1_aae02 yJ0_isLatin1_aae02 ∈ Tb := Tb_at 708 (by decide +kernel) (by decide +kernel)
theorem kyd_yJ0_isLatin1_aae02 : gYd yJ0_isLatin1_aae02 0 := ⟨by decide +kernel, by decide +kernel, by decide +kernel⟩
theorem ky_yJ0_checkIndex_df160 : gYS yJ0_checkIndex_df160 cJ0_checkIndex_df160 2 none 2 := ⟨Tb_at 715 (by decide +kernel) (by decide +kernel), Tb_at 75 (by decide +kernel) (by decide +kernel), Tb_at 714 (by decide +kernel) (by decide +kernel), ⟨by decide +kernel, by decide +kernel, by decide +kernel⟩⟩
theorem ky_yJ1_charAt_3b067 : gYS yJ1_charAt_3b067 cJ1_charAt_3b067 2 (some .char) 2 := ⟨Tb_at 712 (by decide +kernel) (by decide +kernel), Tb_at 76 (by decide +kernel) (by decide +kernel), Tb_at 711 (by decide +kernel) (by decide +kernel), ⟨by decide +kernel, by decide +kernel, by decide +kernel⟩⟩
theorem ky_yJ2_getChar_3b067 : gYS yJ2_getChar_3b067 cJ2_getChar_3b067 2 (some .char) 2 := ⟨Tb_at 733 (by decide +kernel) (by decide +kernel), Tb_at 78 (by decide +kernel) (by decide +kernel), Tb_at 732 (by decide +kernel) (by decide +kernel), ⟨by decide +kernel, by decide +kernel, by decide +kernel⟩⟩
theorem ky_yJ2_length_9d52b : gYS yJ2_length_9d52b cJ2_length_9d52b 1 (some .int) 1 := ⟨Tb_at 729 (by decide +kernel) (by decide +kernel), Tb_at 78 (by decide +kernel) (by decide +kernel), Tb_at 728 (by decide +kernel) (by decide +kernel), ⟨by decide +kernel, by decide +kernel, by decide +kernel⟩⟩
theorem ky_yJ2_charAt_3b067 : gYS yJ2_charAt_3b067 cJ2_charAt_3b067 2 (some .char) 2 := ⟨Tb_at 723 (by decide +kernel) (by decide +kernel), Tb_at 78 (by decide +kernel) (by decide +kernel), Tb_at 722 (by decide +kernel) (by decide +kernel), ⟨by decide +kernel, by decide +kernel, by decide +kernel⟩⟩
theorem ky_yJ2_checkIndex_2214a : gYS yJ2_checkIndex_2214a cJ2_checkIndex_2214a 2 none 2 := ⟨Tb_at 726 (by decide +kernel) (by decide +kernel), Tb_at 78 (by decide +kernel) (by decide +kernel), Tb_at 725 (by decide +kernel) (by decide +kernel), ⟨by decide +kernel, by decide +kernel, by decide +kernel⟩⟩
theorem ky_yJ3_checkIndex_8e157 : gYS yJ3_checkIndex_8e157 cJ3_checkIndex_8e157 3 (some .int) 3 := ⟨Tb_at 720 (by decide +kernel) (by decide +kernel), Tb_at 77 (by decide +kernel) (by decide +kernel), Tb_at 719 (by decide +kernel) (by decide +kernel), ⟨by decide +kernel, by decide +kernel, by decide +kernel⟩⟩
end
section
/-! rows: what an object holds, by its number and the number of the place -/
abbrev gM : Type := Nat → Nat → Int32
/-- the run's constants: class numbers and slots; array classes; the bound of what stood at the start; the texts' addresses -/
abbrev gG : Type := va_G × (Nat → ClassId) × Nat × (Nat → Nat) × (Nat → Nat)
def gl (n : Nat) (ad : Nat → Nat) (E : Nat → va_E) : va_W := (List.range n).map (fun k => (ad k, E k))
theorem gl_at {n : Nat} {ad : Nat → Nat} {E : Nat → va_E} {k : Nat} (hk : k < n) : (gl n ad E)[k]? = some (ad k, E k) := by simp [gl, hk]
theorem gl_in {n : Nat} {ad : Nat → Nat} {E : Nat → va_E} {k : Nat} {q : Nat × va_E} (h : (gl n ad E)[k]? = some q) : k < n ∧ q = (ad k, E k) := by
  have hk : k < n := by
    have h1 := (List.getElem?_eq_some_iff.mp h).1
    simpa [gl] using h1
  rw [gl_at hk] at h
  exact ⟨hk, (Option.some.inj h).symm⟩
theorem gl_set {n : Nat} {ad : Nat → Nat} {E : Nat → va_E} {k : Nat} (hk : k < n) (x : va_E) : (gl n ad E).set k (ad k, x) = gl n ad (va_up E k x) := by
  apply List.ext_getElem?
  intro i
  by_cases hi : i = k
  · subst hi
    rw [gl_at hk, va_up_self, List.getElem?_set_self (by simpa [gl] using hk)]
  · rw [List.getElem?_set_ne (Ne.symm hi)]
    by_cases hn : i < n
    · rw [gl_at hn, gl_at hn, va_up_ne _ _ hi]
    · rw [List.getElem?_eq_none (by simp [gl]; omega), List.getElem?_eq_none (by simp [gl]; omega)]
def gA (n : Nat) (ad : Nat → Nat) : Nat → Prop := fun q => ∃ k, k < n ∧ q = ad k
def gI (b0 n : Nat) (ad : Nat → Nat) : Prop := (∀ i j, i < n → j < n → ad i = ad j → i = j) ∧ ∀ k, k < n → b0 ≤ ad k
def gP (D : va_G) (n : Nat) (ad : Nat → Nat) (E : Nat → va_E) (H : Heap) : Prop := ∀ k, k < n → va_at D vwCl (ad k, E k) H
theorem gP.w {D : va_G} {n : Nat} {ad : Nat → Nat} {E : Nat → va_E} {H : Heap} (h : gP D n ad E H) : va_P D vwCl (gl n ad E) H := fun k q hk => by
  obtain ⟨h1, rfl⟩ := gl_in hk
  exact h k h1
theorem gP.of {D : va_G} {n : Nat} {ad : Nat → Nat} {E : Nat → va_E} {H : Heap} (h : va_P D vwCl (gl n ad E) H) : gP D n ad E H := fun k hk => h k _ (gl_at hk)
theorem gP.to {D : va_G} {n : Nat} {ad : Nat → Nat} {E E' : Nat → va_E} {H : Heap} (h : gP D n ad E H) (e : ∀ k, k < n → E k = E' k) : gP D n ad E' H := fun k hk => by rw [← e k hk]; exact h k hk
theorem gI.D {b0 n : Nat} {ad : Nat → Nat} (h : gI b0 n ad) (E : Nat → va_E) : va_D (gA n ad) (gl n ad E) := by
  refine ⟨fun i j p q hi hj he => ?_, fun k q hk => ?_⟩
  · obtain ⟨h1, rfl⟩ := gl_in hi
    obtain ⟨h2, rfl⟩ := gl_in hj
    exact h.1 i j h1 h2 he
  · obtain ⟨h1, rfl⟩ := gl_in hk
    exact ⟨k, h1, rfl⟩
theorem gI.sub {b0 n m : Nat} {ad : Nat → Nat} (h : gI b0 n ad) (o : Nat) (hm : o + m ≤ n) : gI b0 m (fun i => ad (o + i)) :=
  ⟨fun i j hi hj e => by have := h.1 (o + i) (o + j) (by omega) (by omega) e; omega, fun k hk => h.2 (o + k) (by omega)⟩
theorem gI.pick {b0 n m : Nat} {ad : Nat → Nat} (h : gI b0 n ad) (f : Nat → Nat) (hf : ∀ i, i < m → f i < n) (hj : ∀ i j, i < m → j < m → f i = f j → i = j) : gI b0 m (fun i => ad (f i)) :=
  ⟨fun i j hi hj' e => hj i j hi hj' (h.1 (f i) (f j) (hf i hi) (hf j hj') e), fun k hk => h.2 (f k) (hf k hk)⟩
theorem gA.b0 {b0 n : Nat} {ad : Nat → Nat} (h : gI b0 n ad) {q : Nat} (hq : gA n ad q) : b0 ≤ q := by
  obtain ⟨k, hk, rfl⟩ := hq
  exact h.2 k hk
theorem gS_b0 {b0 n : Nat} {ad : Nat → Nat} (h : gI b0 n ad) {H0 H : Heap} {locs : List Loc} (hS : va_S (gA n ad) H0 H locs) : va_S (fun q => b0 ≤ q) H0 H locs :=
  ⟨hS.1, fun q h1 h2 => hS.2.1 q h1 (fun z => h2 (gA.b0 h z)), fun l hl => gA.b0 h (hS.2.2 l hl)⟩
/-- rows under a shape -/
abbrev gE (e : Nat → (Nat → Int32) → va_E) (σ : gM) : Nat → va_E := fun k => e k (σ k)
/-- a part of the rows, and a part put back -/
def mget (σ : gM) (o : Nat) : gM := fun k => σ (o + k)
def mput (σ : gM) (o m : Nat) (τ : gM) : gM := fun k => if o ≤ k ∧ k < o + m then τ (k - o) else σ k
def mset (σ : gM) (k j : Nat) (x : Int32) : gM := va_up σ k (upd (σ k) j x)
theorem mset_at (σ : gM) (k j : Nat) (x : Int32) : mset σ k j x k = upd (σ k) j x := va_up_self _ _ _
theorem mset_ne (σ : gM) {k i : Nat} (j : Nat) (x : Int32) (h : i ≠ k) : mset σ k j x i = σ i := va_up_ne _ _ h
theorem mput_in (σ τ : gM) {o m i : Nat} (h : i < m) : mput σ o m τ (o + i) = τ i := by
  unfold mput
  rw [if_pos ⟨Nat.le_add_right _ _, by omega⟩]
  congr 1
  omega
theorem mput_out (σ τ : gM) {o m k : Nat} (h : k < o ∨ o + m ≤ k) : mput σ o m τ k = σ k := if_neg (by omega)
/-! statics and texts that nobody writes -/
def gTab (n : String) (N : Nat) (f : List Int32) (b0 : Nat) (U : State) : Prop := ∃ t : Nat, va_Z "LeftGloves$Glove" n "[I" (.ref t) (fun q => b0 ≤ q) U U.heap ∧ va_T .int t N (fun j => .int (f.getD j 0)) (fun q => b0 ≤ q) U U.heap
def tb_above : List Int32 := [-1, 0, 0, 2, 3, 0, 1]
def tb_stays : List Int32 := [7, 5, 14, 14, 0, 0, 5]
def tb_keeps : List Int32 := [6, 8, 3, 3, 3, 16, 10]
def tb_most : List Int32 := [6, 5, 9, 65535, 9999, 65535, 9999]
def tx_w : List String := ["glove", "kidskin", "mitten", "lady", "burnt", "stiff", "double", "in", "open", "knows", "lies", "said", "hand"]
def tx_i : List Nat := [94, 70, 72, 74, 76, 78, 80, 82, 84, 86, 88, 90, 92]
def tx_len : List Nat := [5, 7, 6, 4, 5, 5, 6, 2, 4, 5, 4, 4, 4]
def tx_b : List (List Int32) := [[103, 108, 111, 118, 101], [107, 105, 100, 115, 107, 105, 110], [109, 105, 116, 116, 101, 110], [108, 97, 100, 121], [98, 117, 114, 110, 116], [115, 116, 105, 102, 102], [100, 111, 117, 98, 108, 101], [105, 110], [111, 112, 101, 110], [107, 110, 111, 119, 115], [108, 105, 101, 115], [115, 97, 105, 100], [104, 97, 110, 100]]
def gNest : List Cond := [.methodLinkNest "LeftGloves$Club" 17 yX1_init "LeftGloves", .methodLinkNest "LeftGloves$Club" 22 yX6_sayingOf "LeftGloves", .methodLinkNest "LeftGloves$Club" 60 yX6_isIn "LeftGloves", .methodLinkNest "LeftGloves$Club" 89 yX6_roomOf "LeftGloves", .methodLinkNest "LeftGloves$Club" 92 yX6_topicOf "LeftGloves", .methodLinkNest "LeftGloves$Club" 49 yX6_isWithin "LeftGloves", .methodLinkNest "LeftGloves$Glove" 11 yX6_isWithin "LeftGloves", .methodLinkNest "LeftGloves$Club" 114 yX6_loudOf "LeftGloves", .methodLinkNest "LeftGloves$Tape" 19 yX6_isWithin "LeftGloves", .methodLinkNest "LeftGloves$Tokens" 51 yX6_isWithin "LeftGloves", .methodLinkNest "LeftGloves$TextReader" 63 yX6_sayingOf "LeftGloves", .methodLinkNest "LeftGloves$TextReader" 80 yX6_isWithin "LeftGloves", .methodLinkNest "LeftGloves$Sheet" 22 yX6_isWithin "LeftGloves"]
theorem gNest_is : ∀ w ∈ gNest, ∃ a i x h, w = .methodLinkNest a i x h := by
  intro w hw
  simp only [gNest, List.mem_cons, List.not_mem_nil, or_false] at hw
  rcases hw with h | h | h | h | h | h | h | h | h | h | h | h | h <;> exact ⟨_, _, _, _, h⟩
def gTys (cy : Nat → ClassId) : List (ClassId × FieldType) := [(cy 0, .int), (cy 1, .byte), (cy 2, .object "LeftGloves$Glove"), (cy 3, .object "LeftGloves$Sheet")]
def gSt (b0 : Nat) (aK aV : Nat → Nat) (U : State) : Prop := vk_S 13 tx_len tx_b aK aV (fun q => b0 ≤ q) U U.heap ∧ (∀ i, i < 13 → vk_R "LeftGloves$Tokens" (tx_i.getD i 0) (tx_w.getD i "") (aK i) U) ∧ va_Z "java/lang/String" "COMPACT_STRINGS" "Z" (.int 1) (fun q => b0 ≤ q) U U.heap ∧ va_Zq "jdk/internal/util/Preconditions" "SIOOBE_FORMATTER" "Ljava/util/function/BiFunction;" (fun q => b0 ≤ q) U U.heap
/-- what the machine's tables and the cells of the start say, at a state -/
def gX (G : gG) (U : State) : Prop := va_K G.1 vwCl (gTys G.2.1) U ∧ (∀ w ∈ gNest, va_Nw w U) ∧ (gTab "ABOVE" 7 tb_above G.2.2.1 U ∧ gTab "STAYS_BY_KIND" 7 tb_stays G.2.2.1 U ∧ gTab "KEEPS_BY_KIND" 7 tb_keeps G.2.2.1 U ∧ gTab "MOST" 7 tb_most G.2.2.1 U) ∧ gSt G.2.2.1 G.2.2.2.1 G.2.2.2.2 U
theorem gTab.go {n : String} {N : Nat} {f : List Int32} {b0 : Nat} {s U : State} (h : gTab n N f b0 s) (hv : s.vm.Alike U.vm) (hq : ∀ a : Nat, a < s.heap.size → ¬ b0 ≤ a → U.heap[a]? = s.heap[a]?) : gTab n N f b0 U := by
  obtain ⟨t, h1, h2⟩ := h
  exact ⟨t, (h1.kept hq).moved hv, (h2.kept hq).moved hv⟩
theorem gX.go {G : gG} {s U : State} (h : gX G s) (hW : s.WarmedH U.vm) (hq : ∀ a : Nat, a < s.heap.size → ¬ G.2.2.1 ≤ a → U.heap[a]? = s.heap[a]?) : gX G U := by
  obtain ⟨h1, h2, ⟨t1, t2, t3, t4⟩, s1, s2, s3, s4⟩ := h
  refine ⟨va_K.moved hW.alike h1, fun w hw => ?_, ⟨t1.go hW.alike hq, t2.go hW.alike hq, t3.go hW.alike hq, t4.go hW.alike hq⟩, (s1.kept hq).moved hW.alike, fun i hi => (s2 i hi).warm hW, (s3.kept hq).moved hW.alike, (s4.kept hq).moved hW.alike⟩
  obtain ⟨a, i, x, k, rfl⟩ := gNest_is w hw
  exact va_Nw.warmM hW (h2 _ hw)
end
section
/-- what a method's body may take of the machine -/
def gB (p : Program) (s : State) (m : MethodId) (args : Array Value) (meth : Method) (c : Code) (b : ByteArray) (maxL : Nat) (ret : Option FieldType) (own : String) : Prop :=
  CallFix p m c b maxL s args Tb own ∧ meth.sig.returnType = ret ∧ meth.locks = false
theorem g_start {l : Launch} {y : MethodName} {b : ByteArray} {maxL : Nat} {ret : Option FieldType} {rm : Room} {Z : State → Prop} {Qc : Array Value → State → Outcome → State → Prop} {mc ms : Nat} {free : Addr → Prop} (av : List Value) (hy : plainFor y = true) (hsl : (lg_sl av).length ≤ maxL)
    (body : ∀ (p : Program) (e : Env) (s : State) (m : MethodId) (below : List Frame) (meth : Method) (c : Code) (ls : Array Slot), gB p s m av.toArray meth c b maxL ret y.cls → Z s → lv_has ls maxL (lv_args 0 av) → W p l e rm s m av.toArray below meth c s.heap [] 0 0 (MQ below Qc av.toArray s mc ms free) (F0 m 0 ls [])) :
    Met l y (tW y b maxL ret) rm (fun v U => v = av.toArray ∧ Z U) Qc mc ms free := by
  refine va_MetF (cc := b) (maxL := maxL) (ret := ret) hy rfl ?_
  intro p e s m args below meth c s₁ B hml hv
  obtain ⟨rfl, hZ⟩ := hv
  have hts := atoms_spec (ws := tW y b maxL ret) B.pre
  have hl := lv_entry av (n := maxL) hsl
  rw [lg_entry_eq]
  exact body p e s m below meth c _ ⟨⟨B.exec, B.bytes, hml, findClass_of_methodNamed B.named, fun w h => hts w (List.mem_cons_of_mem _ h)⟩, B.returns, B.notSynchronized⟩ hZ hl
/-- the contracts: a function of its numbers; a reader of a world; a writer of a world -/
def gPure (l : Launch) (y : MethodName) (b : ByteArray) (maxL : Nat) (ret : Option FieldType) (rm : Room) (av : List Value) (r : Int32) : Prop :=
  Met l y (tW y b maxL ret) rm (fun v U => v = av.toArray ∧ (fun _ => True) U) (vp_Si (fun x => x = r)) 0 0 (fun _ => False)
def gPureL (l : Launch) (y : MethodName) (b : ByteArray) (maxL : Nat) (ret : Option FieldType) (rm : Room) (av : List Value) (r : Int64) : Prop :=
  Met l y (tW y b maxL ret) rm (fun v U => v = av.toArray ∧ (fun _ => True) U) (vp_Sl (fun x => x = r)) 0 0 (fun _ => False)
def gZ (G : gG) (n : Nat) (ad : Nat → Nat) (E : Nat → va_E) (U : State) : Prop := gX G U ∧ gP G.1 n ad E U.heap
def gRead (l : Launch) (y : MethodName) (b : ByteArray) (maxL : Nat) (ret : Option FieldType) (rm : Room) (G : gG) (av : List Value) (n : Nat) (ad : Nat → Nat) (E : Nat → va_E) (r : Int32) : Prop :=
  Met l y (tW y b maxL ret) rm (fun v U => v = av.toArray ∧ gZ G n ad E U) (vp_Si (fun x => x = r)) 0 0 (fun _ => False)
def gMutV (l : Launch) (y : MethodName) (b : ByteArray) (maxL : Nat) (ret : Option FieldType) (rm : Room) (G : gG) (av : List Value) (n : Nat) (ad : Nat → Nat) (sh : Nat → (Nat → Int32) → va_E) (σ : gM) (r : gM) : Prop :=
  Met l y (tW y b maxL ret) rm (fun v U => v = av.toArray ∧ gZ G n ad (gE sh σ) U) (va_Qv (fun τ : gM => τ = r) (fun τ t => gP G.1 n ad (gE sh τ) t.heap) (gA n ad)) 0 0 (gA n ad)
def gMutI (l : Launch) (y : MethodName) (b : ByteArray) (maxL : Nat) (ret : Option FieldType) (rm : Room) (G : gG) (av : List Value) (n : Nat) (ad : Nat → Nat) (sh : Nat → (Nat → Int32) → va_E) (σ : gM) (r : Int32 × gM) : Prop :=
  Met l y (tW y b maxL ret) rm (fun v U => v = av.toArray ∧ gZ G n ad (gE sh σ) U) (va_Qi (fun (x : Int32) (τ : gM) => r = (x, τ)) (fun τ t => gP G.1 n ad (gE sh τ) t.heap) (gA n ad)) 0 0 (gA n ad)
def gMutL (l : Launch) (y : MethodName) (b : ByteArray) (maxL : Nat) (ret : Option FieldType) (rm : Room) (G : gG) (av : List Value) (n : Nat) (ad : Nat → Nat) (sh : Nat → (Nat → Int32) → va_E) (σ : gM) (r : Int64 × gM) : Prop :=
  Met l y (tW y b maxL ret) rm (fun v U => v = av.toArray ∧ gZ G n ad (gE sh σ) U) (va_Ql (fun (x : Int64) (τ : gM) => r = (x, τ)) (fun τ t => gP G.1 n ad (gE sh τ) t.heap) (gA n ad)) 0 0 (gA n ad)
def gRm (rm R : Room) (maxL : Nat) : Prop := rm.cells = 0 ∧ rm.slots = 0 ∧ rm.frames + 1 ≤ R.frames ∧ 8 + (maxL + 11) + rm.locals ≤ R.locals
theorem lv_cast {ty : FieldType} {v : Int32} (h : ty = .int) : narrow ty (.int v) = .int v := by subst h; rfl
section
variable {p : Program} {l : Launch} {e : Env} {R : Room} {s : State} {m : MethodId} {args : Array Value} {below : List Frame} {meth : Method} {c : Code} {H : Heap} {locs : List Loc} {cells slots : Nat} {Q : State → Prop} {cc : ByteArray} {pc : Nat} {ls : Array Slot} {rest : List Value} {G : gG} {n : Nat} {ad : Nat → Nat} {sh : Nat → (Nat → Int32) → va_E} {σ : gM} {own : String} {nL : Nat} {index : Nat}
theorem lv_as {x y : Int32} (h : x = y) (k : W p l e R s m args below meth c H locs cells slots Q (F0 m pc ls (.int y :: rest))) : W p l e R s m args below meth c H locs cells slots Q (F0 m pc ls (.int x :: rest)) := h ▸ k
theorem lv_as1 {x y : Int32} {v : Value} (h : x = y) (k : W p l e R s m args below meth c H locs cells slots Q (F0 m pc ls (v :: .int y :: rest))) : W p l e R s m args below meth c H locs cells slots Q (F0 m pc ls (v :: .int x :: rest)) := h ▸ k
theorem g_get {ci j : Nat} {fin : Bool} {ty : FieldType} (F : gFd own index ci j fin ty) (C : CallFix p m c cc nL s args Tb own) (hX : gX G s) {E : Nat → va_E} (hP : gP G.1 n ad E H) (k : Nat) (hk : k < n) {fs : List Value} (hE : E k = .inr (ci, fs)) {v : Value} (hv : fs[j]? = some v) (hdg : decode cc pc = .ok (.getfield index, 3))
    (kk : W p l e R s m args below meth c H locs cells slots Q (F0 m (pc + 3) ls (v :: rest))) : W p l e R s m args below meth c H locs cells slots Q (F0 m pc ls (.ref (ad k) :: rest)) := by
  obtain ⟨⟨C0, T, N⟩, hc, hj, hin, hlk, -, -, -, -⟩ := F
  obtain ⟨hx, hb, -, hown, hts⟩ := C
  exact va_get hx hb hts hin hown hX.1 hP.w k (by rw [gl_at hk]; exact congrArg (fun z => some (ad k, z)) hE) hc j hj (hts _ hlk) (fun _ h => h) hv hdg kk
theorem g_put {ci j : Nat} {ty : FieldType} (F : gFd own index ci j false ty) (C : CallFix p m c cc nL s args Tb own) (hX : gX G s) {b0 : Nat} (hI : gI b0 n ad) (hP : gP G.1 n ad (gE sh σ) H) (hS : va_S (gA n ad) s.heap H locs) (k : Nat) (hk : k < n) {fs : List Value} (hE : sh k (σ k) = .inr (ci, fs)) {v : Value} (hn : narrow ty v = v) (hfit : fits ty v = true) (hl : j < fs.length) (f' : Nat → Int32) (hs : (.inr (ci, fs.set j v) : va_E) = sh k f') (hdg : decode cc pc = .ok (.putfield index, 3))
    (kk : ∀ (H1 : Heap) (locs1 : List Loc), gP G.1 n ad (gE sh (va_up σ k f')) H1 → va_S (gA n ad) s.heap H1 locs1 → W p l e R s m args below meth c H1 locs1 cells slots Q (F0 m (pc + 3) ls rest)) : W p l e R s m args below meth c H locs cells slots Q (F0 m pc ls (v :: .ref (ad k) :: rest)) := by
  obtain ⟨⟨C0, T, N⟩, hc, hj, hin, hlk, hfin, hd, ⟨t, hty⟩, hnm⟩ := F
  obtain ⟨hx, hb, -, hown, hts⟩ := C
  refine va_put hx hb hts hin t hty hnm hown hX.1 hP.w (hI.D _) hS k (by rw [gl_at hk]; exact congrArg (fun z => some (ad k, z)) hE) hc j hj (hts _ hlk) (fun _ h => h) hfin hd hn hfit hl hdg (fun H1 l1 hP1 _ hS1 => kk H1 l1 ?_ hS1)
  rw [gl_set hk] at hP1
  refine (gP.of hP1).to (fun i hi => ?_)
  by_cases h : i = k
  · subst h
    rw [va_up_self]
    show _ = sh i (va_up σ i f' i)
    rw [va_up_self]
    exact hs
  · rw [va_up_ne _ _ h]
    show sh i (σ i) = sh i (va_up σ k f' i)
    rw [va_up_ne _ _ h]
theorem g_iald (C : CallFix p m c cc nL s args Tb own) (hX : gX G s) {E : Nat → va_E} (hP : gP G.1 n ad E H) (k : Nat) (hk : k < n) {N : Nat} {f : Nat → Int32} (hE : E k = .inl (G.2.1 0, N, .inl f)) (i : Nat) (hi : i < N) (hN : N < 2 ^ 31) (hdg : decode cc pc = .ok (.iaload, 1))
    (kk : W p l e R s m args below meth c H locs cells slots Q (F0 m (pc + 1) ls (.int (f i) :: rest))) : W p l e R s m args below meth c H locs cells slots Q (F0 m pc ls (.int (nI i) :: .ref (ad k) :: rest)) := by
  obtain ⟨hx, hb, -, hown, hts⟩ := C
  refine va_iald hx hb hX.1 hP.w k 0 (by rw [gl_at hk]; exact congrArg (fun z => some (ad k, z)) hE) rfl (vp_in_nI hi hN) hdg ?_
  rw [nI_clamp (by omega)]
  exact kk
theorem g_bald (C : CallFix p m c cc nL s args Tb own) (hX : gX G s) {E : Nat → va_E} (hP : gP G.1 n ad E H) (k : Nat) (hk : k < n) {N : Nat} {f : Nat → Int32} (hE : E k = .inl (G.2.1 1, N, .inl f)) (i : Nat) (hi : i < N) (hN : N < 2 ^ 31) (hdg : decode cc pc = .ok (.baload, 1))
    (kk : W p l e R s m args below meth c H locs cells slots Q (F0 m (pc + 1) ls (.int (f i) :: rest))) : W p l e R s m args below meth c H locs cells slots Q (F0 m pc ls (.int (nI i) :: .ref (ad k) :: rest)) := by
  obtain ⟨hx, hb, -, hown, hts⟩ := C
  refine va_bald hx hb hX.1 hP.w k 1 (by rw [gl_at hk]; exact congrArg (fun z => some (ad k, z)) hE) rfl (vp_in_nI hi hN) hdg ?_
  rw [nI_clamp (by omega)]
  exact kk
theorem g_aald (C : CallFix p m c cc nL s args Tb own) (hX : gX G s) {E : Nat → va_E} (hP : gP G.1 n ad E H) (k : Nat) (hk : k < n) {N t0 : Nat} {cA : ClassId} {C0 : String} {f : Nat → Option Nat} (hE : E k = .inl (cA, N, .inr (.inr (.inr (.inr f))))) (ht : (gTys G.2.1)[t0]? = some (cA, .object C0)) (i : Nat) (hi : i < N) (hN : N < 2 ^ 31) {a : Nat} (ha : f i = some a) (hdg : decode cc pc = .ok (.aaload, 1))
    (kk : W p l e R s m args below meth c H locs cells slots Q (F0 m (pc + 1) ls (.ref a :: rest))) : W p l e R s m args below meth c H locs cells slots Q (F0 m pc ls (.int (nI i) :: .ref (ad k) :: rest)) := by
  obtain ⟨hx, hb, -, hown, hts⟩ := C
  refine va_aldq hx hb hX.1 hP.w k t0 (by rw [gl_at hk]; exact congrArg (fun z => some (ad k, z)) hE) ht (vp_in_nI hi hN) hdg ?_
  rw [nI_clamp (by omega), ha]
  exact kk
theorem g_iast (C : CallFix p m c cc nL s args Tb own) (hX : gX G s) {b0 : Nat} (hI : gI b0 n ad) (hP : gP G.1 n ad (gE sh σ) H) (hS : va_S (gA n ad) s.heap H locs) (k : Nat) (hk : k < n) {N : Nat} {f : Nat → Int32} (hE : sh k (σ k) = .inl (G.2.1 0, N, .inl f)) (i : Nat) (hi : i < N) (hN : N < 2 ^ 31) {x : Int32} (f' : Nat → Int32) (hs : (.inl (G.2.1 0, N, .inl (upd f i x)) : va_E) = sh k f') (hdg : decode cc pc = .ok (.iastore, 1))
    (kk : ∀ (H1 : Heap) (locs1 : List Loc), gP G.1 n ad (gE sh (va_up σ k f')) H1 → va_S (gA n ad) s.heap H1 locs1 → W p l e R s m args below meth c H1 locs1 cells slots Q (F0 m (pc + 1) ls rest)) : W p l e R s m args below meth c H locs cells slots Q (F0 m pc ls (.int x :: .int (nI i) :: .ref (ad k) :: rest)) := by
  obtain ⟨hx, hb, -, hown, hts⟩ := C
  refine va_iast hx hb hX.1 hP.w (hI.D _) hS k 0 (by rw [gl_at hk]; exact congrArg (fun z => some (ad k, z)) hE) rfl (vp_in_nI hi hN) hdg (fun H1 l1 hP1 _ hS1 => kk H1 l1 ?_ hS1)
  rw [gl_set hk, nI_clamp (by omega)] at hP1
  refine (gP.of hP1).to (fun j hj => ?_)
  by_cases h : j = k
  · subst h
    rw [va_up_self]
    show _ = sh j (va_up σ j f' j)
    rw [va_up_self]
    exact hs
  · rw [va_up_ne _ _ h]
    show sh j (σ j) = sh j (va_up σ k f' j)
    rw [va_up_ne _ _ h]
theorem g_bast (C : CallFix p m c cc nL s args Tb own) (hX : gX G s) {b0 : Nat} (hI : gI b0 n ad) (hP : gP G.1 n ad (gE sh σ) H) (hS : va_S (gA n ad) s.heap H locs) (k : Nat) (hk : k < n) {N : Nat} {f : Nat → Int32} (hE : sh k (σ k) = .inl (G.2.1 1, N, .inl f)) (i : Nat) (hi : i < N) (hN : N < 2 ^ 31) {x : Int32} (f' : Nat → Int32) (hs : (.inl (G.2.1 1, N, .inl (upd f i x.toInt8.toInt32)) : va_E) = sh k f') (hdg : decode cc pc = .ok (.bastore, 1))
    (kk : ∀ (H1 : Heap) (locs1 : List Loc), gP G.1 n ad (gE sh (va_up σ k f')) H1 → va_S (gA n ad) s.heap H1 locs1 → W p l e R s m args below meth c H1 locs1 cells slots Q (F0 m (pc + 1) ls rest)) : W p l e R s m args below meth c H locs cells slots Q (F0 m pc ls (.int x :: .int (nI i) :: .ref (ad k) :: rest)) := by
  obtain ⟨hx, hb, -, hown, hts⟩ := C
  refine va_bast hx hb hX.1 hP.w (hI.D _) hS k 1 (by rw [gl_at hk]; exact congrArg (fun z => some (ad k, z)) hE) rfl (vp_in_nI hi hN) hdg (fun H1 l1 hP1 _ hS1 => kk H1 l1 ?_ hS1)
  rw [gl_set hk, nI_clamp (by omega), vp_nar_byte] at hP1
  refine (gP.of hP1).to (fun j hj => ?_)
  by_cases h : j = k
  · subst h
    rw [va_up_self]
    show _ = sh j (va_up σ j f' j)
    rw [va_up_self]
    exact hs
  · rw [va_up_ne _ _ h]
    show sh j (σ j) = sh j (va_up σ k f' j)
    rw [va_up_ne _ _ h]
/-- a static table, and one of its places -/
theorem g_gets {nm : String} {t b0 : Nat} (hZ : va_Z "LeftGloves$Glove" nm "[I" (.ref t) (fun q => b0 ≤ q) s s.heap) (C : CallFix p m c cc nL s args Tb own) (hS : va_S (fun q => b0 ≤ q) s.heap H locs) (hl : Cond.fieldLink own index "LeftGloves$Glove" nm "[I" ∈ Tb) (hdg : decode cc pc = .ok (.getstatic index, 3))
    (kk : W p l e R s m args below meth c H locs cells slots Q (F0 m (pc + 3) ls (.ref t :: rest))) : W p l e R s m args below meth c H locs cells slots Q (F0 m pc ls rest) := by
  obtain ⟨hx, hb, -, hown, hts⟩ := C
  exact va_gets hx hb hZ hS hown (hts _ hl) (fun _ h => h) hdg kk
theorem g_ti {t b0 N : Nat} {f : Nat → Int32} (hT : va_T .int t N (fun j => .int (f j)) (fun q => b0 ≤ q) s s.heap) (C : CallFix p m c cc nL s args Tb own) (hS : va_S (fun q => b0 ≤ q) s.heap H locs) (i : Nat) (hi : i < N) (hN : N < 2 ^ 31) (hdg : decode cc pc = .ok (.iaload, 1))
    (kk : W p l e R s m args below meth c H locs cells slots Q (F0 m (pc + 1) ls (.int (f i) :: rest))) : W p l e R s m args below meth c H locs cells slots Q (F0 m pc ls (.int (nI i) :: .ref t :: rest)) := by
  obtain ⟨hx, hb, -, hown, hts⟩ := C
  exact va_ti hx hb hT hS (vp_in_nI hi hN) (by show Value.int (f (nI i).toNatClampNeg) = _; rw [nI_clamp (by omega)]) hdg kk
end
end
section
theorem gX.same {G : gG} {u U : State} (h : gX G u) (hv : U.vm = u.vm) (hh : U.heap = u.heap) : gX G U := by
  obtain ⟨h1, h2, ⟨t1, t2, t3, t4⟩, s1, s2, s3, s4⟩ := h
  have ha : u.vm.Alike U.vm := by rw [hv]; exact Vm.Alike.refl _
  have hq : ∀ a : Nat, a < u.heap.size → ¬ G.2.2.1 ≤ a → U.heap[a]? = u.heap[a]? := fun a _ _ => by rw [hh]
  refine ⟨va_K.moved ha h1, fun w hw => ?_, ⟨t1.go ha hq, t2.go ha hq, t3.go ha hq, t4.go ha hq⟩, (s1.kept hq).moved ha, fun i hi => (s2 i hi).same hv, (s3.kept hq).moved ha, (s4.kept hq).moved ha⟩
  obtain ⟨a, i, x, k, rfl⟩ := gNest_is w hw
  exact va_Nw.same rfl hv.symm (h2 _ hw)
theorem gZ.blind (G : gG) (n : Nat) (ad : Nat → Nat) (E : Nat → va_E) (av : Array Value) : FrameBlind (fun v U => v = av ∧ gZ G n ad E U) := fun a U g mk h => ⟨h.1, h.2.1.same rfl rfl, h.2.2⟩
theorem gTrue.blind (av : Array Value) : FrameBlind (fun v U => v = av ∧ (fun _ => True) U) := fun a U g mk h => ⟨h.1, trivial⟩
section
variable {p : Program} {l : Launch} {e : Env} {R : Room} {s : State} {m : MethodId} {args : Array Value} {below : List Frame} {meth : Method} {c : Code} {H : Heap} {locs : List Loc} {cells slots : Nat} {Q : State → Prop} {cc : ByteArray} {pc : Nat} {ls : Array Slot} {rest : List Value} {G : gG} {n : Nat} {ad : Nat → Nat} {sh : Nat → (Nat → Int32) → va_E} {σ : gM} {own : String} {nL : Nat} {index : Nat}
variable {y : MethodName} {b : ByteArray} {maxL : Nat} {ret : Option FieldType} {na ci : Nat} {rm : Room} {n1 : Nat} {ad1 : Nat → Nat} {E1 : Nat → va_E} {Qc : Array Value → State → Outcome → State → Prop} {free : Addr → Prop} {As st0 : List Value} {fs : List Value}
theorem gX.at {U : State} (hX : gX G s) (hS : va_S (fun q => G.2.2.1 ≤ q) s.heap H locs) (hU : U.heap = H) (hW : s.WarmedH U.vm) : gX G U := hX.go hW (fun a h1 h2 => by rw [hU]; exact hS.2.1 a h1 h2)
theorem g_runV (KY : gYV y b maxL ret na ci) (LK : Cond.methodLink own index y ∈ Tb) (C : CallFix p m c cc nL s args Tb own) (hX : gX G s) (hS : va_S (fun q => G.2.2.1 ≤ q) s.heap H locs) (hsub : gP G.1 n1 ad1 E1 H) (k1 : Nat) (hM : Met l y (tW y b maxL ret) rm (fun v U => v = (Value.ref (ad1 k1) :: As).toArray ∧ gZ G n1 ad1 E1 U) Qc 0 0 free) (hk1 : k1 < n1) (hE1 : E1 k1 = .inr (ci, fs)) (hR : gRm rm R maxL) (hn : As.length = na) (hsz : ls.size = nL) (hst : st0 = As.reverse ++ .ref (ad1 k1) :: rest) (hroom : (rest.map fun v => v.category).sum ≤ 8) (hcs : cells ≤ R.cells ∧ slots ≤ R.slots) (hdg : decode cc pc = .ok (.invokevirtual index, 3)) :
    va_Run p l e R s m args below meth c H locs cells slots 0 0 (F0 m pc ls st0) rest (Qc (Value.ref (ad1 k1) :: As).toArray) free := by
  subst hst
  have hts := C.2.2.2.2
  obtain ⟨k1', k2, k3, k4, kd, q, hq, hqc⟩ := KY
  exact va_runV C hM ⟨callB_of na hts (tW_in k1') rfl hR.1 hR.2.1 (hts _ k2) (hts _ LK) kd hR.2.2, hts _ k3, hts _ k4⟩ ⟨gZ.blind G n1 ad1 E1 _, by rw [← hqc]; exact va_recv hX.1 hsub.w hq (by rw [gl_at hk1]; exact congrArg (fun z => some (ad1 k1, z)) hE1), fun U hU hW => ⟨rfl, hX.at hS hU hW, by rw [hU]; exact hsub⟩⟩ rfl hn hsz rfl (lv_room hroom) hdg hcs
theorem g_runS (KY : gYS y b maxL ret na) (LK : Cond.methodLink own index y ∈ Tb) (C : CallFix p m c cc nL s args Tb own) (hM : Met l y (tW y b maxL ret) rm (fun v U => v = As.toArray ∧ (fun _ => True) U) Qc 0 0 free) (hR : gRm rm R maxL) (hn : As.length = na) (hsz : ls.size = nL) (hst : st0 = As.reverse ++ rest) (hroom : (rest.map fun v => v.category).sum ≤ 8) (hcs : cells ≤ R.cells ∧ slots ≤ R.slots) (hdg : decode cc pc = .ok (.invokestatic index, 3)) :
    va_Run p l e R s m args below meth c H locs cells slots 0 0 (F0 m pc ls st0) rest (Qc As.toArray) free := by
  subst hst
  have hts := C.2.2.2.2
  obtain ⟨k1', k2, k3, kd⟩ := KY
  exact va_runS C hM ⟨callB_of na hts (tW_in k1') rfl hR.1 hR.2.1 (hts _ k2) (hts _ LK) kd hR.2.2, hts _ k3⟩ ⟨gTrue.blind _, fun U hU hW => ⟨rfl, trivial⟩⟩ rfl hn hsz rfl (lv_room hroom) hdg hcs
theorem g_runSW (KY : gYS y b maxL ret na) (LK : Cond.methodLink own index y ∈ Tb) (C : CallFix p m c cc nL s args Tb own) (hX : gX G s) (hS : va_S (fun q => G.2.2.1 ≤ q) s.heap H locs) (hsub : gP G.1 n1 ad1 E1 H) (hM : Met l y (tW y b maxL ret) rm (fun v U => v = As.toArray ∧ gZ G n1 ad1 E1 U) Qc 0 0 free) (hR : gRm rm R maxL) (hn : As.length = na) (hsz : ls.size = nL) (hst : st0 = As.reverse ++ rest) (hroom : (rest.map fun v => v.category).sum ≤ 8) (hcs : cells ≤ R.cells ∧ slots ≤ R.slots) (hdg : decode cc pc = .ok (.invokestatic index, 3)) :
    va_Run p l e R s m args below meth c H locs cells slots 0 0 (F0 m pc ls st0) rest (Qc As.toArray) free := by
  subst hst
  have hts := C.2.2.2.2
  obtain ⟨k1', k2, k3, kd⟩ := KY
  exact va_runS C hM ⟨callB_of na hts (tW_in k1') rfl hR.1 hR.2.1 (hts _ k2) (hts _ LK) kd hR.2.2, hts _ k3⟩ ⟨gZ.blind G n1 ad1 E1 _, fun U hU hW => ⟨rfl, hX.at hS hU hW, by rw [hU]; exact hsub⟩⟩ rfl hn hsz rfl (lv_room hroom) hdg hcs
theorem g_runSN (KY : gYS y b maxL ret na) {host : String} (LK : Cond.methodLinkNest own index y host ∈ gNest) (hX : gX G s) (C : CallFix p m c cc nL s args Tb own) (hM : Met l y (tW y b maxL ret) rm (fun v U => v = As.toArray ∧ (fun _ => True) U) Qc 0 0 free) (hR : gRm rm R maxL) (hn : As.length = na) (hsz : ls.size = nL) (hst : st0 = As.reverse ++ rest) (hroom : (rest.map fun v => v.category).sum ≤ 8) (hcs : cells ≤ R.cells ∧ slots ≤ R.slots) (hdg : decode cc pc = .ok (.invokestatic index, 3)) :
    va_Run p l e R s m args below meth c H locs cells slots 0 0 (F0 m pc ls st0) rest (Qc As.toArray) free := by
  subst hst
  have hts := C.2.2.2.2
  obtain ⟨k1', k2, k3, kd⟩ := KY
  exact va_runSN C hM ⟨va_cnB na hts (tW_in k1') rfl hR.1 hR.2.1 (hX.2.1 _ LK) (hts _ k2) kd hR.2.2, hts _ k3, trivial⟩ ⟨gTrue.blind _, fun U hU hW => ⟨rfl, trivial⟩⟩ rfl hn hsz rfl (lv_room hroom) hdg hcs
/-- behind a call: of a function or a reader; of a writer -/
theorem g_rd {r : Int32} {a : Array Value} (hr : va_Run p l e R s m args below meth c H locs cells slots 0 0 (F0 m pc ls st0) rest (vp_Si (fun x => x = r) a) (fun _ => False)) (kk : W p l e R s m args below meth c H locs cells slots Q (F0 m (pc + 3) ls (.int r :: rest))) : W p l e R s m args below meth c H locs cells slots Q (F0 m pc ls st0) :=
  vp_callSi hr.run (fun x hx => by rw [hx]; exact kk)
theorem g_rdL {r : Int64} {a : Array Value} (hr : va_Run p l e R s m args below meth c H locs cells slots 0 0 (F0 m pc ls st0) rest (vp_Sl (fun x => x = r) a) (fun _ => False)) (kk : W p l e R s m args below meth c H locs cells slots Q (F0 m (pc + 3) ls (.long r :: rest))) : W p l e R s m args below meth c H locs cells slots Q (F0 m pc ls st0) :=
  vp_callSl hr.run (fun x hx => by rw [hx]; exact kk)
/-- a part of a world at a place o, of m objects -/
theorem gP.sub {D : va_G} {sh1 : Nat → (Nat → Int32) → va_E} (h : gP D n ad (gE sh σ) H) (o m1 : Nat) (hm : o + m1 ≤ n) (hs : ∀ i, i < m1 → ∀ f, sh (o + i) f = sh1 i f) : gP D m1 (fun i => ad (o + i)) (gE sh1 (mget σ o)) H := fun k hk => by
  have h1 := h (o + k) (by omega)
  show va_at D vwCl (ad (o + k), sh1 k (σ (o + k))) H
  rw [← hs k hk]
  exact h1
theorem gP.join {D : va_G} {b0 : Nat} {sh1 : Nat → (Nat → Int32) → va_E} {τ : gM} {H1 : Heap} (h : gP D n ad (gE sh σ) H) (hI : gI b0 n ad) (o m1 : Nat) (hm : o + m1 ≤ n) (hs : ∀ i, i < m1 → ∀ f, sh (o + i) f = sh1 i f) (hk : ∀ q : Nat, q < H.size → ¬ gA m1 (fun i => ad (o + i)) q → H1[q]? = H[q]?) (h1 : gP D m1 (fun i => ad (o + i)) (gE sh1 τ) H1) : gP D n ad (gE sh (mput σ o m1 τ)) H1 := fun k hkn => by
  show va_at D vwCl (ad k, sh k (mput σ o m1 τ k)) H1
  by_cases hr : o ≤ k ∧ k < o + m1
  · obtain ⟨i, rfl⟩ : ∃ i, k = o + i := ⟨k - o, by omega⟩
    rw [mput_in _ _ (by omega), hs i (by omega)]
    exact h1 i (by omega)
  · rw [mput_out _ _ (by omega)]
    have h2 := h k hkn
    refine h2.kept (hk (ad k) h2.lt ?_)
    rintro ⟨i, hi, he⟩
    have := hI.1 k (o + i) hkn (by omega) he
    omega
theorem gA_sub {o m1 : Nat} (hm : o + m1 ≤ n) {q : Nat} (h : gA m1 (fun i => ad (o + i)) q) : gA n ad q := by
  obtain ⟨k, hk, rfl⟩ := h
  exact ⟨o + k, by omega, rfl⟩
variable {sh1 : Nat → (Nat → Int32) → va_E}
theorem g_wrV {o m1 : Nat} {r : gM} {a : Array Value} {b0 : Nat} (hm : o + m1 ≤ n) (hs : ∀ i, i < m1 → ∀ f, sh (o + i) f = sh1 i f) (hI : gI b0 n ad) (hP : gP G.1 n ad (gE sh σ) H) (hS : va_S (gA n ad) s.heap H locs)
    (hr : va_Run p l e R s m args below meth c H locs cells slots 0 0 (F0 m pc ls st0) rest (va_Qv (fun τ : gM => τ = r) (fun τ t => gP G.1 m1 (fun i => ad (o + i)) (gE sh1 τ) t.heap) (gA m1 (fun i => ad (o + i))) a) (gA m1 (fun i => ad (o + i))))
    (kk : ∀ (H1 : Heap) (locs1 : List Loc), gP G.1 n ad (gE sh (mput σ o m1 r)) H1 → va_S (gA n ad) s.heap H1 locs1 → W p l e R s m args below meth c H1 locs1 cells slots Q (F0 m (pc + 3) ls rest)) : W p l e R s m args below meth c H locs cells slots Q (F0 m pc ls st0) :=
  va_callv hr hS (fun q _ h => gA_sub hm h) (fun q h => gA_sub hm h) (fun u t H1 l1 ht _ hp hB hz hk hS1 => by
    subst hp
    refine kk H1 l1 (hP.join hI o m1 hm hs hk ?_) hS1
    rw [← ht]; exact hB)
theorem g_wrI {o m1 : Nat} {r : Int32 × gM} {a : Array Value} {b0 : Nat} (hm : o + m1 ≤ n) (hs : ∀ i, i < m1 → ∀ f, sh (o + i) f = sh1 i f) (hI : gI b0 n ad) (hP : gP G.1 n ad (gE sh σ) H) (hS : va_S (gA n ad) s.heap H locs)
    (hr : va_Run p l e R s m args below meth c H locs cells slots 0 0 (F0 m pc ls st0) rest (va_Qi (fun (x : Int32) (τ : gM) => r = (x, τ)) (fun τ t => gP G.1 m1 (fun i => ad (o + i)) (gE sh1 τ) t.heap) (gA m1 (fun i => ad (o + i))) a) (gA m1 (fun i => ad (o + i))))
    (kk : ∀ (H1 : Heap) (locs1 : List Loc), gP G.1 n ad (gE sh (mput σ o m1 r.2)) H1 → va_S (gA n ad) s.heap H1 locs1 → W p l e R s m args below meth c H1 locs1 cells slots Q (F0 m (pc + 3) ls (.int r.1 :: rest))) : W p l e R s m args below meth c H locs cells slots Q (F0 m pc ls st0) :=
  va_calli hr hS (fun q _ h => gA_sub hm h) (fun q h => gA_sub hm h) (fun x u t H1 l1 ht _ hp hB hz hk hS1 => by
    subst hp
    refine kk H1 l1 (hP.join hI o m1 hm hs hk ?_) hS1
    rw [← ht]; exact hB)
/-- the whole world itself -/
theorem g_wrV0 {r : gM} {a : Array Value} (hS : va_S (gA n ad) s.heap H locs)
    (hr : va_Run p l e R s m args below meth c H locs cells slots 0 0 (F0 m pc ls st0) rest (va_Qv (fun τ : gM => τ = r) (fun τ t => gP G.1 n ad (gE sh τ) t.heap) (gA n ad) a) (gA n ad))
    (kk : ∀ (H1 : Heap) (locs1 : List Loc), gP G.1 n ad (gE sh r) H1 → va_S (gA n ad) s.heap H1 locs1 → W p l e R s m args below meth c H1 locs1 cells slots Q (F0 m (pc + 3) ls rest)) : W p l e R s m args below meth c H locs cells slots Q (F0 m pc ls st0) :=
  va_callv hr hS (fun q _ h => h) (fun q h => h) (fun u t H1 l1 ht _ hp hB hz hk hS1 => by
    subst hp
    refine kk H1 l1 ?_ hS1
    rw [← ht]; exact hB)
theorem g_wrI0 {r : Int32 × gM} {a : Array Value} (hS : va_S (gA n ad) s.heap H locs)
    (hr : va_Run p l e R s m args below meth c H locs cells slots 0 0 (F0 m pc ls st0) rest (va_Qi (fun (x : Int32) (τ : gM) => r = (x, τ)) (fun τ t => gP G.1 n ad (gE sh τ) t.heap) (gA n ad) a) (gA n ad))
    (kk : ∀ (H1 : Heap) (locs1 : List Loc), gP G.1 n ad (gE sh r.2) H1 → va_S (gA n ad) s.heap H1 locs1 → W p l e R s m args below meth c H1 locs1 cells slots Q (F0 m (pc + 3) ls (.int r.1 :: rest))) : W p l e R s m args below meth c H locs cells slots Q (F0 m pc ls st0) :=
  va_calli hr hS (fun q _ h => h) (fun q h => h) (fun x u t H1 l1 ht _ hp hB hz hk hS1 => by
    subst hp
    refine kk H1 l1 ?_ hS1
    rw [← ht]; exact hB)
/-- ends -/
theorem g_iret {r v : Int32} {ty : FieldType} {free : Addr → Prop} (C : CallFix p m c cc nL s args Tb own) (hr : meth.sig.returnType = some ty) (hlk : meth.locks = false) (hn : narrow ty (.int v) = .int v) (he : r = v) (hh : H = s.heap) (hL : locs = []) (hdg : decode cc pc = .ok (.ireturn, 1)) : W p l e R s m args below meth c H locs cells slots (MQ below (vp_Si (fun x => x = r)) args s cells slots free) (F0 m pc ls [.int v]) :=
  W.zret C.1 C.2.1 hr hn (fun t ht hW => ⟨v, rfl, he.symm, by rw [ht, hh]⟩) (fun q hq => by rw [hL] at hq; cases hq) hdg hlk
theorem g_lret {r v : Int64} {free : Addr → Prop} (C : CallFix p m c cc nL s args Tb own) (hr : meth.sig.returnType = some .long) (hlk : meth.locks = false) (he : r = v) (hh : H = s.heap) (hL : locs = []) (hdg : decode cc pc = .ok (.lreturn, 1)) : W p l e R s m args below meth c H locs cells slots (MQ below (vp_Sl (fun x => x = r)) args s cells slots free) (F0 m pc ls [.long v]) :=
  W.lret C.1 C.2.1 hr (fun t ht hW => ⟨v, rfl, he.symm, by rw [ht, hh]⟩) (fun q hq => by rw [hL] at hq; cases hq) hdg hlk
theorem g_vretM {r : gM} (C : CallFix p m c cc nL s args Tb own) (hr : meth.sig.returnType = none) (hlk : meth.locks = false) (he : r = σ) (hP : gP G.1 n ad (gE sh σ) H) (hS : va_S (gA n ad) s.heap H locs) (hdg : decode cc pc = .ok (.return_, 1)) : W p l e R s m args below meth c H locs cells slots (MQ below (va_Qv (fun τ : gM => τ = r) (fun τ t => gP G.1 n ad (gE sh τ) t.heap) (gA n ad)) args s cells slots (gA n ad)) (F0 m pc ls []) :=
  W.vret C.1 C.2.1 hr (fun t ht hW => ⟨⟨σ, rfl, he.symm, by subst ht; exact hP⟩, hS.F ht⟩) hS.2.2 hdg hlk
theorem g_iretM {r : Int32 × gM} {v : Int32} {ty : FieldType} (C : CallFix p m c cc nL s args Tb own) (hr : meth.sig.returnType = some ty) (hlk : meth.locks = false) (hn : narrow ty (.int v) = .int v) (he : r = (v, σ)) (hP : gP G.1 n ad (gE sh σ) H) (hS : va_S (gA n ad) s.heap H locs) (hdg : decode cc pc = .ok (.ireturn, 1)) : W p l e R s m args below meth c H locs cells slots (MQ below (va_Qi (fun (x : Int32) (τ : gM) => r = (x, τ)) (fun τ t => gP G.1 n ad (gE sh τ) t.heap) (gA n ad)) args s cells slots (gA n ad)) (F0 m pc ls [.int v]) :=
  W.zret C.1 C.2.1 hr hn (fun t ht hW => ⟨⟨v, σ, rfl, he, by subst ht; exact hP⟩, hS.F ht⟩) hS.2.2 hdg hlk
theorem g_lretM {r : Int64 × gM} {v : Int64} (C : CallFix p m c cc nL s args Tb own) (hr : meth.sig.returnType = some .long) (hlk : meth.locks = false) (he : r = (v, σ)) (hP : gP G.1 n ad (gE sh σ) H) (hS : va_S (gA n ad) s.heap H locs) (hdg : decode cc pc = .ok (.lreturn, 1)) : W p l e R s m args below meth c H locs cells slots (MQ below (va_Ql (fun (x : Int64) (τ : gM) => r = (x, τ)) (fun τ t => gP G.1 n ad (gE sh τ) t.heap) (gA n ad)) args s cells slots (gA n ad)) (F0 m pc ls [.long v]) :=
  W.lret C.1 C.2.1 hr (fun t ht hW => ⟨⟨v, σ, rfl, he, by subst ht; exact hP⟩, hS.F ht⟩) hS.2.2 hdg hlk
end
end
section
def nN (x : Int32) : Nat := x.toNatClampNeg
theorem nN_nI {n : Nat} (h : n < 2 ^ 31) : nN (nI n) = n := nI_clamp h
def jrem (x y : Int32) : Int32 := x - x / y * y
def jshl (x y : Int32) : Int32 := x <<< (y &&& 31)
def jshr (x y : Int32) : Int32 := x >>> (y &&& 31)
def jushr (x y : Int32) : Int32 := (x.toUInt32 >>> (y.toUInt32 &&& Int32.toUInt32 31)).toInt32
section
variable {p : Program} {l : Launch} {e : Env} {R : Room} {s : State} {m : MethodId} {args : Array Value} {below : List Frame} {meth : Method} {c : Code} {H : Heap} {locs : List Loc} {cells slots : Nat} {Q : State → Prop} {cc : ByteArray} {pc : Nat} {ls : Array Slot} {rest : List Value}
theorem g_irem (hexec : p.tables.exec = Jvm.exec) (hb : c.code = cc) {x y : Int32} (hdg : decode cc pc = .ok (.irem, 1)) (hne : ¬ y = 0) (k : W p l e R s m args below meth c H locs cells slots Q (F0 m (pc + 1) ls (.int (jrem x y) :: rest))) : W p l e R s m args below meth c H locs cells slots Q (F0 m pc ls (.int y :: .int x :: rest)) := lv_irem hexec hb hdg hne k
theorem g_ishl (hexec : p.tables.exec = Jvm.exec) (hb : c.code = cc) {x y : Int32} (hdg : decode cc pc = .ok (.ishl, 1)) (k : W p l e R s m args below meth c H locs cells slots Q (F0 m (pc + 1) ls (.int (jshl x y) :: rest))) : W p l e R s m args below meth c H locs cells slots Q (F0 m pc ls (.int y :: .int x :: rest)) := lv_ishl hexec hb hdg k
theorem g_ishr (hexec : p.tables.exec = Jvm.exec) (hb : c.code = cc) {x y : Int32} (hdg : decode cc pc = .ok (.ishr, 1)) (k : W p l e R s m args below meth c H locs cells slots Q (F0 m (pc + 1) ls (.int (jshr x y) :: rest))) : W p l e R s m args below meth c H locs cells slots Q (F0 m pc ls (.int y :: .int x :: rest)) := lv_ishr hexec hb hdg k
theorem g_iushr (hexec : p.tables.exec = Jvm.exec) (hb : c.code = cc) {x y : Int32} (hdg : decode cc pc = .ok (.iushr, 1)) (k : W p l e R s m args below meth c H locs cells slots Q (F0 m (pc + 1) ls (.int (jushr x y) :: rest))) : W p l e R s m args below meth c H locs cells slots Q (F0 m pc ls (.int y :: .int x :: rest)) := lv_iushr hexec hb hdg rfl k
end
/-! shapes of worlds -/
def eG (f : Nat → Int32) : va_E := .inr (1, [.int (f 0), .int (f 1), .int (f 2), .int (f 3), .int (f 4), .int (f 5), .int (f 6)])
def eI (G : gG) (N : Nat) (f : Nat → Int32) : va_E := .inl (G.2.1 0, N, .inl f)
def eB (G : gG) (N : Nat) (f : Nat → Int32) : va_E := .inl (G.2.1 1, N, .inl f)
def eF (cA : ClassId) (N : Nat) (g : Nat → Nat) : va_E := .inl (cA, N, .inr (.inr (.inr (.inr (fun j => some (g j))))))
/-- a glove (or two) -/
def shG : Nat → (Nat → Int32) → va_E := fun _ f => eG f
theorem shG_g {k : Nat} (f : Nat → Int32) : shG k f = .inr (1, [.int (f 0), .int (f 1), .int (f 2), .int (f 3), .int (f 4), .int (f 5), .int (f 6)]) := rfl
/-- a club: gloves 0 to 7, itself 8 (size, day, z), list 9, spots 10, its row of gloves 11 -/
def shC (G : gG) (ad : Nat → Nat) (k : Nat) (f : Nat → Int32) : va_E := if k < 8 then eG f else if k = 8 then .inr (0, [.ref (ad 11), .ref (ad 9), .ref (ad 10), .int (f 0), .int (f 1), .int (f 2)]) else if k = 9 then eI G 6 f else if k = 10 then eI G 10 f else eF (G.2.1 2) 8 ad
theorem shC_g (G : gG) (ad : Nat → Nat) {k : Nat} (h : k < 8) (f : Nat → Int32) : shC G ad k f = .inr (1, [.int (f 0), .int (f 1), .int (f 2), .int (f 3), .int (f 4), .int (f 5), .int (f 6)]) := if_pos h
theorem shC_8 (G : gG) (ad : Nat → Nat) (f : Nat → Int32) : shC G ad 8 f = .inr (0, [.ref (ad 11), .ref (ad 9), .ref (ad 10), .int (f 0), .int (f 1), .int (f 2)]) := rfl
theorem shC_9 (G : gG) (ad : Nat → Nat) (f : Nat → Int32) : shC G ad 9 f = .inl (G.2.1 0, 6, .inl f) := rfl
theorem shC_10 (G : gG) (ad : Nat → Nat) (f : Nat → Int32) : shC G ad 10 f = .inl (G.2.1 0, 10, .inl f) := rfl
theorem shC_11 (G : gG) (ad : Nat → Nat) (f : Nat → Int32) : shC G ad 11 f = .inl (G.2.1 2, 8, .inr (.inr (.inr (.inr (fun j => some (ad j)))))) := rfl
theorem shC_sub (G : gG) (ad : Nat → Nat) {g : Nat} (hg : g < 8) : ∀ i, i < 1 → ∀ f, shC G ad (g + i) f = shG i f := fun i hi f => by
  obtain rfl : i = 0 := by omega
  exact if_pos hg
/-- two clubs -/
def shD (G : gG) (ad : Nat → Nat) (k : Nat) (f : Nat → Int32) : va_E := if k < 12 then shC G ad k f else shC G (fun i => ad (12 + i)) (k - 12) f
/-- a sheet: itself 0 (bits, size), its numbers 1 -/
def shS (G : gG) (ad : Nat → Nat) (k : Nat) (f : Nat → Int32) : va_E := if k = 0 then .inr (2, [.ref (ad 1), .int (f 0), .int (f 1)]) else eI G 40 f
theorem shS_0 (G : gG) (ad : Nat → Nat) (f : Nat → Int32) : shS G ad 0 f = .inr (2, [.ref (ad 1), .int (f 0), .int (f 1)]) := rfl
theorem shS_1 (G : gG) (ad : Nat → Nat) (f : Nat → Int32) : shS G ad 1 f = .inl (G.2.1 0, 40, .inl f) := rfl
/-- a tape: itself 0 (length), its bytes 1 -/
def shP (G : gG) (ad : Nat → Nat) (k : Nat) (f : Nat → Int32) : va_E := if k = 0 then .inr (3, [.ref (ad 1), .int (f 0)]) else eB G 120 f
theorem shP_0 (G : gG) (ad : Nat → Nat) (f : Nat → Int32) : shP G ad 0 f = .inr (3, [.ref (ad 1), .int (f 0)]) := rfl
theorem shP_1 (G : gG) (ad : Nat → Nat) (f : Nat → Int32) : shP G ad 1 f = .inl (G.2.1 1, 120, .inl f) := rfl
/-- tokens: themselves 0 (size), sorts 1, starts 2, ends 3, numbers 4; the tape 5, 6 -/
def shK (G : gG) (ad : Nat → Nat) (k : Nat) (f : Nat → Int32) : va_E := if k = 0 then .inr (5, [.ref (ad 1), .ref (ad 2), .ref (ad 3), .ref (ad 4), .int (f 0)]) else if k < 5 then eI G 121 f else shP G (fun i => ad (5 + i)) (k - 5) f
theorem shK_0 (G : gG) (ad : Nat → Nat) (f : Nat → Int32) : shK G ad 0 f = .inr (5, [.ref (ad 1), .ref (ad 2), .ref (ad 3), .ref (ad 4), .int (f 0)]) := rfl
theorem shK_1 (G : gG) (ad : Nat → Nat) (f : Nat → Int32) : shK G ad 1 f = .inl (G.2.1 0, 121, .inl f) := rfl
theorem shK_2 (G : gG) (ad : Nat → Nat) (f : Nat → Int32) : shK G ad 2 f = .inl (G.2.1 0, 121, .inl f) := rfl
theorem shK_3 (G : gG) (ad : Nat → Nat) (f : Nat → Int32) : shK G ad 3 f = .inl (G.2.1 0, 121, .inl f) := rfl
theorem shK_4 (G : gG) (ad : Nat → Nat) (f : Nat → Int32) : shK G ad 4 f = .inl (G.2.1 0, 121, .inl f) := rfl
theorem shK_5 (G : gG) (ad : Nat → Nat) (f : Nat → Int32) : shK G ad 5 f = .inr (3, [.ref (ad 6), .int (f 0)]) := rfl
theorem shK_tape (G : gG) (ad : Nat → Nat) : ∀ i, i < 2 → ∀ f, shK G ad (5 + i) f = shP G (fun i => ad (5 + i)) i f := fun i hi f => by
  obtain rfl | rfl : i = 0 ∨ i = 1 := by omega
  · rfl
  · rfl
/-- the reader's world: a club 0 to 11, itself 12 (at, faulty), tokens and tape 13 to 19 -/
def shR (G : gG) (ad : Nat → Nat) (k : Nat) (f : Nat → Int32) : va_E := if k < 12 then shC G ad k f else if k = 12 then .inr (4, [.ref (ad 13), .int (f 0), .int (f 1)]) else shK G (fun i => ad (13 + i)) (k - 13) f
theorem shR_12 (G : gG) (ad : Nat → Nat) (f : Nat → Int32) : shR G ad 12 f = .inr (4, [.ref (ad 13), .int (f 0), .int (f 1)]) := rfl
theorem shR_8 (G : gG) (ad : Nat → Nat) (f : Nat → Int32) : shR G ad 8 f = .inr (0, [.ref (ad 11), .ref (ad 9), .ref (ad 10), .int (f 0), .int (f 1), .int (f 2)]) := rfl
theorem shR_9 (G : gG) (ad : Nat → Nat) (f : Nat → Int32) : shR G ad 9 f = .inl (G.2.1 0, 6, .inl f) := rfl
theorem shR_11 (G : gG) (ad : Nat → Nat) (f : Nat → Int32) : shR G ad 11 f = .inl (G.2.1 2, 8, .inr (.inr (.inr (.inr (fun j => some (ad j)))))) := rfl
theorem shR_13 (G : gG) (ad : Nat → Nat) (f : Nat → Int32) : shR G ad 13 f = .inr (5, [.ref (ad 14), .ref (ad 15), .ref (ad 16), .ref (ad 17), .int (f 0)]) := rfl
theorem shR_18 (G : gG) (ad : Nat → Nat) (f : Nat → Int32) : shR G ad 18 f = .inr (3, [.ref (ad 19), .int (f 0)]) := rfl
theorem shR_g (G : gG) (ad : Nat → Nat) {k : Nat} (h : k < 8) (f : Nat → Int32) : shR G ad k f = .inr (1, [.int (f 0), .int (f 1), .int (f 2), .int (f 3), .int (f 4), .int (f 5), .int (f 6)]) := by
  unfold shR
  rw [if_pos (by omega)]
  exact shC_g G ad h f
theorem shR_club (G : gG) (ad : Nat → Nat) : ∀ i, i < 12 → ∀ f, shR G ad (0 + i) f = shC G (fun i => ad (0 + i)) i f := fun i hi f => by
  rw [Nat.zero_add]
  unfold shR
  rw [if_pos hi]
  simp only [Nat.zero_add]
theorem shR_glove (G : gG) (ad : Nat → Nat) {g : Nat} (hg : g < 8) : ∀ i, i < 1 → ∀ f, shR G ad (g + i) f = shG i f := fun i hi f => by
  obtain rfl : i = 0 := by omega
  exact shR_g G ad hg f
theorem shR_tok (G : gG) (ad : Nat → Nat) : ∀ i, i < 7 → ∀ f, shR G ad (13 + i) f = shK G (fun i => ad (13 + i)) i f := fun i hi f => by
  unfold shR
  rw [if_neg (by omega), if_neg (by omega)]
  congr 1
  omega
/-- the whole object: club 0 to 11, kept 12 to 23, trial 24 to 35, reader 36, tokens and tape 37 to 43, itself 44 (keeping), findings 45, its row of sheets 46, sheets 47 to 54 -/
def shX (G : gG) (ad : Nat → Nat) (k : Nat) (f : Nat → Int32) : va_E := if k < 24 then shD G ad k f else if k < 44 then shR G (fun i => ad (24 + i)) (k - 24) f else if k = 44 then .inr (6, [.ref (ad 8), .ref (ad 20), .ref (ad 32), .int (f 0), .ref (ad 42), .ref (ad 36), .ref (ad 46), .ref (ad 45)]) else if k = 45 then eI G 7 f else if k = 46 then eF (G.2.1 3) 4 (fun j => ad (47 + 2 * j)) else shS G (fun i => ad (47 + 2 * ((k - 47) / 2) + i)) ((k - 47) % 2) f
theorem shX_44 (G : gG) (ad : Nat → Nat) (f : Nat → Int32) : shX G ad 44 f = .inr (6, [.ref (ad 8), .ref (ad 20), .ref (ad 32), .int (f 0), .ref (ad 42), .ref (ad 36), .ref (ad 46), .ref (ad 45)]) := rfl
theorem shX_45 (G : gG) (ad : Nat → Nat) (f : Nat → Int32) : shX G ad 45 f = .inl (G.2.1 0, 7, .inl f) := rfl
theorem shX_46 (G : gG) (ad : Nat → Nat) (f : Nat → Int32) : shX G ad 46 f = .inl (G.2.1 3, 4, .inr (.inr (.inr (.inr (fun j => some (ad (47 + 2 * j))))))) := rfl
theorem shX_8 (G : gG) (ad : Nat → Nat) (f : Nat → Int32) : shX G ad 8 f = .inr (0, [.ref (ad 11), .ref (ad 9), .ref (ad 10), .int (f 0), .int (f 1), .int (f 2)]) := rfl
theorem shX_9 (G : gG) (ad : Nat → Nat) (f : Nat → Int32) : shX G ad 9 f = .inl (G.2.1 0, 6, .inl f) := rfl
theorem shX_10 (G : gG) (ad : Nat → Nat) (f : Nat → Int32) : shX G ad 10 f = .inl (G.2.1 0, 10, .inl f) := rfl
theorem shX_11 (G : gG) (ad : Nat → Nat) (f : Nat → Int32) : shX G ad 11 f = .inl (G.2.1 2, 8, .inr (.inr (.inr (.inr (fun j => some (ad j)))))) := rfl
theorem shX_32 (G : gG) (ad : Nat → Nat) (f : Nat → Int32) : shX G ad 32 f = .inr (0, [.ref (ad 35), .ref (ad 33), .ref (ad 34), .int (f 0), .int (f 1), .int (f 2)]) := rfl
theorem shX_35 (G : gG) (ad : Nat → Nat) (f : Nat → Int32) : shX G ad 35 f = .inl (G.2.1 2, 8, .inr (.inr (.inr (.inr (fun j => some (ad (24 + j))))))) := rfl
theorem shX_42 (G : gG) (ad : Nat → Nat) (f : Nat → Int32) : shX G ad 42 f = .inr (3, [.ref (ad 43), .int (f 0)]) := rfl
theorem shX_g (G : gG) (ad : Nat → Nat) {k : Nat} (h : k < 8) (f : Nat → Int32) : shX G ad k f = .inr (1, [.int (f 0), .int (f 1), .int (f 2), .int (f 3), .int (f 4), .int (f 5), .int (f 6)]) := by
  unfold shX shD
  rw [if_pos (by omega), if_pos (by omega)]
  exact shC_g G ad h f
theorem shX_t (G : gG) (ad : Nat → Nat) {k : Nat} (h : k < 8) (f : Nat → Int32) : shX G ad (24 + k) f = .inr (1, [.int (f 0), .int (f 1), .int (f 2), .int (f 3), .int (f 4), .int (f 5), .int (f 6)]) := by
  unfold shX
  rw [if_neg (by omega), if_pos (by omega), show 24 + k - 24 = k from by omega]
  exact shR_g G _ h f
theorem shX_s (G : gG) (ad : Nat → Nat) {j : Nat} (h : j < 4) (f : Nat → Int32) : shX G ad (47 + 2 * j) f = .inr (2, [.ref (ad (48 + 2 * j)), .int (f 0), .int (f 1)]) := by
  obtain rfl | rfl | rfl | rfl : j = 0 ∨ j = 1 ∨ j = 2 ∨ j = 3 := by omega
  all_goals rfl
theorem shX_n (G : gG) (ad : Nat → Nat) {j : Nat} (h : j < 4) (f : Nat → Int32) : shX G ad (48 + 2 * j) f = .inl (G.2.1 0, 40, .inl f) := by
  obtain rfl | rfl | rfl | rfl : j = 0 ∨ j = 1 ∨ j = 2 ∨ j = 3 := by omega
  all_goals rfl
theorem shX_club (G : gG) (ad : Nat → Nat) : ∀ i, i < 12 → ∀ f, shX G ad (0 + i) f = shC G (fun i => ad (0 + i)) i f := fun i hi f => by
  rw [Nat.zero_add]
  unfold shX shD
  rw [if_pos (by omega), if_pos hi]
  simp only [Nat.zero_add]
theorem shX_kept (G : gG) (ad : Nat → Nat) : ∀ i, i < 12 → ∀ f, shX G ad (12 + i) f = shC G (fun i => ad (12 + i)) i f := fun i hi f => by
  unfold shX shD
  rw [if_pos (by omega), if_neg (by omega)]
  congr 1
  omega
theorem shX_trial (G : gG) (ad : Nat → Nat) : ∀ i, i < 12 → ∀ f, shX G ad (24 + i) f = shC G (fun i => ad (24 + i)) i f := fun i hi f => by
  unfold shX shR
  rw [if_neg (by omega), if_pos (by omega), show 24 + i - 24 = i from by omega, if_pos hi]
theorem shX_reader (G : gG) (ad : Nat → Nat) : ∀ i, i < 20 → ∀ f, shX G ad (24 + i) f = shR G (fun i => ad (24 + i)) i f := fun i hi f => by
  unfold shX
  rw [if_neg (by omega), if_pos (by omega), show 24 + i - 24 = i from by omega]
theorem shX_glove (G : gG) (ad : Nat → Nat) {g : Nat} (hg : g < 8) : ∀ i, i < 1 → ∀ f, shX G ad (g + i) f = shG i f := fun i hi f => by
  obtain rfl : i = 0 := by omega
  exact shX_g G ad hg f
theorem shX_tg (G : gG) (ad : Nat → Nat) {g : Nat} (hg : g < 8) : ∀ i, i < 1 → ∀ f, shX G ad (24 + g + i) f = shG i f := fun i hi f => by
  obtain rfl : i = 0 := by omega
  exact shX_t G ad hg f
theorem shX_tape (G : gG) (ad : Nat → Nat) : ∀ i, i < 2 → ∀ f, shX G ad (42 + i) f = shP G (fun i => ad (42 + i)) i f := fun i hi f => by
  obtain rfl | rfl : i = 0 ∨ i = 1 := by omega
  · rfl
  · rfl
theorem shX_sheet (G : gG) (ad : Nat → Nat) {j : Nat} (h : j < 4) : ∀ i, i < 2 → ∀ f, shX G ad (47 + 2 * j + i) f = shS G (fun i => ad (47 + 2 * j + i)) i f := fun i hi f => by
  obtain rfl | rfl : i = 0 ∨ i = 1 := by omega
  · rw [Nat.add_zero, shX_s G ad h]
    show _ = (.inr (2, [.ref (ad (47 + 2 * j + 1)), .int (f 0), .int (f 1)]) : va_E)
    rw [show 47 + 2 * j + 1 = 48 + 2 * j from by omega]
  · rw [show 47 + 2 * j + 1 = 48 + 2 * j from by omega, shX_n G ad h]
    rfl
end
section
theorem ln_RX0_17 : Cond.methodLinkNest RX0 17 yX1_init "LeftGloves" ∈ gNest := List.mem_of_getElem? (i := 0) rfl
theorem ln_RX0_22 : Cond.methodLinkNest RX0 22 yX6_sayingOf "LeftGloves" ∈ gNest := List.mem_of_getElem? (i := 1) rfl
theorem ln_RX0_60 : Cond.methodLinkNest RX0 60 yX6_isIn "LeftGloves" ∈ gNest := List.mem_of_getElem? (i := 2) rfl
theorem ln_RX0_89 : Cond.methodLinkNest RX0 89 yX6_roomOf "LeftGloves" ∈ gNest := List.mem_of_getElem? (i := 3) rfl
theorem ln_RX0_92 : Cond.methodLinkNest RX0 92 yX6_topicOf "LeftGloves" ∈ gNest := List.mem_of_getElem? (i := 4) rfl
theorem ln_RX0_49 : Cond.methodLinkNest RX0 49 yX6_isWithin "LeftGloves" ∈ gNest := List.mem_of_getElem? (i := 5) rfl
theorem ln_RX1_11 : Cond.methodLinkNest RX1 11 yX6_isWithin "LeftGloves" ∈ gNest := List.mem_of_getElem? (i := 6) rfl
theorem ln_RX0_114 : Cond.methodLinkNest RX0 114 yX6_loudOf "LeftGloves" ∈ gNest := List.mem_of_getElem? (i := 7) rfl
theorem ln_RX3_19 : Cond.methodLinkNest RX3 19 yX6_isWithin "LeftGloves" ∈ gNest := List.mem_of_getElem? (i := 8) rfl
theorem ln_RX5_51 : Cond.methodLinkNest RX5 51 yX6_isWithin "LeftGloves" ∈ gNest := List.mem_of_getElem? (i := 9) rfl
theorem ln_RX4_63 : Cond.methodLinkNest RX4 63 yX6_sayingOf "LeftGloves" ∈ gNest := List.mem_of_getElem? (i := 10) rfl
theorem ln_RX4_80 : Cond.methodLinkNest RX4 80 yX6_isWithin "LeftGloves" ∈ gNest := List.mem_of_getElem? (i := 11) rfl
theorem ln_RX2_22 : Cond.methodLinkNest RX2 22 yX6_isWithin "LeftGloves" ∈ gNest := List.mem_of_getElem? (i := 12) rfl
def j_max (a : Int32) (b : Int32) : Int32 := if a < b then b else a
def rm_yJ9_max_7cf53 : Room := { frames := 0, cells := 0, slots := 0, locals := 0 }
set_option maxHeartbeats 4000000 in
set_option maxRecDepth 100000 in
theorem c_yJ9_max_7cf53 (l : Launch) (a : Int32) (b : Int32) : gPure l yJ9_max_7cf53 cJ9_max_7cf53 2 (some .int) rm_yJ9_max_7cf53 [.int a, .int b] (j_max a b) := by
  refine g_start [.int a, .int b] (by decide +kernel) (Nat.le_of_ble_eq_true rfl) ?_
  intro p e s m below meth c ls B Z hl
  obtain ⟨C, hr, hlk⟩ := B
  have hx := C.1
  have hb := C.2.1
  have hl : lv_has ls 2 [(0, .int a), (1, .int b)] := hl
  refine lv_iload_n hx hb dJ9_max_7cf53_0 rfl (lv_at hl 0 rfl) ?_
  refine lv_iload_n hx hb dJ9_max_7cf53_1 rfl (lv_at hl 1 rfl) ?_
  refine lv_icmp_lt (tgt := 9) hx hb dJ9_max_7cf53_2 (by decide) (fun c1 => ?_) (fun c1 => ?_)
  · refine lv_iload_n hx hb dJ9_max_7cf53_9 rfl (lv_at hl 1 rfl) ?_
    exact g_iret C hr hlk rfl (by rw [j_max, if_pos c1]) rfl rfl dJ9_max_7cf53_10
  · refine lv_iload_n hx hb dJ9_max_7cf53_5 rfl (lv_at hl 0 rfl) ?_
    refine lv_goto (tgt := 10) hx hb dJ9_max_7cf53_6 (by decide) ?_
    exact g_iret C hr hlk rfl (by rw [j_max, if_neg c1]) rfl rfl dJ9_max_7cf53_10

def j_min (a : Int32) (b : Int32) : Int32 := if b < a then b else a
def rm_yJ9_min_7cf53 : Room := { frames := 0, cells := 0, slots := 0, locals := 0 }
set_option maxHeartbeats 4000000 in
set_option maxRecDepth 100000 in
theorem c_yJ9_min_7cf53 (l : Launch) (a : Int32) (b : Int32) : gPure l yJ9_min_7cf53 cJ9_min_7cf53 2 (some .int) rm_yJ9_min_7cf53 [.int a, .int b] (j_min a b) := by
  refine g_start [.int a, .int b] (by decide +kernel) (Nat.le_of_ble_eq_true rfl) ?_
  intro p e s m below meth c ls B Z hl
  obtain ⟨C, hr, hlk⟩ := B
  have hx := C.1
  have hb := C.2.1
  have hl : lv_has ls 2 [(0, .int a), (1, .int b)] := hl
  refine lv_iload_n hx hb dJ9_min_7cf53_0 rfl (lv_at hl 0 rfl) ?_
  refine lv_iload_n hx hb dJ9_min_7cf53_1 rfl (lv_at hl 1 rfl) ?_
  refine lv_icmp_gt (tgt := 9) hx hb dJ9_min_7cf53_2 (by decide) (fun c1 => ?_) (fun c1 => ?_)
  · refine lv_iload_n hx hb dJ9_min_7cf53_9 rfl (lv_at hl 1 rfl) ?_
    exact g_iret C hr hlk rfl (by rw [j_min, if_pos c1]) rfl rfl dJ9_min_7cf53_10
  · refine lv_iload_n hx hb dJ9_min_7cf53_5 rfl (lv_at hl 0 rfl) ?_
    refine lv_goto (tgt := 10) hx hb dJ9_min_7cf53_6 (by decide) ?_
    exact g_iret C hr hlk rfl (by rw [j_min, if_neg c1]) rfl rfl dJ9_min_7cf53_10

def j_floorMod (a : Int32) (b : Int32) : Int32 := if 0 ≤ (a ^^^ b) then (jrem a b) else (if (jrem a b) = 0 then (jrem a b) else ((jrem a b) + b))
def rm_yJ9_floorMod_7cf53 : Room := { frames := 0, cells := 0, slots := 0, locals := 0 }
set_option maxHeartbeats 4000000 in
set_option maxRecDepth 100000 in
theorem c_yJ9_floorMod_7cf53 (l : Launch) (a : Int32) (b : Int32) (hb0 : ¬ b = 0) : gPure l yJ9_floorMod_7cf53 cJ9_floorMod_7cf53 3 (some .int) rm_yJ9_floorMod_7cf53 [.int a, .int b] (j_floorMod a b) := by
  refine g_start [.int a, .int b] (by decide +kernel) (Nat.le_of_ble_eq_true rfl) ?_
  intro p e s m below meth c ls B Z hl
  obtain ⟨C, hr, hlk⟩ := B
  have hx := C.1
  have hb := C.2.1
  have hl : lv_has ls 3 [(0, .int a), (1, .int b)] := hl
  refine lv_iload_n hx hb dJ9_floorMod_7cf53_0 rfl (lv_at hl 0 rfl) ?_
  refine lv_iload_n hx hb dJ9_floorMod_7cf53_1 rfl (lv_at hl 1 rfl) ?_
  refine g_irem hx hb dJ9_floorMod_7cf53_2 hb0 ?_
  refine lv_istore_n (lv' := [(2, .int (jrem a b)), (0, .int a), (1, .int b)]) hx hb dJ9_floorMod_7cf53_3 rfl hl (by decide) rfl (fun ls hl => ?_)
  refine lv_iload_n hx hb dJ9_floorMod_7cf53_4 rfl (lv_at hl 1 rfl) ?_
  refine lv_iload_n hx hb dJ9_floorMod_7cf53_5 rfl (lv_at hl 2 rfl) ?_
  refine lv_ixor hx hb dJ9_floorMod_7cf53_6 ?_
  refine lv_if_ge (tgt := 18) hx hb dJ9_floorMod_7cf53_7 (by decide) (fun c1 => ?_) (fun c1 => ?_)
  · refine lv_iload_n hx hb dJ9_floorMod_7cf53_18 rfl (lv_at hl 0 rfl) ?_
    exact g_iret C hr hlk rfl (by rw [j_floorMod, if_pos c1]) rfl rfl dJ9_floorMod_7cf53_19
  · refine lv_iload_n hx hb dJ9_floorMod_7cf53_10 rfl (lv_at hl 0 rfl) ?_
    refine lv_if_eq (tgt := 18) hx hb dJ9_floorMod_7cf53_11 (by decide) (fun c2 => ?_) (fun c2 => ?_)
    · refine lv_iload_n hx hb dJ9_floorMod_7cf53_18 rfl (lv_at hl 0 rfl) ?_
      exact g_iret C hr hlk rfl (by rw [j_floorMod, if_neg c1, if_pos c2]) rfl rfl dJ9_floorMod_7cf53_19
    · refine lv_iload_n hx hb dJ9_floorMod_7cf53_14 rfl (lv_at hl 0 rfl) ?_
      refine lv_iload_n hx hb dJ9_floorMod_7cf53_15 rfl (lv_at hl 2 rfl) ?_
      refine lv_iadd hx hb dJ9_floorMod_7cf53_16 ?_
      exact g_iret C hr hlk rfl (by rw [j_floorMod, if_neg c1, if_neg c2]) rfl rfl dJ9_floorMod_7cf53_17

def j_bitCount (a : Int32) : Int32 := ((((((((a - ((jushr a 1) &&& 1431655765)) &&& 858993459) + ((jushr (a - ((jushr a 1) &&& 1431655765)) 2) &&& 858993459)) + (jushr (((a - ((jushr a 1) &&& 1431655765)) &&& 858993459) + ((jushr (a - ((jushr a 1) &&& 1431655765)) 2) &&& 858993459)) 4)) &&& 252645135) + (jushr (((((a - ((jushr a 1) &&& 1431655765)) &&& 858993459) + ((jushr (a - ((jushr a 1) &&& 1431655765)) 2) &&& 858993459)) + (jushr (((a - ((jushr a 1) &&& 1431655765)) &&& 858993459) + ((jushr (a - ((jushr a 1) &&& 1431655765)) 2) &&& 858993459)) 4)) &&& 252645135) 8)) + (jushr ((((((a - ((jushr a 1) &&& 1431655765)) &&& 858993459) + ((jushr (a - ((jushr a 1) &&& 1431655765)) 2) &&& 858993459)) + (jushr (((a - ((jushr a 1) &&& 1431655765)) &&& 858993459) + ((jushr (a - ((jushr a 1) &&& 1431655765)) 2) &&& 858993459)) 4)) &&& 252645135) + (jushr (((((a - ((jushr a 1) &&& 1431655765)) &&& 858993459) + ((jushr (a - ((jushr a 1) &&& 1431655765)) 2) &&& 858993459)) + (jushr (((a - ((jushr a 1) &&& 1431655765)) &&& 858993459) + ((jushr (a - ((jushr a 1) &&& 1431655765)) 2) &&& 858993459)) 4)) &&& 252645135) 8)) 16)) &&& 63)
def rm_yJ6_bitCount_0f7a4 : Room := { frames := 0, cells := 0, slots := 0, locals := 0 }
set_option maxHeartbeats 4000000 in
set_option maxRecDepth 100000 in
theorem c_yJ6_bitCount_0f7a4 (l : Launch) (a : Int32) : gPure l yJ6_bitCount_0f7a4 cJ6_bitCount_0f7a4 1 (some .int) rm_yJ6_bitCount_0f7a4 [.int a] (j_bitCount a) := by
  refine g_start [.int a] (by decide +kernel) (Nat.le_of_ble_eq_true rfl) ?_
  intro p e s m below meth c ls B Z hl
  obtain ⟨C, hr, hlk⟩ := B
  have hx := C.1
  have hb := C.2.1
  have hl : lv_has ls 1 [(0, .int a)] := hl
  refine lv_iload_n hx hb dJ6_bitCount_0f7a4_0 rfl (lv_at hl 0 rfl) ?_
  refine lv_iload_n hx hb dJ6_bitCount_0f7a4_1 rfl (lv_at hl 0 rfl) ?_
  refine lv_iconst (v := 1) hx hb dJ6_bitCount_0f7a4_2 (by decide) ?_
  refine g_iushr hx hb dJ6_bitCount_0f7a4_3 ?_
  refine lv_ldcw hx hb C.2.2.2.1 (C.2.2.2.2 _ kc_RJ6_265) dJ6_bitCount_0f7a4_4 ?_
  refine lv_iand hx hb dJ6_bitCount_0f7a4_7 ?_
  refine lv_isub hx hb dJ6_bitCount_0f7a4_8 ?_
  refine lv_istore_n (lv' := [(0, .int (a - ((jushr a 1) &&& 1431655765)))]) hx hb dJ6_bitCount_0f7a4_9 rfl hl (by decide) rfl (fun ls hl => ?_)
  refine lv_iload_n hx hb dJ6_bitCount_0f7a4_10 rfl (lv_at hl 0 rfl) ?_
  refine lv_ldcw hx hb C.2.2.2.1 (C.2.2.2.2 _ kc_RJ6_266) dJ6_bitCount_0f7a4_11 ?_
  refine lv_iand hx hb dJ6_bitCount_0f7a4_14 ?_
  refine lv_iload_n hx hb dJ6_bitCount_0f7a4_15 rfl (lv_at hl 0 rfl) ?_
  refine lv_iconst (v := 2) hx hb dJ6_bitCount_0f7a4_16 (by decide) ?_
  refine g_iushr hx hb dJ6_bitCount_0f7a4_17 ?_
  refine lv_ldcw hx hb C.2.2.2.1 (C.2.2.2.2 _ kc_RJ6_266) dJ6_bitCount_0f7a4_18 ?_
  refine lv_iand hx hb dJ6_bitCount_0f7a4_21 ?_
  refine lv_iadd hx hb dJ6_bitCount_0f7a4_22 ?_
  refine lv_istore_n (lv' := [(0, .int (((a - ((jushr a 1) &&& 1431655765)) &&& 858993459) + ((jushr (a - ((jushr a 1) &&& 1431655765)) 2) &&& 858993459)))]) hx hb dJ6_bitCount_0f7a4_23 rfl hl (by decide) rfl (fun ls hl => ?_)
  refine lv_iload_n hx hb dJ6_bitCount_0f7a4_24 rfl (lv_at hl 0 rfl) ?_
  refine lv_iload_n hx hb dJ6_bitCount_0f7a4_25 rfl (lv_at hl 0 rfl) ?_
  refine lv_iconst (v := 4) hx hb dJ6_bitCount_0f7a4_26 (by decide) ?_
  refine g_iushr hx hb dJ6_bitCount_0f7a4_27 ?_
  refine lv_iadd hx hb dJ6_bitCount_0f7a4_28 ?_
  refine lv_ldcw hx hb C.2.2.2.1 (C.2.2.2.2 _ kc_RJ6_267) dJ6_bitCount_0f7a4_29 ?_
  refine lv_iand hx hb dJ6_bitCount_0f7a4_32 ?_
  refine lv_istore_n (lv' := [(0, .int (((((a - ((jushr a 1) &&& 1431655765)) &&& 858993459) + ((jushr (a - ((jushr a 1) &&& 1431655765)) 2) &&& 858993459)) + (jushr (((a - ((jushr a 1) &&& 1431655765)) &&& 858993459) + ((jushr (a - ((jushr a 1) &&& 1431655765)) 2) &&& 858993459)) 4)) &&& 252645135))]) hx hb dJ6_bitCount_0f7a4_33 rfl hl (by decide) rfl (fun ls hl => ?_)
  refine lv_iload_n hx hb dJ6_bitCount_0f7a4_34 rfl (lv_at hl 0 rfl) ?_
  refine lv_iload_n hx hb dJ6_bitCount_0f7a4_35 rfl (lv_at hl 0 rfl) ?_
  refine lv_bipush (v := 8) hx hb dJ6_bitCount_0f7a4_36 (by decide) ?_
  refine g_iushr hx hb dJ6_bitCount_0f7a4_38 ?_
  refine lv_iadd hx hb dJ6_bitCount_0f7a4_39 ?_
  refine lv_istore_n (lv' := [(0, .int ((((((a - ((jushr a 1) &&& 1431655765)) &&& 858993459) + ((jushr (a - ((jushr a 1) &&& 1431655765)) 2) &&& 858993459)) + (jushr (((a - ((jushr a 1) &&& 1431655765)) &&& 858993459) + ((jushr (a - ((jushr a 1) &&& 1431655765)) 2) &&& 858993459)) 4)) &&& 252645135) + (jushr (((((a - ((jushr a 1) &&& 1431655765)) &&& 858993459) + ((jushr (a - ((jushr a 1) &&& 1431655765)) 2) &&& 858993459)) + (jushr (((a - ((jushr a 1) &&& 1431655765)) &&& 858993459) + ((jushr (a - ((jushr a 1) &&& 1431655765)) 2) &&& 858993459)) 4)) &&& 252645135) 8)))]) hx hb dJ6_bitCount_0f7a4_40 rfl hl (by decide) rfl (fun ls hl => ?_)
  refine lv_iload_n hx hb dJ6_bitCount_0f7a4_41 rfl (lv_at hl 0 rfl) ?_
  refine lv_iload_n hx hb dJ6_bitCount_0f7a4_42 rfl (lv_at hl 0 rfl) ?_
  refine lv_bipush (v := 16) hx hb dJ6_bitCount_0f7a4_43 (by decide) ?_
  refine g_iushr hx hb dJ6_bitCount_0f7a4_45 ?_
  refine lv_iadd hx hb dJ6_bitCount_0f7a4_46 ?_
  refine lv_istore_n (lv' := [(0, .int (((((((a - ((jushr a 1) &&& 1431655765)) &&& 858993459) + ((jushr (a - ((jushr a 1) &&& 1431655765)) 2) &&& 858993459)) + (jushr (((a - ((jushr a 1) &&& 1431655765)) &&& 858993459) + ((jushr (a - ((jushr a 1) &&& 1431655765)) 2) &&& 858993459)) 4)) &&& 252645135) + (jushr (((((a - ((jushr a 1) &&& 1431655765)) &&& 858993459) + ((jushr (a - ((jushr a 1) &&& 1431655765)) 2) &&& 858993459)) + (jushr (((a - ((jushr a 1) &&& 1431655765)) &&& 858993459) + ((jushr (a - ((jushr a 1) &&& 1431655765)) 2) &&& 858993459)) 4)) &&& 252645135) 8)) + (jushr ((((((a - ((jushr a 1) &&& 1431655765)) &&& 858993459) + ((jushr (a - ((jushr a 1) &&& 1431655765)) 2) &&& 858993459)) + (jushr (((a - ((jushr a 1) &&& 1431655765)) &&& 858993459) + ((jushr (a - ((jushr a 1) &&& 1431655765)) 2) &&& 858993459)) 4)) &&& 252645135) + (jushr (((((a - ((jushr a 1) &&& 1431655765)) &&& 858993459) + ((jushr (a - ((jushr a 1) &&& 1431655765)) 2) &&& 858993459)) + (jushr (((a - ((jushr a 1) &&& 1431655765)) &&& 858993459) + ((jushr (a - ((jushr a 1) &&& 1431655765)) 2) &&& 858993459)) 4)) &&& 252645135) 8)) 16)))]) hx hb dJ6_bitCount_0f7a4_47 rfl hl (by decide) rfl (fun ls hl => ?_)
  refine lv_iload_n hx hb dJ6_bitCount_0f7a4_48 rfl (lv_at hl 0 rfl) ?_
  refine lv_bipush (v := 63) hx hb dJ6_bitCount_0f7a4_49 (by decide) ?_
  refine lv_iand hx hb dJ6_bitCount_0f7a4_51 ?_
  exact g_iret C hr hlk rfl (by rw [j_bitCount]) rfl rfl dJ6_bitCount_0f7a4_52

def x_isWithin (v : Int32) (most : Int32) : Int32 := if v < 0 then 0 else (if most < v then 0 else 1)
def rm_yX6_isWithin : Room := { frames := 0, cells := 0, slots := 0, locals := 0 }
set_option maxHeartbeats 4000000 in
set_option maxRecDepth 100000 in
theorem c_yX6_isWithin (l : Launch) (v : Int32) (most : Int32) : gPure l yX6_isWithin cX6_isWithin 2 (some .boolean) rm_yX6_isWithin [.int v, .int most] (x_isWithin v most) := by
  refine g_start [.int v, .int most] (by decide +kernel) (Nat.le_of_ble_eq_true rfl) ?_
  intro p e s m below meth c ls B Z hl
  obtain ⟨C, hr, hlk⟩ := B
  have hx := C.1
  have hb := C.2.1
  have hl : lv_has ls 2 [(0, .int v), (1, .int most)] := hl
  refine lv_iload_n hx hb dX6_isWithin_0 rfl (lv_at hl 0 rfl) ?_
  refine lv_if_lt (tgt := 13) hx hb dX6_isWithin_1 (by decide) (fun c1 => ?_) (fun c1 => ?_)
  · refine lv_iconst (v := 0) hx hb dX6_isWithin_13 (by decide) ?_
    exact g_iret C hr hlk rfl (by rw [x_isWithin, if_pos c1]) rfl rfl dX6_isWithin_14
  · refine lv_iload_n hx hb dX6_isWithin_4 rfl (lv_at hl 0 rfl) ?_
    refine lv_iload_n hx hb dX6_isWithin_5 rfl (lv_at hl 1 rfl) ?_
    refine lv_icmp_gt (tgt := 13) hx hb dX6_isWithin_6 (by decide) (fun c2 => ?_) (fun c2 => ?_)
    · refine lv_iconst (v := 0) hx hb dX6_isWithin_13 (by decide) ?_
      exact g_iret C hr hlk rfl (by rw [x_isWithin, if_neg c1, if_pos c2]) rfl rfl dX6_isWithin_14
    · refine lv_iconst (v := 1) hx hb dX6_isWithin_9 (by decide) ?_
      refine lv_goto (tgt := 14) hx hb dX6_isWithin_10 (by decide) ?_
      exact g_iret C hr hlk rfl (by rw [x_isWithin, if_neg c1, if_neg c2]) rfl rfl dX6_isWithin_14

def x_isIn (member : Int32) (set : Int32) : Int32 := if ((jshr set member) &&& 1) = 1 then 1 else 0
def rm_yX6_isIn : Room := { frames := 0, cells := 0, slots := 0, locals := 0 }
set_option maxHeartbeats 4000000 in
set_option maxRecDepth 100000 in
theorem c_yX6_isIn (l : Launch) (member : Int32) (set : Int32) : gPure l yX6_isIn cX6_isIn 2 (some .boolean) rm_yX6_isIn [.int member, .int set] (x_isIn member set) := by
  refine g_start [.int member, .int set] (by decide +kernel) (Nat.le_of_ble_eq_true rfl) ?_
  intro p e s m below meth c ls B Z hl
  obtain ⟨C, hr, hlk⟩ := B
  have hx := C.1
  have hb := C.2.1
  have hl : lv_has ls 2 [(0, .int member), (1, .int set)] := hl
  refine lv_iload_n hx hb dX6_isIn_0 rfl (lv_at hl 1 rfl) ?_
  refine lv_iload_n hx hb dX6_isIn_1 rfl (lv_at hl 0 rfl) ?_
  refine g_ishr hx hb dX6_isIn_2 ?_
  refine lv_iconst (v := 1) hx hb dX6_isIn_3 (by decide) ?_
  refine lv_iand hx hb dX6_isIn_4 ?_
  refine lv_iconst (v := 1) hx hb dX6_isIn_5 (by decide) ?_
  refine lv_icmp_ne (tgt := 13) hx hb dX6_isIn_6 (by decide) (fun c1 => ?_) (fun c1 => ?_)
  · refine lv_iconst (v := 0) hx hb dX6_isIn_13 (by decide) ?_
    exact g_iret C hr hlk rfl (by rw [x_isIn, if_neg c1]) rfl rfl dX6_isIn_14
  · refine lv_iconst (v := 1) hx hb dX6_isIn_9 (by decide) ?_
    refine lv_goto (tgt := 14) hx hb dX6_isIn_10 (by decide) ?_
    exact g_iret C hr hlk rfl (by rw [x_isIn, if_pos c1]) rfl rfl dX6_isIn_14

def x_roomOf (saying : Int32) : Int32 := (saying / 1000)
def rm_yX6_roomOf : Room := { frames := 0, cells := 0, slots := 0, locals := 0 }
set_option maxHeartbeats 4000000 in
set_option maxRecDepth 100000 in
theorem c_yX6_roomOf (l : Launch) (saying : Int32) : gPure l yX6_roomOf cX6_roomOf 1 (some .int) rm_yX6_roomOf [.int saying] (x_roomOf saying) := by
  refine g_start [.int saying] (by decide +kernel) (Nat.le_of_ble_eq_true rfl) ?_
  intro p e s m below meth c ls B Z hl
  obtain ⟨C, hr, hlk⟩ := B
  have hx := C.1
  have hb := C.2.1
  have hl : lv_has ls 1 [(0, .int saying)] := hl
  refine lv_iload_n hx hb dX6_roomOf_0 rfl (lv_at hl 0 rfl) ?_
  refine lv_sipush (v := 1000) hx hb dX6_roomOf_1 (by decide) ?_
  refine lv_idiv hx hb dX6_roomOf_4 (by decide) ?_
  exact g_iret C hr hlk rfl (by rw [x_roomOf]) rfl rfl dX6_roomOf_5

def x_topicOf (saying : Int32) : Int32 := ((jrem saying 1000) / 10)
def rm_yX6_topicOf : Room := { frames := 0, cells := 0, slots := 0, locals := 0 }
set_option maxHeartbeats 4000000 in
set_option maxRecDepth 100000 in
theorem c_yX6_topicOf (l : Launch) (saying : Int32) : gPure l yX6_topicOf cX6_topicOf 1 (some .int) rm_yX6_topicOf [.int saying] (x_topicOf saying) := by
  refine g_start [.int saying] (by decide +kernel) (Nat.le_of_ble_eq_true rfl) ?_
  intro p e s m below meth c ls B Z hl
  obtain ⟨C, hr, hlk⟩ := B
  have hx := C.1
  have hb := C.2.1
  have hl : lv_has ls 1 [(0, .int saying)] := hl
  refine lv_iload_n hx hb dX6_topicOf_0 rfl (lv_at hl 0 rfl) ?_
  refine lv_sipush (v := 1000) hx hb dX6_topicOf_1 (by decide) ?_
  refine g_irem hx hb dX6_topicOf_4 (by decide) ?_
  refine lv_bipush (v := 10) hx hb dX6_topicOf_5 (by decide) ?_
  refine lv_idiv hx hb dX6_topicOf_7 (by decide) ?_
  exact g_iret C hr hlk rfl (by rw [x_topicOf]) rfl rfl dX6_topicOf_8

def x_loudOf (saying : Int32) : Int32 := (jrem saying 10)
def rm_yX6_loudOf : Room := { frames := 0, cells := 0, slots := 0, locals := 0 }
set_option maxHeartbeats 4000000 in
set_option maxRecDepth 100000 in
theorem c_yX6_loudOf (l : Launch) (saying : Int32) : gPure l yX6_loudOf cX6_loudOf 1 (some .int) rm_yX6_loudOf [.int saying] (x_loudOf saying) := by
  refine g_start [.int saying] (by decide +kernel) (Nat.le_of_ble_eq_true rfl) ?_
  intro p e s m below meth c ls B Z hl
  obtain ⟨C, hr, hlk⟩ := B
  have hx := C.1
  have hb := C.2.1
  have hl : lv_has ls 1 [(0, .int saying)] := hl
  refine lv_iload_n hx hb dX6_loudOf_0 rfl (lv_at hl 0 rfl) ?_
  refine lv_bipush (v := 10) hx hb dX6_loudOf_1 (by decide) ?_
  refine g_irem hx hb dX6_loudOf_3 (by decide) ?_
  exact g_iret C hr hlk rfl (by rw [x_loudOf]) rfl rfl dX6_loudOf_4

def x_sayingOf (room : Int32) (topic : Int32) (loud : Int32) : Int32 := (((1000 * room) + (10 * topic)) + loud)
def rm_yX6_sayingOf : Room := { frames := 0, cells := 0, slots := 0, locals := 0 }
set_option maxHeartbeats 4000000 in
set_option maxRecDepth 100000 in
theorem c_yX6_sayingOf (l : Launch) (room : Int32) (topic : Int32) (loud : Int32) : gPure l yX6_sayingOf cX6_sayingOf 3 (some .int) rm_yX6_sayingOf [.int room, .int topic, .int loud] (x_sayingOf room topic loud) := by
  refine g_start [.int room, .int topic, .int loud] (by decide +kernel) (Nat.le_of_ble_eq_true rfl) ?_
  intro p e s m below meth c ls B Z hl
  obtain ⟨C, hr, hlk⟩ := B
  have hx := C.1
  have hb := C.2.1
  have hl : lv_has ls 3 [(0, .int room), (1, .int topic), (2, .int loud)] := hl
  refine lv_sipush (v := 1000) hx hb dX6_sayingOf_0 (by decide) ?_
  refine lv_iload_n hx hb dX6_sayingOf_3 rfl (lv_at hl 0 rfl) ?_
  refine lv_imul hx hb dX6_sayingOf_4 ?_
  refine lv_bipush (v := 10) hx hb dX6_sayingOf_5 (by decide) ?_
  refine lv_iload_n hx hb dX6_sayingOf_7 rfl (lv_at hl 1 rfl) ?_
  refine lv_imul hx hb dX6_sayingOf_8 ?_
  refine lv_iadd hx hb dX6_sayingOf_9 ?_
  refine lv_iload_n hx hb dX6_sayingOf_10 rfl (lv_at hl 2 rfl) ?_
  refine lv_iadd hx hb dX6_sayingOf_11 ?_
  exact g_iret C hr hlk rfl (by rw [x_sayingOf]) rfl rfl dX6_sayingOf_12

def x_isSaying (number : Int32) : Int32 := if (x_isWithin (x_roomOf number) 5) = 0 then 0 else (if (x_isWithin (jrem number 1000) 159) = 0 then 0 else 1)
def rm_yX6_isSaying : Room := { frames := 1, cells := 0, slots := 0, locals := 21 }
set_option maxHeartbeats 4000000 in
set_option maxRecDepth 100000 in
theorem c_yX6_isSaying (l : Launch) (number : Int32) : gPure l yX6_isSaying cX6_isSaying 1 (some .boolean) rm_yX6_isSaying [.int number] (x_isSaying number) := by
  refine g_start [.int number] (by decide +kernel) (Nat.le_of_ble_eq_true rfl) ?_
  intro p e s m below meth c ls B Z hl
  obtain ⟨C, hr, hlk⟩ := B
  have hx := C.1
  have hb := C.2.1
  have hl : lv_has ls 1 [(0, .int number)] := hl
  refine lv_iload_n hx hb dX6_isSaying_0 rfl (lv_at hl 0 rfl) ?_
  refine g_rd (g_runS (As := [.int number]) (rest := []) ky_yX6_roomOf lk_RX6_281 C (c_yX6_roomOf l number) ⟨rfl, rfl, by decide, by decide⟩ rfl hl.1 rfl (Nat.le_of_ble_eq_true rfl) ⟨Nat.zero_le _, Nat.zero_le _⟩ dX6_isSaying_1) ?_
  refine lv_iconst (v := 5) hx hb dX6_isSaying_4 (by decide) ?_
  refine g_rd (g_runS (As := [.int (x_roomOf number), .int 5]) (rest := []) ky_yX6_isWithin lk_RX6_51 C (c_yX6_isWithin l (x_roomOf number) 5) ⟨rfl, rfl, by decide, by decide⟩ rfl hl.1 rfl (Nat.le_of_ble_eq_true rfl) ⟨Nat.zero_le _, Nat.zero_le _⟩ dX6_isSaying_5) ?_
  refine lv_if_eq (tgt := 29) hx hb dX6_isSaying_8 (by decide) (fun c1 => ?_) (fun c1 => ?_)
  · refine lv_iconst (v := 0) hx hb dX6_isSaying_29 (by decide) ?_
    exact g_iret C hr hlk rfl (by rw [x_isSaying, if_pos c1]) rfl rfl dX6_isSaying_30
  · refine lv_iload_n hx hb dX6_isSaying_11 rfl (lv_at hl 0 rfl) ?_
    refine lv_sipush (v := 1000) hx hb dX6_isSaying_12 (by decide) ?_
    refine g_irem hx hb dX6_isSaying_15 (by decide) ?_
    refine lv_sipush (v := 159) hx hb dX6_isSaying_16 (by decide) ?_
    refine g_rd (g_runS (As := [.int (jrem number 1000), .int 159]) (rest := []) ky_yX6_isWithin lk_RX6_51 C (c_yX6_isWithin l (jrem number 1000) 159) ⟨rfl, rfl, by decide, by decide⟩ rfl hl.1 rfl (Nat.le_of_ble_eq_true rfl) ⟨Nat.zero_le _, Nat.zero_le _⟩ dX6_isSaying_19) ?_
    refine lv_if_eq (tgt := 29) hx hb dX6_isSaying_22 (by decide) (fun c2 => ?_) (fun c2 => ?_)
    · refine lv_iconst (v := 0) hx hb dX6_isSaying_29 (by decide) ?_
      exact g_iret C hr hlk rfl (by rw [x_isSaying, if_neg c1, if_pos c2]) rfl rfl dX6_isSaying_30
    · refine lv_iconst (v := 1) hx hb dX6_isSaying_25 (by decide) ?_
      refine lv_goto (tgt := 30) hx hb dX6_isSaying_26 (by decide) ?_
      exact g_iret C hr hlk rfl (by rw [x_isSaying, if_neg c1, if_neg c2]) rfl rfl dX6_isSaying_30
theorem nb_of {x : Int32} (h : x = 0 ∨ x = 1) : narrow .boolean (.int x) = .int x := by
  rcases h with rfl | rfl <;> rfl
theorem xb_isWithin (v m : Int32) : x_isWithin v m = 0 ∨ x_isWithin v m = 1 := by
  unfold x_isWithin
  split
  · exact Or.inl rfl
  · split
    · exact Or.inl rfl
    · exact Or.inr rfl
def x_isSheet (sn : Int32) : Int32 := (x_isWithin sn 3)
def rm_yX6_isSheet : Room := { frames := 1, cells := 0, slots := 0, locals := 21 }
set_option maxHeartbeats 4000000 in
set_option maxRecDepth 100000 in
theorem c_yX6_isSheet (l : Launch) (sn : Int32) : gPure l yX6_isSheet cX6_isSheet 1 (some .boolean) rm_yX6_isSheet [.int sn] (x_isSheet sn) := by
  refine g_start [.int sn] (by decide +kernel) (Nat.le_of_ble_eq_true rfl) ?_
  intro p e s m below meth c ls B Z hl
  obtain ⟨C, hr, hlk⟩ := B
  have hx := C.1
  have hb := C.2.1
  have hl : lv_has ls 1 [(0, .int sn)] := hl
  refine lv_iload_n hx hb dX6_isSheet_0 rfl (lv_at hl 0 rfl) ?_
  refine lv_iconst (v := 3) hx hb dX6_isSheet_1 (by decide) ?_
  refine g_rd (g_runS (As := [.int sn, .int 3]) (rest := []) ky_yX6_isWithin lk_RX6_51 C (c_yX6_isWithin l sn 3) ⟨rfl, rfl, by decide, by decide⟩ rfl hl.1 rfl (Nat.le_of_ble_eq_true rfl) ⟨Nat.zero_le _, Nat.zero_le _⟩ dX6_isSheet_2) ?_
  exact g_iret C hr hlk (nb_of (xb_isWithin _ _)) (by rw [x_isSheet]) rfl rfl dX6_isSheet_5

def x_canBeAskedAhead (what : Int32) : Int32 := if what = 1 then 1 else (if (x_isWithin what 6) = 0 then 0 else (if what < 3 then 0 else 1))
def rm_yX6_canBeAskedAhead : Room := { frames := 1, cells := 0, slots := 0, locals := 21 }
set_option maxHeartbeats 4000000 in
set_option maxRecDepth 100000 in
theorem c_yX6_canBeAskedAhead (l : Launch) (what : Int32) : gPure l yX6_canBeAskedAhead cX6_canBeAskedAhead 1 (some .boolean) rm_yX6_canBeAskedAhead [.int what] (x_canBeAskedAhead what) := by
  refine g_start [.int what] (by decide +kernel) (Nat.le_of_ble_eq_true rfl) ?_
  intro p e s m below meth c ls B Z hl
  obtain ⟨C, hr, hlk⟩ := B
  have hx := C.1
  have hb := C.2.1
  have hl : lv_has ls 1 [(0, .int what)] := hl
  refine lv_iload_n hx hb dX6_canBeAskedAhead_0 rfl (lv_at hl 0 rfl) ?_
  refine lv_iconst (v := 1) hx hb dX6_canBeAskedAhead_1 (by decide) ?_
  refine lv_icmp_eq (tgt := 19) hx hb dX6_canBeAskedAhead_2 (by decide) (fun c1 => ?_) (fun c1 => ?_)
  · refine lv_iconst (v := 1) hx hb dX6_canBeAskedAhead_19 (by decide) ?_
    refine lv_goto (tgt := 24) hx hb dX6_canBeAskedAhead_20 (by decide) ?_
    exact g_iret C hr hlk rfl (by rw [x_canBeAskedAhead, if_pos c1]) rfl rfl dX6_canBeAskedAhead_24
  · refine lv_iload_n hx hb dX6_canBeAskedAhead_5 rfl (lv_at hl 0 rfl) ?_
    refine lv_bipush (v := 6) hx hb dX6_canBeAskedAhead_6 (by decide) ?_
    refine g_rd (g_runS (As := [.int what, .int 6]) (rest := []) ky_yX6_isWithin lk_RX6_51 C (c_yX6_isWithin l what 6) ⟨rfl, rfl, by decide, by decide⟩ rfl hl.1 rfl (Nat.le_of_ble_eq_true rfl) ⟨Nat.zero_le _, Nat.zero_le _⟩ dX6_canBeAskedAhead_8) ?_
    refine lv_if_eq (tgt := 23) hx hb dX6_canBeAskedAhead_11 (by decide) (fun c2 => ?_) (fun c2 => ?_)
    · refine lv_iconst (v := 0) hx hb dX6_canBeAskedAhead_23 (by decide) ?_
      exact g_iret C hr hlk rfl (by rw [x_canBeAskedAhead, if_neg c1, if_pos c2]) rfl rfl dX6_canBeAskedAhead_24
    · refine lv_iload_n hx hb dX6_canBeAskedAhead_14 rfl (lv_at hl 0 rfl) ?_
      refine lv_iconst (v := 3) hx hb dX6_canBeAskedAhead_15 (by decide) ?_
      refine lv_icmp_lt (tgt := 23) hx hb dX6_canBeAskedAhead_16 (by decide) (fun c3 => ?_) (fun c3 => ?_)
      · refine lv_iconst (v := 0) hx hb dX6_canBeAskedAhead_23 (by decide) ?_
        exact g_iret C hr hlk rfl (by rw [x_canBeAskedAhead, if_neg c1, if_neg c2, if_pos c3]) rfl rfl dX6_canBeAskedAhead_24
      · refine lv_iconst (v := 1) hx hb dX6_canBeAskedAhead_19 (by decide) ?_
        refine lv_goto (tgt := 24) hx hb dX6_canBeAskedAhead_20 (by decide) ?_
        exact g_iret C hr hlk rfl (by rw [x_canBeAskedAhead, if_neg c1, if_neg c2, if_neg c3]) rfl rfl dX6_canBeAskedAhead_24

def x_isFewer (set : Int32) (best : Int32) : Int32 := if best = (-1) then 1 else (if (j_bitCount best) ≤ (j_bitCount set) then 0 else 1)
def rm_yX6_isFewer : Room := { frames := 1, cells := 0, slots := 0, locals := 20 }
set_option maxHeartbeats 4000000 in
set_option maxRecDepth 100000 in
theorem c_yX6_isFewer (l : Launch) (set : Int32) (best : Int32) : gPure l yX6_isFewer cX6_isFewer 2 (some .boolean) rm_yX6_isFewer [.int set, .int best] (x_isFewer set best) := by
  refine g_start [.int set, .int best] (by decide +kernel) (Nat.le_of_ble_eq_true rfl) ?_
  intro p e s m below meth c ls B Z hl
  obtain ⟨C, hr, hlk⟩ := B
  have hx := C.1
  have hb := C.2.1
  have hl : lv_has ls 2 [(0, .int set), (1, .int best)] := hl
  refine lv_iload_n hx hb dX6_isFewer_0 rfl (lv_at hl 1 rfl) ?_
  refine lv_iconst (v := (-1)) hx hb dX6_isFewer_1 (by decide) ?_
  refine lv_icmp_eq (tgt := 16) hx hb dX6_isFewer_2 (by decide) (fun c1 => ?_) (fun c1 => ?_)
  · refine lv_iconst (v := 1) hx hb dX6_isFewer_16 (by decide) ?_
    refine lv_goto (tgt := 21) hx hb dX6_isFewer_17 (by decide) ?_
    exact g_iret C hr hlk rfl (by rw [x_isFewer, if_pos c1]) rfl rfl dX6_isFewer_21
  · refine lv_iload_n hx hb dX6_isFewer_5 rfl (lv_at hl 0 rfl) ?_
    refine g_rd (g_runS (As := [.int set]) (rest := []) ky_yJ6_bitCount_0f7a4 lk_RX6_204 C (c_yJ6_bitCount_0f7a4 l set) ⟨rfl, rfl, by decide, by decide⟩ rfl hl.1 rfl (Nat.le_of_ble_eq_true rfl) ⟨Nat.zero_le _, Nat.zero_le _⟩ dX6_isFewer_6) ?_
    refine lv_iload_n hx hb dX6_isFewer_9 rfl (lv_at hl 1 rfl) ?_
    refine g_rd (g_runS (As := [.int best]) (rest := [.int (j_bitCount set)]) ky_yJ6_bitCount_0f7a4 lk_RX6_204 C (c_yJ6_bitCount_0f7a4 l best) ⟨rfl, rfl, by decide, by decide⟩ rfl hl.1 rfl (Nat.le_of_ble_eq_true rfl) ⟨Nat.zero_le _, Nat.zero_le _⟩ dX6_isFewer_10) ?_
    refine lv_icmp_ge (tgt := 20) hx hb dX6_isFewer_13 (by decide) (fun c2 => ?_) (fun c2 => ?_)
    · refine lv_iconst (v := 0) hx hb dX6_isFewer_20 (by decide) ?_
      exact g_iret C hr hlk rfl (by rw [x_isFewer, if_neg c1, if_pos c2]) rfl rfl dX6_isFewer_21
    · refine lv_iconst (v := 1) hx hb dX6_isFewer_16 (by decide) ?_
      refine lv_goto (tgt := 21) hx hb dX6_isFewer_17 (by decide) ?_
      exact g_iret C hr hlk rfl (by rw [x_isFewer, if_neg c1, if_neg c2]) rfl rfl dX6_isFewer_21
end
