/-! ===== the law: words, links ===== -/
theorem w_3_14 : (Jvm.Cond.methodLink "OddCancelLaw" (13 : Nat) ({ cls := "OddCancel", name := "status", desc := "()I" } : Jvm.MethodName)) ∈ o_tb := o_tb_of (lw_t3 (List.mem_of_getElem? (i := 14) rfl)) rfl
theorem w_3_15 : (Jvm.Cond.instanceMethod ({ cls := "OddCancel", name := "status", desc := "()I" } : Jvm.MethodName)) ∈ o_tb := o_tb_of (lw_t3 (List.mem_of_getElem? (i := 15) rfl)) rfl
theorem w_3_16 : (Jvm.Cond.selects "OddCancel" ({ cls := "OddCancel", name := "status", desc := "()I" } : Jvm.MethodName) ({ cls := "OddCancel", name := "status", desc := "()I" } : Jvm.MethodName)) ∈ o_tb := o_tb_of (lw_t3 (List.mem_of_getElem? (i := 16) rfl)) rfl
theorem w_3_17 : (Jvm.Cond.code ({ cls := "OddCancel", name := "status", desc := "()I" } : Jvm.MethodName) prog_1_method_2_code (1 : Nat) (Option.some Jvm.ClassFile.FieldType.int)) ∈ o_tb := o_tb_of (lw_t3 (List.mem_of_getElem? (i := 17) rfl)) rfl
theorem w_3_18 : (Jvm.Cond.methodLink "OddCancelLaw" (18 : Nat) ({ cls := "OddCancel", name := "top", desc := "()J" } : Jvm.MethodName)) ∈ o_tb := o_tb_of (lw_t3 (List.mem_of_getElem? (i := 18) rfl)) rfl
theorem w_3_19 : (Jvm.Cond.instanceMethod ({ cls := "OddCancel", name := "top", desc := "()J" } : Jvm.MethodName)) ∈ o_tb := o_tb_of (lw_t3 (List.mem_of_getElem? (i := 19) rfl)) rfl
theorem w_3_20 : (Jvm.Cond.selects "OddCancel" ({ cls := "OddCancel", name := "top", desc := "()J" } : Jvm.MethodName) ({ cls := "OddCancel", name := "top", desc := "()J" } : Jvm.MethodName)) ∈ o_tb := o_tb_of (lw_t3 (List.mem_of_getElem? (i := 20) rfl)) rfl
theorem w_3_21 : (Jvm.Cond.code ({ cls := "OddCancel", name := "top", desc := "()J" } : Jvm.MethodName) prog_1_method_3_code (1 : Nat) (Option.some Jvm.ClassFile.FieldType.long)) ∈ o_tb := o_tb_of (lw_t3 (List.mem_of_getElem? (i := 21) rfl)) rfl
theorem w_3_22 : (Jvm.Cond.methodLink "OddCancelLaw" (23 : Nat) ({ cls := "OddCancel", name := "bottom", desc := "()J" } : Jvm.MethodName)) ∈ o_tb := o_tb_of (lw_t3 (List.mem_of_getElem? (i := 22) rfl)) rfl
theorem w_3_23 : (Jvm.Cond.instanceMethod ({ cls := "OddCancel", name := "bottom", desc := "()J" } : Jvm.MethodName)) ∈ o_tb := o_tb_of (lw_t3 (List.mem_of_getElem? (i := 23) rfl)) rfl
theorem w_3_24 : (Jvm.Cond.selects "OddCancel" ({ cls := "OddCancel", name := "bottom", desc := "()J" } : Jvm.MethodName) ({ cls := "OddCancel", name := "bottom", desc := "()J" } : Jvm.MethodName)) ∈ o_tb := o_tb_of (lw_t3 (List.mem_of_getElem? (i := 24) rfl)) rfl
theorem w_3_25 : (Jvm.Cond.code ({ cls := "OddCancel", name := "bottom", desc := "()J" } : Jvm.MethodName) prog_1_method_4_code (1 : Nat) (Option.some Jvm.ClassFile.FieldType.long)) ∈ o_tb := o_tb_of (lw_t3 (List.mem_of_getElem? (i := 25) rfl)) rfl
theorem w_3_26 : (Jvm.Cond.methodLink "OddCancelLaw" (27 : Nat) ({ cls := "OddCancel", name := "tray", desc := "(III)Z" } : Jvm.MethodName)) ∈ o_tb := o_tb_of (lw_t3 (List.mem_of_getElem? (i := 26) rfl)) rfl
theorem w_3_27 : (Jvm.Cond.instanceMethod ({ cls := "OddCancel", name := "tray", desc := "(III)Z" } : Jvm.MethodName)) ∈ o_tb := o_tb_of (lw_t3 (List.mem_of_getElem? (i := 27) rfl)) rfl
theorem w_3_28 : (Jvm.Cond.selects "OddCancel" ({ cls := "OddCancel", name := "tray", desc := "(III)Z" } : Jvm.MethodName) ({ cls := "OddCancel", name := "tray", desc := "(III)Z" } : Jvm.MethodName)) ∈ o_tb := o_tb_of (lw_t3 (List.mem_of_getElem? (i := 28) rfl)) rfl
theorem w_3_29 : (Jvm.Cond.code ({ cls := "OddCancel", name := "tray", desc := "(III)Z" } : Jvm.MethodName) prog_1_method_5_code (4 : Nat) (Option.some Jvm.ClassFile.FieldType.boolean)) ∈ o_tb := o_tb_of (lw_t3 (List.mem_of_getElem? (i := 29) rfl)) rfl
theorem w_3_49 : (Jvm.Cond.methodLink "OddCancelLaw" (34 : Nat) ({ cls := "OddCancel", name := "write", desc := "(IIJ)Z" } : Jvm.MethodName)) ∈ o_tb := o_tb_of (lw_t3 (List.mem_of_getElem? (i := 49) rfl)) rfl
theorem w_3_50 : (Jvm.Cond.instanceMethod ({ cls := "OddCancel", name := "write", desc := "(IIJ)Z" } : Jvm.MethodName)) ∈ o_tb := o_tb_of (lw_t3 (List.mem_of_getElem? (i := 50) rfl)) rfl
theorem w_3_51 : (Jvm.Cond.selects "OddCancel" ({ cls := "OddCancel", name := "write", desc := "(IIJ)Z" } : Jvm.MethodName) ({ cls := "OddCancel", name := "write", desc := "(IIJ)Z" } : Jvm.MethodName)) ∈ o_tb := o_tb_of (lw_t3 (List.mem_of_getElem? (i := 51) rfl)) rfl
theorem w_3_52 : (Jvm.Cond.code ({ cls := "OddCancel", name := "write", desc := "(IIJ)Z" } : Jvm.MethodName) prog_1_method_6_code (6 : Nat) (Option.some Jvm.ClassFile.FieldType.boolean)) ∈ o_tb := o_tb_of (lw_t3 (List.mem_of_getElem? (i := 52) rfl)) rfl
theorem w_3_65 : (Jvm.Cond.methodLink "OddCancelLaw" (39 : Nat) ({ cls := "OddCancel", name := "read", desc := "(II)J" } : Jvm.MethodName)) ∈ o_tb := o_tb_of (lw_t3 (List.mem_of_getElem? (i := 65) rfl)) rfl
theorem w_3_66 : (Jvm.Cond.instanceMethod ({ cls := "OddCancel", name := "read", desc := "(II)J" } : Jvm.MethodName)) ∈ o_tb := o_tb_of (lw_t3 (List.mem_of_getElem? (i := 66) rfl)) rfl
theorem w_3_67 : (Jvm.Cond.selects "OddCancel" ({ cls := "OddCancel", name := "read", desc := "(II)J" } : Jvm.MethodName) ({ cls := "OddCancel", name := "read", desc := "(II)J" } : Jvm.MethodName)) ∈ o_tb := o_tb_of (lw_t3 (List.mem_of_getElem? (i := 67) rfl)) rfl
theorem w_3_68 : (Jvm.Cond.code ({ cls := "OddCancel", name := "read", desc := "(II)J" } : Jvm.MethodName) prog_1_method_7_code (4 : Nat) (Option.some Jvm.ClassFile.FieldType.long)) ∈ o_tb := o_tb_of (lw_t3 (List.mem_of_getElem? (i := 68) rfl)) rfl
theorem w_3_73 : (Jvm.Cond.methodLink "OddCancelLaw" (44 : Nat) ({ cls := "OddCancel", name := "pour", desc := "(IIIII)Z" } : Jvm.MethodName)) ∈ o_tb := o_tb_of (lw_t3 (List.mem_of_getElem? (i := 73) rfl)) rfl
theorem w_3_74 : (Jvm.Cond.instanceMethod ({ cls := "OddCancel", name := "pour", desc := "(IIIII)Z" } : Jvm.MethodName)) ∈ o_tb := o_tb_of (lw_t3 (List.mem_of_getElem? (i := 74) rfl)) rfl
theorem w_3_75 : (Jvm.Cond.selects "OddCancel" ({ cls := "OddCancel", name := "pour", desc := "(IIIII)Z" } : Jvm.MethodName) ({ cls := "OddCancel", name := "pour", desc := "(IIIII)Z" } : Jvm.MethodName)) ∈ o_tb := o_tb_of (lw_t3 (List.mem_of_getElem? (i := 75) rfl)) rfl
theorem w_3_76 : (Jvm.Cond.code ({ cls := "OddCancel", name := "pour", desc := "(IIIII)Z" } : Jvm.MethodName) prog_1_method_8_code (8 : Nat) (Option.some Jvm.ClassFile.FieldType.boolean)) ∈ o_tb := o_tb_of (lw_t3 (List.mem_of_getElem? (i := 76) rfl)) rfl
theorem w_3_80 : (Jvm.Cond.methodLink "OddCancelLaw" (49 : Nat) ({ cls := "OddCancel", name := "feed", desc := "(IIIII)I" } : Jvm.MethodName)) ∈ o_tb := o_tb_of (lw_t3 (List.mem_of_getElem? (i := 80) rfl)) rfl
theorem w_3_81 : (Jvm.Cond.instanceMethod ({ cls := "OddCancel", name := "feed", desc := "(IIIII)I" } : Jvm.MethodName)) ∈ o_tb := o_tb_of (lw_t3 (List.mem_of_getElem? (i := 81) rfl)) rfl
theorem w_3_82 : (Jvm.Cond.selects "OddCancel" ({ cls := "OddCancel", name := "feed", desc := "(IIIII)I" } : Jvm.MethodName) ({ cls := "OddCancel", name := "feed", desc := "(IIIII)I" } : Jvm.MethodName)) ∈ o_tb := o_tb_of (lw_t3 (List.mem_of_getElem? (i := 82) rfl)) rfl
theorem w_3_83 : (Jvm.Cond.code ({ cls := "OddCancel", name := "feed", desc := "(IIIII)I" } : Jvm.MethodName) prog_1_method_9_code (6 : Nat) (Option.some Jvm.ClassFile.FieldType.int)) ∈ o_tb := o_tb_of (lw_t3 (List.mem_of_getElem? (i := 83) rfl)) rfl
theorem w_3_92 : (Jvm.Cond.methodLink "OddCancelLaw" (54 : Nat) ({ cls := "OddCancel", name := "valley", desc := "(I)I" } : Jvm.MethodName)) ∈ o_tb := o_tb_of (lw_t3 (List.mem_of_getElem? (i := 92) rfl)) rfl
theorem w_3_93 : (Jvm.Cond.instanceMethod ({ cls := "OddCancel", name := "valley", desc := "(I)I" } : Jvm.MethodName)) ∈ o_tb := o_tb_of (lw_t3 (List.mem_of_getElem? (i := 93) rfl)) rfl
theorem w_3_94 : (Jvm.Cond.selects "OddCancel" ({ cls := "OddCancel", name := "valley", desc := "(I)I" } : Jvm.MethodName) ({ cls := "OddCancel", name := "valley", desc := "(I)I" } : Jvm.MethodName)) ∈ o_tb := o_tb_of (lw_t3 (List.mem_of_getElem? (i := 94) rfl)) rfl
theorem w_3_95 : (Jvm.Cond.code ({ cls := "OddCancel", name := "valley", desc := "(I)I" } : Jvm.MethodName) prog_1_method_10_code (2 : Nat) (Option.some Jvm.ClassFile.FieldType.int)) ∈ o_tb := o_tb_of (lw_t3 (List.mem_of_getElem? (i := 95) rfl)) rfl
theorem w_4_51 : (Jvm.Cond.methodLink "OddCancelLaw" (59 : Nat) ({ cls := "OddCancel", name := "weeks", desc := "(I)I" } : Jvm.MethodName)) ∈ o_tb := o_tb_of (lw_t4 (List.mem_of_getElem? (i := 51) rfl)) rfl
theorem w_4_52 : (Jvm.Cond.instanceMethod ({ cls := "OddCancel", name := "weeks", desc := "(I)I" } : Jvm.MethodName)) ∈ o_tb := o_tb_of (lw_t4 (List.mem_of_getElem? (i := 52) rfl)) rfl
theorem w_4_53 : (Jvm.Cond.selects "OddCancel" ({ cls := "OddCancel", name := "weeks", desc := "(I)I" } : Jvm.MethodName) ({ cls := "OddCancel", name := "weeks", desc := "(I)I" } : Jvm.MethodName)) ∈ o_tb := o_tb_of (lw_t4 (List.mem_of_getElem? (i := 53) rfl)) rfl
theorem w_4_54 : (Jvm.Cond.code ({ cls := "OddCancel", name := "weeks", desc := "(I)I" } : Jvm.MethodName) prog_1_method_11_code (2 : Nat) (Option.some Jvm.ClassFile.FieldType.int)) ∈ o_tb := o_tb_of (lw_t4 (List.mem_of_getElem? (i := 54) rfl)) rfl
theorem w_4_102 : (Jvm.Cond.methodLink "OddCancelLaw" (63 : Nat) ({ cls := "OddCancel", name := "fault", desc := "(I)I" } : Jvm.MethodName)) ∈ o_tb := o_tb_of (lw_t4 (List.mem_of_getElem? (i := 102) rfl)) rfl
theorem w_4_103 : (Jvm.Cond.instanceMethod ({ cls := "OddCancel", name := "fault", desc := "(I)I" } : Jvm.MethodName)) ∈ o_tb := o_tb_of (lw_t4 (List.mem_of_getElem? (i := 103) rfl)) rfl
theorem w_4_104 : (Jvm.Cond.selects "OddCancel" ({ cls := "OddCancel", name := "fault", desc := "(I)I" } : Jvm.MethodName) ({ cls := "OddCancel", name := "fault", desc := "(I)I" } : Jvm.MethodName)) ∈ o_tb := o_tb_of (lw_t4 (List.mem_of_getElem? (i := 104) rfl)) rfl
theorem w_4_105 : (Jvm.Cond.code ({ cls := "OddCancel", name := "fault", desc := "(I)I" } : Jvm.MethodName) prog_1_method_12_code (2 : Nat) (Option.some Jvm.ClassFile.FieldType.int)) ∈ o_tb := o_tb_of (lw_t4 (List.mem_of_getElem? (i := 105) rfl)) rfl
theorem w_4_106 : (Jvm.Cond.methodLink "OddCancelLaw" (67 : Nat) ({ cls := "OddCancel", name := "told", desc := "(I)I" } : Jvm.MethodName)) ∈ o_tb := o_tb_of (lw_t4 (List.mem_of_getElem? (i := 106) rfl)) rfl
theorem w_4_107 : (Jvm.Cond.instanceMethod ({ cls := "OddCancel", name := "told", desc := "(I)I" } : Jvm.MethodName)) ∈ o_tb := o_tb_of (lw_t4 (List.mem_of_getElem? (i := 107) rfl)) rfl
theorem w_4_108 : (Jvm.Cond.selects "OddCancel" ({ cls := "OddCancel", name := "told", desc := "(I)I" } : Jvm.MethodName) ({ cls := "OddCancel", name := "told", desc := "(I)I" } : Jvm.MethodName)) ∈ o_tb := o_tb_of (lw_t4 (List.mem_of_getElem? (i := 108) rfl)) rfl
theorem w_4_109 : (Jvm.Cond.code ({ cls := "OddCancel", name := "told", desc := "(I)I" } : Jvm.MethodName) prog_1_method_13_code (2 : Nat) (Option.some Jvm.ClassFile.FieldType.int)) ∈ o_tb := o_tb_of (lw_t4 (List.mem_of_getElem? (i := 109) rfl)) rfl
theorem w_4_114 : (Jvm.Cond.methodLink "OddCancelLaw" (71 : Nat) ({ cls := "OddCancel", name := "worth", desc := "(I)I" } : Jvm.MethodName)) ∈ o_tb := o_tb_of (lw_t4 (List.mem_of_getElem? (i := 114) rfl)) rfl
theorem w_4_115 : (Jvm.Cond.instanceMethod ({ cls := "OddCancel", name := "worth", desc := "(I)I" } : Jvm.MethodName)) ∈ o_tb := o_tb_of (lw_t4 (List.mem_of_getElem? (i := 115) rfl)) rfl
theorem w_4_116 : (Jvm.Cond.selects "OddCancel" ({ cls := "OddCancel", name := "worth", desc := "(I)I" } : Jvm.MethodName) ({ cls := "OddCancel", name := "worth", desc := "(I)I" } : Jvm.MethodName)) ∈ o_tb := o_tb_of (lw_t4 (List.mem_of_getElem? (i := 116) rfl)) rfl
theorem w_4_117 : (Jvm.Cond.code ({ cls := "OddCancel", name := "worth", desc := "(I)I" } : Jvm.MethodName) prog_1_method_14_code (2 : Nat) (Option.some Jvm.ClassFile.FieldType.int)) ∈ o_tb := o_tb_of (lw_t4 (List.mem_of_getElem? (i := 117) rfl)) rfl
theorem w_4_122 : (Jvm.Cond.methodLink "OddCancelLaw" (75 : Nat) ({ cls := "OddCancel", name := "hand", desc := "(I)I" } : Jvm.MethodName)) ∈ o_tb := o_tb_of (lw_t4 (List.mem_of_getElem? (i := 122) rfl)) rfl
theorem w_4_123 : (Jvm.Cond.instanceMethod ({ cls := "OddCancel", name := "hand", desc := "(I)I" } : Jvm.MethodName)) ∈ o_tb := o_tb_of (lw_t4 (List.mem_of_getElem? (i := 123) rfl)) rfl
theorem w_4_124 : (Jvm.Cond.selects "OddCancel" ({ cls := "OddCancel", name := "hand", desc := "(I)I" } : Jvm.MethodName) ({ cls := "OddCancel", name := "hand", desc := "(I)I" } : Jvm.MethodName)) ∈ o_tb := o_tb_of (lw_t4 (List.mem_of_getElem? (i := 124) rfl)) rfl
theorem w_4_125 : (Jvm.Cond.code ({ cls := "OddCancel", name := "hand", desc := "(I)I" } : Jvm.MethodName) prog_1_method_15_code (2 : Nat) (Option.some Jvm.ClassFile.FieldType.int)) ∈ o_tb := o_tb_of (lw_t4 (List.mem_of_getElem? (i := 125) rfl)) rfl
theorem w_4_130 : (Jvm.Cond.methodLink "OddCancelLaw" (79 : Nat) ({ cls := "OddCancel", name := "law", desc := "(II)I" } : Jvm.MethodName)) ∈ o_tb := o_tb_of (lw_t4 (List.mem_of_getElem? (i := 130) rfl)) rfl
theorem w_4_131 : (Jvm.Cond.instanceMethod ({ cls := "OddCancel", name := "law", desc := "(II)I" } : Jvm.MethodName)) ∈ o_tb := o_tb_of (lw_t4 (List.mem_of_getElem? (i := 131) rfl)) rfl
theorem w_4_132 : (Jvm.Cond.selects "OddCancel" ({ cls := "OddCancel", name := "law", desc := "(II)I" } : Jvm.MethodName) ({ cls := "OddCancel", name := "law", desc := "(II)I" } : Jvm.MethodName)) ∈ o_tb := o_tb_of (lw_t4 (List.mem_of_getElem? (i := 132) rfl)) rfl
theorem w_4_133 : (Jvm.Cond.code ({ cls := "OddCancel", name := "law", desc := "(II)I" } : Jvm.MethodName) prog_1_method_16_code (3 : Nat) (Option.some Jvm.ClassFile.FieldType.int)) ∈ o_tb := o_tb_of (lw_t4 (List.mem_of_getElem? (i := 133) rfl)) rfl
theorem w_4_139 : (Jvm.Cond.methodLink "OddCancelLaw" (84 : Nat) ({ cls := "OddCancel", name := "acts", desc := "(III)I" } : Jvm.MethodName)) ∈ o_tb := o_tb_of (lw_t4 (List.mem_of_getElem? (i := 139) rfl)) rfl
theorem w_4_140 : (Jvm.Cond.instanceMethod ({ cls := "OddCancel", name := "acts", desc := "(III)I" } : Jvm.MethodName)) ∈ o_tb := o_tb_of (lw_t4 (List.mem_of_getElem? (i := 140) rfl)) rfl
theorem w_4_141 : (Jvm.Cond.selects "OddCancel" ({ cls := "OddCancel", name := "acts", desc := "(III)I" } : Jvm.MethodName) ({ cls := "OddCancel", name := "acts", desc := "(III)I" } : Jvm.MethodName)) ∈ o_tb := o_tb_of (lw_t4 (List.mem_of_getElem? (i := 141) rfl)) rfl
theorem w_4_142 : (Jvm.Cond.code ({ cls := "OddCancel", name := "acts", desc := "(III)I" } : Jvm.MethodName) prog_1_method_17_code (5 : Nat) (Option.some Jvm.ClassFile.FieldType.int)) ∈ o_tb := o_tb_of (lw_t4 (List.mem_of_getElem? (i := 142) rfl)) rfl
theorem w_4_149 : (Jvm.Cond.methodLink "OddCancelLaw" (89 : Nat) ({ cls := "OddCancel", name := "letter", desc := "(II)I" } : Jvm.MethodName)) ∈ o_tb := o_tb_of (lw_t4 (List.mem_of_getElem? (i := 149) rfl)) rfl
theorem w_4_150 : (Jvm.Cond.instanceMethod ({ cls := "OddCancel", name := "letter", desc := "(II)I" } : Jvm.MethodName)) ∈ o_tb := o_tb_of (lw_t4 (List.mem_of_getElem? (i := 150) rfl)) rfl
theorem w_4_151 : (Jvm.Cond.selects "OddCancel" ({ cls := "OddCancel", name := "letter", desc := "(II)I" } : Jvm.MethodName) ({ cls := "OddCancel", name := "letter", desc := "(II)I" } : Jvm.MethodName)) ∈ o_tb := o_tb_of (lw_t4 (List.mem_of_getElem? (i := 151) rfl)) rfl
theorem w_4_152 : (Jvm.Cond.code ({ cls := "OddCancel", name := "letter", desc := "(II)I" } : Jvm.MethodName) prog_1_method_18_code (3 : Nat) (Option.some Jvm.ClassFile.FieldType.int)) ∈ o_tb := o_tb_of (lw_t4 (List.mem_of_getElem? (i := 152) rfl)) rfl
theorem w_4_157 : (Jvm.Cond.methodLink "OddCancelLaw" (93 : Nat) ({ cls := "OddCancel", name := "cover", desc := "(II)I" } : Jvm.MethodName)) ∈ o_tb := o_tb_of (lw_t4 (List.mem_of_getElem? (i := 157) rfl)) rfl
theorem w_4_158 : (Jvm.Cond.instanceMethod ({ cls := "OddCancel", name := "cover", desc := "(II)I" } : Jvm.MethodName)) ∈ o_tb := o_tb_of (lw_t4 (List.mem_of_getElem? (i := 158) rfl)) rfl
theorem w_4_159 : (Jvm.Cond.selects "OddCancel" ({ cls := "OddCancel", name := "cover", desc := "(II)I" } : Jvm.MethodName) ({ cls := "OddCancel", name := "cover", desc := "(II)I" } : Jvm.MethodName)) ∈ o_tb := o_tb_of (lw_t4 (List.mem_of_getElem? (i := 159) rfl)) rfl
theorem w_4_160 : (Jvm.Cond.code ({ cls := "OddCancel", name := "cover", desc := "(II)I" } : Jvm.MethodName) prog_1_method_19_code (3 : Nat) (Option.some Jvm.ClassFile.FieldType.int)) ∈ o_tb := o_tb_of (lw_t4 (List.mem_of_getElem? (i := 160) rfl)) rfl
theorem w_4_162 : (Jvm.Cond.methodLink "OddCancelLaw" (97 : Nat) ({ cls := "OddCancel", name := "strikes", desc := "(I)I" } : Jvm.MethodName)) ∈ o_tb := o_tb_of (lw_t4 (List.mem_of_getElem? (i := 162) rfl)) rfl
theorem w_4_163 : (Jvm.Cond.instanceMethod ({ cls := "OddCancel", name := "strikes", desc := "(I)I" } : Jvm.MethodName)) ∈ o_tb := o_tb_of (lw_t4 (List.mem_of_getElem? (i := 163) rfl)) rfl
theorem w_4_164 : (Jvm.Cond.selects "OddCancel" ({ cls := "OddCancel", name := "strikes", desc := "(I)I" } : Jvm.MethodName) ({ cls := "OddCancel", name := "strikes", desc := "(I)I" } : Jvm.MethodName)) ∈ o_tb := o_tb_of (lw_t4 (List.mem_of_getElem? (i := 164) rfl)) rfl
theorem w_4_165 : (Jvm.Cond.code ({ cls := "OddCancel", name := "strikes", desc := "(I)I" } : Jvm.MethodName) prog_1_method_20_code (2 : Nat) (Option.some Jvm.ClassFile.FieldType.int)) ∈ o_tb := o_tb_of (lw_t4 (List.mem_of_getElem? (i := 165) rfl)) rfl
theorem w_4_166 : (Jvm.Cond.methodLink "OddCancelLaw" (101 : Nat) ({ cls := "OddCancel", name := "post", desc := "(IIII)I" } : Jvm.MethodName)) ∈ o_tb := o_tb_of (lw_t4 (List.mem_of_getElem? (i := 166) rfl)) rfl
theorem w_4_167 : (Jvm.Cond.instanceMethod ({ cls := "OddCancel", name := "post", desc := "(IIII)I" } : Jvm.MethodName)) ∈ o_tb := o_tb_of (lw_t4 (List.mem_of_getElem? (i := 167) rfl)) rfl
theorem w_4_168 : (Jvm.Cond.selects "OddCancel" ({ cls := "OddCancel", name := "post", desc := "(IIII)I" } : Jvm.MethodName) ({ cls := "OddCancel", name := "post", desc := "(IIII)I" } : Jvm.MethodName)) ∈ o_tb := o_tb_of (lw_t4 (List.mem_of_getElem? (i := 168) rfl)) rfl
theorem w_4_169 : (Jvm.Cond.code ({ cls := "OddCancel", name := "post", desc := "(IIII)I" } : Jvm.MethodName) prog_1_method_21_code (5 : Nat) (Option.some Jvm.ClassFile.FieldType.int)) ∈ o_tb := o_tb_of (lw_t4 (List.mem_of_getElem? (i := 169) rfl)) rfl
theorem w_4_182 : (Jvm.Cond.methodLink "OddCancelLaw" (106 : Nat) ({ cls := "OddCancel", name := "day", desc := "(I)I" } : Jvm.MethodName)) ∈ o_tb := o_tb_of (lw_t4 (List.mem_of_getElem? (i := 182) rfl)) rfl
theorem w_4_183 : (Jvm.Cond.instanceMethod ({ cls := "OddCancel", name := "day", desc := "(I)I" } : Jvm.MethodName)) ∈ o_tb := o_tb_of (lw_t4 (List.mem_of_getElem? (i := 183) rfl)) rfl
theorem w_4_184 : (Jvm.Cond.selects "OddCancel" ({ cls := "OddCancel", name := "day", desc := "(I)I" } : Jvm.MethodName) ({ cls := "OddCancel", name := "day", desc := "(I)I" } : Jvm.MethodName)) ∈ o_tb := o_tb_of (lw_t4 (List.mem_of_getElem? (i := 184) rfl)) rfl
theorem w_4_185 : (Jvm.Cond.code ({ cls := "OddCancel", name := "day", desc := "(I)I" } : Jvm.MethodName) prog_1_method_22_code (2 : Nat) (Option.some Jvm.ClassFile.FieldType.int)) ∈ o_tb := o_tb_of (lw_t4 (List.mem_of_getElem? (i := 185) rfl)) rfl
theorem w_4_228 : (Jvm.Cond.methodLink "OddCancelLaw" (110 : Nat) ({ cls := "OddCancel", name := "drink", desc := "(Z)Z" } : Jvm.MethodName)) ∈ o_tb := o_tb_of (lw_t4 (List.mem_of_getElem? (i := 228) rfl)) rfl
theorem w_4_229 : (Jvm.Cond.instanceMethod ({ cls := "OddCancel", name := "drink", desc := "(Z)Z" } : Jvm.MethodName)) ∈ o_tb := o_tb_of (lw_t4 (List.mem_of_getElem? (i := 229) rfl)) rfl
theorem w_4_230 : (Jvm.Cond.selects "OddCancel" ({ cls := "OddCancel", name := "drink", desc := "(Z)Z" } : Jvm.MethodName) ({ cls := "OddCancel", name := "drink", desc := "(Z)Z" } : Jvm.MethodName)) ∈ o_tb := o_tb_of (lw_t4 (List.mem_of_getElem? (i := 230) rfl)) rfl
theorem w_4_231 : (Jvm.Cond.code ({ cls := "OddCancel", name := "drink", desc := "(Z)Z" } : Jvm.MethodName) prog_1_method_23_code (2 : Nat) (Option.some Jvm.ClassFile.FieldType.boolean)) ∈ o_tb := o_tb_of (lw_t4 (List.mem_of_getElem? (i := 231) rfl)) rfl
theorem w_4_232 : (Jvm.Cond.methodLink "OddCancelLaw" (115 : Nat) ({ cls := "OddCancel", name := "take", desc := "(I)I" } : Jvm.MethodName)) ∈ o_tb := o_tb_of (lw_t4 (List.mem_of_getElem? (i := 232) rfl)) rfl
theorem w_4_233 : (Jvm.Cond.instanceMethod ({ cls := "OddCancel", name := "take", desc := "(I)I" } : Jvm.MethodName)) ∈ o_tb := o_tb_of (lw_t4 (List.mem_of_getElem? (i := 233) rfl)) rfl
theorem w_4_234 : (Jvm.Cond.selects "OddCancel" ({ cls := "OddCancel", name := "take", desc := "(I)I" } : Jvm.MethodName) ({ cls := "OddCancel", name := "take", desc := "(I)I" } : Jvm.MethodName)) ∈ o_tb := o_tb_of (lw_t4 (List.mem_of_getElem? (i := 234) rfl)) rfl
theorem w_4_235 : (Jvm.Cond.code ({ cls := "OddCancel", name := "take", desc := "(I)I" } : Jvm.MethodName) prog_1_method_24_code (2 : Nat) (Option.some Jvm.ClassFile.FieldType.int)) ∈ o_tb := o_tb_of (lw_t4 (List.mem_of_getElem? (i := 235) rfl)) rfl
theorem w_5_0 : (Jvm.Cond.methodLink "OddCancelLaw" (119 : Nat) ({ cls := "OddCancel", name := "wrapped", desc := "(II)I" } : Jvm.MethodName)) ∈ o_tb := o_tb_of (lw_t5 (List.mem_of_getElem? (i := 0) rfl)) rfl
theorem w_5_1 : (Jvm.Cond.instanceMethod ({ cls := "OddCancel", name := "wrapped", desc := "(II)I" } : Jvm.MethodName)) ∈ o_tb := o_tb_of (lw_t5 (List.mem_of_getElem? (i := 1) rfl)) rfl
theorem w_5_2 : (Jvm.Cond.selects "OddCancel" ({ cls := "OddCancel", name := "wrapped", desc := "(II)I" } : Jvm.MethodName) ({ cls := "OddCancel", name := "wrapped", desc := "(II)I" } : Jvm.MethodName)) ∈ o_tb := o_tb_of (lw_t5 (List.mem_of_getElem? (i := 2) rfl)) rfl
theorem w_5_3 : (Jvm.Cond.code ({ cls := "OddCancel", name := "wrapped", desc := "(II)I" } : Jvm.MethodName) prog_1_method_25_code (4 : Nat) (Option.some Jvm.ClassFile.FieldType.int)) ∈ o_tb := o_tb_of (lw_t5 (List.mem_of_getElem? (i := 3) rfl)) rfl
theorem w_5_5 : (Jvm.Cond.methodLink "OddCancelLaw" (123 : Nat) ({ cls := "OddCancel", name := "learn", desc := "(II)Z" } : Jvm.MethodName)) ∈ o_tb := o_tb_of (lw_t5 (List.mem_of_getElem? (i := 5) rfl)) rfl
theorem w_5_6 : (Jvm.Cond.instanceMethod ({ cls := "OddCancel", name := "learn", desc := "(II)Z" } : Jvm.MethodName)) ∈ o_tb := o_tb_of (lw_t5 (List.mem_of_getElem? (i := 6) rfl)) rfl
theorem w_5_7 : (Jvm.Cond.selects "OddCancel" ({ cls := "OddCancel", name := "learn", desc := "(II)Z" } : Jvm.MethodName) ({ cls := "OddCancel", name := "learn", desc := "(II)Z" } : Jvm.MethodName)) ∈ o_tb := o_tb_of (lw_t5 (List.mem_of_getElem? (i := 7) rfl)) rfl
theorem w_5_8 : (Jvm.Cond.code ({ cls := "OddCancel", name := "learn", desc := "(II)Z" } : Jvm.MethodName) prog_1_method_26_code (3 : Nat) (Option.some Jvm.ClassFile.FieldType.boolean)) ∈ o_tb := o_tb_of (lw_t5 (List.mem_of_getElem? (i := 8) rfl)) rfl
theorem w_5_10 : (Jvm.Cond.methodLink "OddCancelLaw" (128 : Nat) ({ cls := "OddCancel", name := "teach", desc := "(IIII)Z" } : Jvm.MethodName)) ∈ o_tb := o_tb_of (lw_t5 (List.mem_of_getElem? (i := 10) rfl)) rfl
theorem w_5_11 : (Jvm.Cond.instanceMethod ({ cls := "OddCancel", name := "teach", desc := "(IIII)Z" } : Jvm.MethodName)) ∈ o_tb := o_tb_of (lw_t5 (List.mem_of_getElem? (i := 11) rfl)) rfl
theorem w_5_12 : (Jvm.Cond.selects "OddCancel" ({ cls := "OddCancel", name := "teach", desc := "(IIII)Z" } : Jvm.MethodName) ({ cls := "OddCancel", name := "teach", desc := "(IIII)Z" } : Jvm.MethodName)) ∈ o_tb := o_tb_of (lw_t5 (List.mem_of_getElem? (i := 12) rfl)) rfl
theorem w_5_13 : (Jvm.Cond.code ({ cls := "OddCancel", name := "teach", desc := "(IIII)Z" } : Jvm.MethodName) prog_1_method_27_code (5 : Nat) (Option.some Jvm.ClassFile.FieldType.boolean)) ∈ o_tb := o_tb_of (lw_t5 (List.mem_of_getElem? (i := 13) rfl)) rfl
theorem w_5_15 : (Jvm.Cond.methodLink "OddCancelLaw" (133 : Nat) ({ cls := "OddCancel", name := "forget", desc := "(II)Z" } : Jvm.MethodName)) ∈ o_tb := o_tb_of (lw_t5 (List.mem_of_getElem? (i := 15) rfl)) rfl
theorem w_5_16 : (Jvm.Cond.instanceMethod ({ cls := "OddCancel", name := "forget", desc := "(II)Z" } : Jvm.MethodName)) ∈ o_tb := o_tb_of (lw_t5 (List.mem_of_getElem? (i := 16) rfl)) rfl
theorem w_5_17 : (Jvm.Cond.selects "OddCancel" ({ cls := "OddCancel", name := "forget", desc := "(II)Z" } : Jvm.MethodName) ({ cls := "OddCancel", name := "forget", desc := "(II)Z" } : Jvm.MethodName)) ∈ o_tb := o_tb_of (lw_t5 (List.mem_of_getElem? (i := 17) rfl)) rfl
theorem w_5_18 : (Jvm.Cond.code ({ cls := "OddCancel", name := "forget", desc := "(II)Z" } : Jvm.MethodName) prog_1_method_28_code (3 : Nat) (Option.some Jvm.ClassFile.FieldType.boolean)) ∈ o_tb := o_tb_of (lw_t5 (List.mem_of_getElem? (i := 18) rfl)) rfl
theorem w_5_19 : (Jvm.Cond.methodLink "OddCancelLaw" (137 : Nat) ({ cls := "OddCancel", name := "sway", desc := "(I)Z" } : Jvm.MethodName)) ∈ o_tb := o_tb_of (lw_t5 (List.mem_of_getElem? (i := 19) rfl)) rfl
theorem w_5_20 : (Jvm.Cond.instanceMethod ({ cls := "OddCancel", name := "sway", desc := "(I)Z" } : Jvm.MethodName)) ∈ o_tb := o_tb_of (lw_t5 (List.mem_of_getElem? (i := 20) rfl)) rfl
theorem w_5_21 : (Jvm.Cond.selects "OddCancel" ({ cls := "OddCancel", name := "sway", desc := "(I)Z" } : Jvm.MethodName) ({ cls := "OddCancel", name := "sway", desc := "(I)Z" } : Jvm.MethodName)) ∈ o_tb := o_tb_of (lw_t5 (List.mem_of_getElem? (i := 21) rfl)) rfl
theorem w_5_22 : (Jvm.Cond.code ({ cls := "OddCancel", name := "sway", desc := "(I)Z" } : Jvm.MethodName) prog_1_method_29_code (2 : Nat) (Option.some Jvm.ClassFile.FieldType.boolean)) ∈ o_tb := o_tb_of (lw_t5 (List.mem_of_getElem? (i := 22) rfl)) rfl
theorem w_5_27 : (Jvm.Cond.methodLink "OddCancelLaw" (142 : Nat) ({ cls := "OddCancel", name := "pub", desc := "(I)Z" } : Jvm.MethodName)) ∈ o_tb := o_tb_of (lw_t5 (List.mem_of_getElem? (i := 27) rfl)) rfl
theorem w_5_28 : (Jvm.Cond.instanceMethod ({ cls := "OddCancel", name := "pub", desc := "(I)Z" } : Jvm.MethodName)) ∈ o_tb := o_tb_of (lw_t5 (List.mem_of_getElem? (i := 28) rfl)) rfl
theorem w_5_29 : (Jvm.Cond.selects "OddCancel" ({ cls := "OddCancel", name := "pub", desc := "(I)Z" } : Jvm.MethodName) ({ cls := "OddCancel", name := "pub", desc := "(I)Z" } : Jvm.MethodName)) ∈ o_tb := o_tb_of (lw_t5 (List.mem_of_getElem? (i := 29) rfl)) rfl
theorem w_5_30 : (Jvm.Cond.code ({ cls := "OddCancel", name := "pub", desc := "(I)Z" } : Jvm.MethodName) prog_1_method_30_code (2 : Nat) (Option.some Jvm.ClassFile.FieldType.boolean)) ∈ o_tb := o_tb_of (lw_t5 (List.mem_of_getElem? (i := 30) rfl)) rfl
theorem w_5_32 : (Jvm.Cond.methodLink "OddCancelLaw" (146 : Nat) ({ cls := "OddCancel", name := "lawOf", desc := "(IIII)I" } : Jvm.MethodName)) ∈ o_tb := o_tb_of (lw_t5 (List.mem_of_getElem? (i := 32) rfl)) rfl
theorem w_5_33 : (Jvm.Cond.instanceMethod ({ cls := "OddCancel", name := "lawOf", desc := "(IIII)I" } : Jvm.MethodName)) ∈ o_tb := o_tb_of (lw_t5 (List.mem_of_getElem? (i := 33) rfl)) rfl
theorem w_5_34 : (Jvm.Cond.selects "OddCancel" ({ cls := "OddCancel", name := "lawOf", desc := "(IIII)I" } : Jvm.MethodName) ({ cls := "OddCancel", name := "lawOf", desc := "(IIII)I" } : Jvm.MethodName)) ∈ o_tb := o_tb_of (lw_t5 (List.mem_of_getElem? (i := 34) rfl)) rfl
theorem w_5_35 : (Jvm.Cond.code ({ cls := "OddCancel", name := "lawOf", desc := "(IIII)I" } : Jvm.MethodName) prog_1_method_31_code (5 : Nat) (Option.some Jvm.ClassFile.FieldType.int)) ∈ o_tb := o_tb_of (lw_t5 (List.mem_of_getElem? (i := 35) rfl)) rfl
theorem w_5_37 : (Jvm.Cond.methodLink "OddCancelLaw" (150 : Nat) ({ cls := "OddCancel", name := "strikeOf", desc := "(IIII)I" } : Jvm.MethodName)) ∈ o_tb := o_tb_of (lw_t5 (List.mem_of_getElem? (i := 37) rfl)) rfl
theorem w_5_38 : (Jvm.Cond.instanceMethod ({ cls := "OddCancel", name := "strikeOf", desc := "(IIII)I" } : Jvm.MethodName)) ∈ o_tb := o_tb_of (lw_t5 (List.mem_of_getElem? (i := 38) rfl)) rfl
theorem w_5_39 : (Jvm.Cond.selects "OddCancel" ({ cls := "OddCancel", name := "strikeOf", desc := "(IIII)I" } : Jvm.MethodName) ({ cls := "OddCancel", name := "strikeOf", desc := "(IIII)I" } : Jvm.MethodName)) ∈ o_tb := o_tb_of (lw_t5 (List.mem_of_getElem? (i := 39) rfl)) rfl
theorem w_5_40 : (Jvm.Cond.code ({ cls := "OddCancel", name := "strikeOf", desc := "(IIII)I" } : Jvm.MethodName) prog_1_method_32_code (5 : Nat) (Option.some Jvm.ClassFile.FieldType.int)) ∈ o_tb := o_tb_of (lw_t5 (List.mem_of_getElem? (i := 40) rfl)) rfl
theorem w_5_45 : (Jvm.Cond.methodLink "OddCancelLaw" (154 : Nat) ({ cls := "OddCancel", name := "struckNow", desc := "(IIII)I" } : Jvm.MethodName)) ∈ o_tb := o_tb_of (lw_t5 (List.mem_of_getElem? (i := 45) rfl)) rfl
theorem w_5_46 : (Jvm.Cond.instanceMethod ({ cls := "OddCancel", name := "struckNow", desc := "(IIII)I" } : Jvm.MethodName)) ∈ o_tb := o_tb_of (lw_t5 (List.mem_of_getElem? (i := 46) rfl)) rfl
theorem w_5_47 : (Jvm.Cond.selects "OddCancel" ({ cls := "OddCancel", name := "struckNow", desc := "(IIII)I" } : Jvm.MethodName) ({ cls := "OddCancel", name := "struckNow", desc := "(IIII)I" } : Jvm.MethodName)) ∈ o_tb := o_tb_of (lw_t5 (List.mem_of_getElem? (i := 47) rfl)) rfl
theorem w_5_48 : (Jvm.Cond.code ({ cls := "OddCancel", name := "struckNow", desc := "(IIII)I" } : Jvm.MethodName) prog_1_method_33_code (6 : Nat) (Option.some Jvm.ClassFile.FieldType.int)) ∈ o_tb := o_tb_of (lw_t5 (List.mem_of_getElem? (i := 48) rfl)) rfl
theorem w_5_50 : (Jvm.Cond.methodLink "OddCancelLaw" (158 : Nat) ({ cls := "OddCancel", name := "lawsOf", desc := "(IIII)I" } : Jvm.MethodName)) ∈ o_tb := o_tb_of (lw_t5 (List.mem_of_getElem? (i := 50) rfl)) rfl
theorem w_5_51 : (Jvm.Cond.instanceMethod ({ cls := "OddCancel", name := "lawsOf", desc := "(IIII)I" } : Jvm.MethodName)) ∈ o_tb := o_tb_of (lw_t5 (List.mem_of_getElem? (i := 51) rfl)) rfl
theorem w_5_52 : (Jvm.Cond.selects "OddCancel" ({ cls := "OddCancel", name := "lawsOf", desc := "(IIII)I" } : Jvm.MethodName) ({ cls := "OddCancel", name := "lawsOf", desc := "(IIII)I" } : Jvm.MethodName)) ∈ o_tb := o_tb_of (lw_t5 (List.mem_of_getElem? (i := 52) rfl)) rfl
theorem w_5_53 : (Jvm.Cond.code ({ cls := "OddCancel", name := "lawsOf", desc := "(IIII)I" } : Jvm.MethodName) prog_1_method_34_code (7 : Nat) (Option.some Jvm.ClassFile.FieldType.int)) ∈ o_tb := o_tb_of (lw_t5 (List.mem_of_getElem? (i := 53) rfl)) rfl
theorem w_5_55 : (Jvm.Cond.methodLink "OddCancelLaw" (162 : Nat) ({ cls := "OddCancel", name := "sure", desc := "(IIIII)Z" } : Jvm.MethodName)) ∈ o_tb := o_tb_of (lw_t5 (List.mem_of_getElem? (i := 55) rfl)) rfl
theorem w_5_56 : (Jvm.Cond.instanceMethod ({ cls := "OddCancel", name := "sure", desc := "(IIIII)Z" } : Jvm.MethodName)) ∈ o_tb := o_tb_of (lw_t5 (List.mem_of_getElem? (i := 56) rfl)) rfl
theorem w_5_57 : (Jvm.Cond.selects "OddCancel" ({ cls := "OddCancel", name := "sure", desc := "(IIIII)Z" } : Jvm.MethodName) ({ cls := "OddCancel", name := "sure", desc := "(IIIII)Z" } : Jvm.MethodName)) ∈ o_tb := o_tb_of (lw_t5 (List.mem_of_getElem? (i := 57) rfl)) rfl
theorem w_5_58 : (Jvm.Cond.code ({ cls := "OddCancel", name := "sure", desc := "(IIIII)Z" } : Jvm.MethodName) prog_1_method_35_code (8 : Nat) (Option.some Jvm.ClassFile.FieldType.boolean)) ∈ o_tb := o_tb_of (lw_t5 (List.mem_of_getElem? (i := 58) rfl)) rfl
theorem w_5_69 : (Jvm.Cond.methodLink "OddCancelLaw" (166 : Nat) ({ cls := "OddCancel", name := "wrap", desc := "(IIIII)I" } : Jvm.MethodName)) ∈ o_tb := o_tb_of (lw_t5 (List.mem_of_getElem? (i := 69) rfl)) rfl
theorem w_5_70 : (Jvm.Cond.instanceMethod ({ cls := "OddCancel", name := "wrap", desc := "(IIIII)I" } : Jvm.MethodName)) ∈ o_tb := o_tb_of (lw_t5 (List.mem_of_getElem? (i := 70) rfl)) rfl
theorem w_5_71 : (Jvm.Cond.selects "OddCancel" ({ cls := "OddCancel", name := "wrap", desc := "(IIIII)I" } : Jvm.MethodName) ({ cls := "OddCancel", name := "wrap", desc := "(IIIII)I" } : Jvm.MethodName)) ∈ o_tb := o_tb_of (lw_t5 (List.mem_of_getElem? (i := 71) rfl)) rfl
theorem w_5_72 : (Jvm.Cond.code ({ cls := "OddCancel", name := "wrap", desc := "(IIIII)I" } : Jvm.MethodName) prog_1_method_36_code (7 : Nat) (Option.some Jvm.ClassFile.FieldType.int)) ∈ o_tb := o_tb_of (lw_t5 (List.mem_of_getElem? (i := 72) rfl)) rfl
theorem w_5_78 : (Jvm.Cond.methodLink "OddCancelLaw" (170 : Nat) ({ cls := "OddCancel", name := "weights", desc := "(IIII)I" } : Jvm.MethodName)) ∈ o_tb := o_tb_of (lw_t5 (List.mem_of_getElem? (i := 78) rfl)) rfl
theorem w_5_79 : (Jvm.Cond.instanceMethod ({ cls := "OddCancel", name := "weights", desc := "(IIII)I" } : Jvm.MethodName)) ∈ o_tb := o_tb_of (lw_t5 (List.mem_of_getElem? (i := 79) rfl)) rfl
theorem w_5_80 : (Jvm.Cond.selects "OddCancel" ({ cls := "OddCancel", name := "weights", desc := "(IIII)I" } : Jvm.MethodName) ({ cls := "OddCancel", name := "weights", desc := "(IIII)I" } : Jvm.MethodName)) ∈ o_tb := o_tb_of (lw_t5 (List.mem_of_getElem? (i := 80) rfl)) rfl
theorem w_5_81 : (Jvm.Cond.code ({ cls := "OddCancel", name := "weights", desc := "(IIII)I" } : Jvm.MethodName) prog_1_method_37_code (7 : Nat) (Option.some Jvm.ClassFile.FieldType.int)) ∈ o_tb := o_tb_of (lw_t5 (List.mem_of_getElem? (i := 81) rfl)) rfl
theorem w_5_82 : (Jvm.Cond.methodLink "OddCancelLaw" (174 : Nat) ({ cls := "OddCancel", name := "weightAt", desc := "(IIIII)I" } : Jvm.MethodName)) ∈ o_tb := o_tb_of (lw_t5 (List.mem_of_getElem? (i := 82) rfl)) rfl
theorem w_5_83 : (Jvm.Cond.instanceMethod ({ cls := "OddCancel", name := "weightAt", desc := "(IIIII)I" } : Jvm.MethodName)) ∈ o_tb := o_tb_of (lw_t5 (List.mem_of_getElem? (i := 83) rfl)) rfl
theorem w_5_84 : (Jvm.Cond.selects "OddCancel" ({ cls := "OddCancel", name := "weightAt", desc := "(IIIII)I" } : Jvm.MethodName) ({ cls := "OddCancel", name := "weightAt", desc := "(IIIII)I" } : Jvm.MethodName)) ∈ o_tb := o_tb_of (lw_t5 (List.mem_of_getElem? (i := 84) rfl)) rfl
theorem w_5_85 : (Jvm.Cond.code ({ cls := "OddCancel", name := "weightAt", desc := "(IIIII)I" } : Jvm.MethodName) prog_1_method_38_code (6 : Nat) (Option.some Jvm.ClassFile.FieldType.int)) ∈ o_tb := o_tb_of (lw_t5 (List.mem_of_getElem? (i := 85) rfl)) rfl
theorem w_5_90 : (Jvm.Cond.methodLink "OddCancelLaw" (178 : Nat) ({ cls := "OddCancel", name := "could", desc := "(III)I" } : Jvm.MethodName)) ∈ o_tb := o_tb_of (lw_t5 (List.mem_of_getElem? (i := 90) rfl)) rfl
theorem w_5_91 : (Jvm.Cond.instanceMethod ({ cls := "OddCancel", name := "could", desc := "(III)I" } : Jvm.MethodName)) ∈ o_tb := o_tb_of (lw_t5 (List.mem_of_getElem? (i := 91) rfl)) rfl
theorem w_5_92 : (Jvm.Cond.selects "OddCancel" ({ cls := "OddCancel", name := "could", desc := "(III)I" } : Jvm.MethodName) ({ cls := "OddCancel", name := "could", desc := "(III)I" } : Jvm.MethodName)) ∈ o_tb := o_tb_of (lw_t5 (List.mem_of_getElem? (i := 92) rfl)) rfl
theorem w_5_93 : (Jvm.Cond.code ({ cls := "OddCancel", name := "could", desc := "(III)I" } : Jvm.MethodName) prog_1_method_39_code (7 : Nat) (Option.some Jvm.ClassFile.FieldType.int)) ∈ o_tb := o_tb_of (lw_t5 (List.mem_of_getElem? (i := 93) rfl)) rfl
theorem w_5_94 : (Jvm.Cond.methodLink "OddCancelLaw" (182 : Nat) ({ cls := "OddCancel", name := "idle", desc := "()I" } : Jvm.MethodName)) ∈ o_tb := o_tb_of (lw_t5 (List.mem_of_getElem? (i := 94) rfl)) rfl
theorem w_5_95 : (Jvm.Cond.instanceMethod ({ cls := "OddCancel", name := "idle", desc := "()I" } : Jvm.MethodName)) ∈ o_tb := o_tb_of (lw_t5 (List.mem_of_getElem? (i := 95) rfl)) rfl
theorem w_5_96 : (Jvm.Cond.selects "OddCancel" ({ cls := "OddCancel", name := "idle", desc := "()I" } : Jvm.MethodName) ({ cls := "OddCancel", name := "idle", desc := "()I" } : Jvm.MethodName)) ∈ o_tb := o_tb_of (lw_t5 (List.mem_of_getElem? (i := 96) rfl)) rfl
theorem w_5_97 : (Jvm.Cond.code ({ cls := "OddCancel", name := "idle", desc := "()I" } : Jvm.MethodName) prog_1_method_40_code (5 : Nat) (Option.some Jvm.ClassFile.FieldType.int)) ∈ o_tb := o_tb_of (lw_t5 (List.mem_of_getElem? (i := 97) rfl)) rfl
theorem w_5_102 : (Jvm.Cond.methodLink "OddCancelLaw" (186 : Nat) ({ cls := "OddCancel", name := "via", desc := "(IIII)I" } : Jvm.MethodName)) ∈ o_tb := o_tb_of (lw_t5 (List.mem_of_getElem? (i := 102) rfl)) rfl
theorem w_5_103 : (Jvm.Cond.instanceMethod ({ cls := "OddCancel", name := "via", desc := "(IIII)I" } : Jvm.MethodName)) ∈ o_tb := o_tb_of (lw_t5 (List.mem_of_getElem? (i := 103) rfl)) rfl
theorem w_5_104 : (Jvm.Cond.selects "OddCancel" ({ cls := "OddCancel", name := "via", desc := "(IIII)I" } : Jvm.MethodName) ({ cls := "OddCancel", name := "via", desc := "(IIII)I" } : Jvm.MethodName)) ∈ o_tb := o_tb_of (lw_t5 (List.mem_of_getElem? (i := 104) rfl)) rfl
theorem w_5_105 : (Jvm.Cond.code ({ cls := "OddCancel", name := "via", desc := "(IIII)I" } : Jvm.MethodName) prog_1_method_41_code (5 : Nat) (Option.some Jvm.ClassFile.FieldType.int)) ∈ o_tb := o_tb_of (lw_t5 (List.mem_of_getElem? (i := 105) rfl)) rfl
theorem w_5_123 : (Jvm.Cond.methodLink "OddCancelLaw" (190 : Nat) ({ cls := "OddCancel", name := "viaFirst", desc := "(IIII)I" } : Jvm.MethodName)) ∈ o_tb := o_tb_of (lw_t5 (List.mem_of_getElem? (i := 123) rfl)) rfl
theorem w_5_124 : (Jvm.Cond.instanceMethod ({ cls := "OddCancel", name := "viaFirst", desc := "(IIII)I" } : Jvm.MethodName)) ∈ o_tb := o_tb_of (lw_t5 (List.mem_of_getElem? (i := 124) rfl)) rfl
theorem w_5_125 : (Jvm.Cond.selects "OddCancel" ({ cls := "OddCancel", name := "viaFirst", desc := "(IIII)I" } : Jvm.MethodName) ({ cls := "OddCancel", name := "viaFirst", desc := "(IIII)I" } : Jvm.MethodName)) ∈ o_tb := o_tb_of (lw_t5 (List.mem_of_getElem? (i := 125) rfl)) rfl
theorem w_5_126 : (Jvm.Cond.code ({ cls := "OddCancel", name := "viaFirst", desc := "(IIII)I" } : Jvm.MethodName) prog_1_method_42_code (5 : Nat) (Option.some Jvm.ClassFile.FieldType.int)) ∈ o_tb := o_tb_of (lw_t5 (List.mem_of_getElem? (i := 126) rfl)) rfl
theorem w_5_131 : (Jvm.Cond.methodLink "OddCancelLaw" (194 : Nat) ({ cls := "OddCancel", name := "echo", desc := "(II)I" } : Jvm.MethodName)) ∈ o_tb := o_tb_of (lw_t5 (List.mem_of_getElem? (i := 131) rfl)) rfl
theorem w_5_132 : (Jvm.Cond.instanceMethod ({ cls := "OddCancel", name := "echo", desc := "(II)I" } : Jvm.MethodName)) ∈ o_tb := o_tb_of (lw_t5 (List.mem_of_getElem? (i := 132) rfl)) rfl
theorem w_5_133 : (Jvm.Cond.selects "OddCancel" ({ cls := "OddCancel", name := "echo", desc := "(II)I" } : Jvm.MethodName) ({ cls := "OddCancel", name := "echo", desc := "(II)I" } : Jvm.MethodName)) ∈ o_tb := o_tb_of (lw_t5 (List.mem_of_getElem? (i := 133) rfl)) rfl
theorem w_5_134 : (Jvm.Cond.code ({ cls := "OddCancel", name := "echo", desc := "(II)I" } : Jvm.MethodName) prog_1_method_43_code (3 : Nat) (Option.some Jvm.ClassFile.FieldType.int)) ∈ o_tb := o_tb_of (lw_t5 (List.mem_of_getElem? (i := 134) rfl)) rfl
theorem w_5_143 : (Jvm.Cond.methodLink "OddCancelLaw" (198 : Nat) ({ cls := "OddCancel", name := "round", desc := "(II)I" } : Jvm.MethodName)) ∈ o_tb := o_tb_of (lw_t5 (List.mem_of_getElem? (i := 143) rfl)) rfl
theorem w_5_144 : (Jvm.Cond.instanceMethod ({ cls := "OddCancel", name := "round", desc := "(II)I" } : Jvm.MethodName)) ∈ o_tb := o_tb_of (lw_t5 (List.mem_of_getElem? (i := 144) rfl)) rfl
theorem w_5_145 : (Jvm.Cond.selects "OddCancel" ({ cls := "OddCancel", name := "round", desc := "(II)I" } : Jvm.MethodName) ({ cls := "OddCancel", name := "round", desc := "(II)I" } : Jvm.MethodName)) ∈ o_tb := o_tb_of (lw_t5 (List.mem_of_getElem? (i := 145) rfl)) rfl
theorem w_5_146 : (Jvm.Cond.code ({ cls := "OddCancel", name := "round", desc := "(II)I" } : Jvm.MethodName) prog_1_method_44_code (3 : Nat) (Option.some Jvm.ClassFile.FieldType.int)) ∈ o_tb := o_tb_of (lw_t5 (List.mem_of_getElem? (i := 146) rfl)) rfl
theorem w_5_147 : (Jvm.Cond.methodLink "OddCancelLaw" (202 : Nat) ({ cls := "OddCancel", name := "rings", desc := "()I" } : Jvm.MethodName)) ∈ o_tb := o_tb_of (lw_t5 (List.mem_of_getElem? (i := 147) rfl)) rfl
theorem w_5_148 : (Jvm.Cond.instanceMethod ({ cls := "OddCancel", name := "rings", desc := "()I" } : Jvm.MethodName)) ∈ o_tb := o_tb_of (lw_t5 (List.mem_of_getElem? (i := 148) rfl)) rfl
theorem w_5_149 : (Jvm.Cond.selects "OddCancel" ({ cls := "OddCancel", name := "rings", desc := "()I" } : Jvm.MethodName) ({ cls := "OddCancel", name := "rings", desc := "()I" } : Jvm.MethodName)) ∈ o_tb := o_tb_of (lw_t5 (List.mem_of_getElem? (i := 149) rfl)) rfl
theorem w_5_150 : (Jvm.Cond.code ({ cls := "OddCancel", name := "rings", desc := "()I" } : Jvm.MethodName) prog_1_method_45_code (4 : Nat) (Option.some Jvm.ClassFile.FieldType.int)) ∈ o_tb := o_tb_of (lw_t5 (List.mem_of_getElem? (i := 150) rfl)) rfl
theorem w_5_151 : (Jvm.Cond.methodLink "OddCancelLaw" (206 : Nat) ({ cls := "OddCancel", name := "longest", desc := "()I" } : Jvm.MethodName)) ∈ o_tb := o_tb_of (lw_t5 (List.mem_of_getElem? (i := 151) rfl)) rfl
theorem w_5_152 : (Jvm.Cond.instanceMethod ({ cls := "OddCancel", name := "longest", desc := "()I" } : Jvm.MethodName)) ∈ o_tb := o_tb_of (lw_t5 (List.mem_of_getElem? (i := 152) rfl)) rfl
theorem w_5_153 : (Jvm.Cond.selects "OddCancel" ({ cls := "OddCancel", name := "longest", desc := "()I" } : Jvm.MethodName) ({ cls := "OddCancel", name := "longest", desc := "()I" } : Jvm.MethodName)) ∈ o_tb := o_tb_of (lw_t5 (List.mem_of_getElem? (i := 153) rfl)) rfl
theorem w_5_154 : (Jvm.Cond.code ({ cls := "OddCancel", name := "longest", desc := "()I" } : Jvm.MethodName) prog_1_method_46_code (5 : Nat) (Option.some Jvm.ClassFile.FieldType.int)) ∈ o_tb := o_tb_of (lw_t5 (List.mem_of_getElem? (i := 154) rfl)) rfl
theorem w_5_155 : (Jvm.Cond.methodLink "OddCancelLaw" (210 : Nat) ({ cls := "OddCancel", name := "reads", desc := "(II)J" } : Jvm.MethodName)) ∈ o_tb := o_tb_of (lw_t5 (List.mem_of_getElem? (i := 155) rfl)) rfl
theorem w_5_156 : (Jvm.Cond.instanceMethod ({ cls := "OddCancel", name := "reads", desc := "(II)J" } : Jvm.MethodName)) ∈ o_tb := o_tb_of (lw_t5 (List.mem_of_getElem? (i := 156) rfl)) rfl
theorem w_5_157 : (Jvm.Cond.selects "OddCancel" ({ cls := "OddCancel", name := "reads", desc := "(II)J" } : Jvm.MethodName) ({ cls := "OddCancel", name := "reads", desc := "(II)J" } : Jvm.MethodName)) ∈ o_tb := o_tb_of (lw_t5 (List.mem_of_getElem? (i := 157) rfl)) rfl
theorem w_5_158 : (Jvm.Cond.code ({ cls := "OddCancel", name := "reads", desc := "(II)J" } : Jvm.MethodName) prog_1_method_47_code (4 : Nat) (Option.some Jvm.ClassFile.FieldType.long)) ∈ o_tb := o_tb_of (lw_t5 (List.mem_of_getElem? (i := 158) rfl)) rfl
theorem w_5_173 : (Jvm.Cond.methodLink "OddCancelLaw" (214 : Nat) ({ cls := "OddCancel", name := "isJust", desc := "(II)I" } : Jvm.MethodName)) ∈ o_tb := o_tb_of (lw_t5 (List.mem_of_getElem? (i := 173) rfl)) rfl
theorem w_5_174 : (Jvm.Cond.instanceMethod ({ cls := "OddCancel", name := "isJust", desc := "(II)I" } : Jvm.MethodName)) ∈ o_tb := o_tb_of (lw_t5 (List.mem_of_getElem? (i := 174) rfl)) rfl
theorem w_5_175 : (Jvm.Cond.selects "OddCancel" ({ cls := "OddCancel", name := "isJust", desc := "(II)I" } : Jvm.MethodName) ({ cls := "OddCancel", name := "isJust", desc := "(II)I" } : Jvm.MethodName)) ∈ o_tb := o_tb_of (lw_t5 (List.mem_of_getElem? (i := 175) rfl)) rfl
theorem w_5_176 : (Jvm.Cond.code ({ cls := "OddCancel", name := "isJust", desc := "(II)I" } : Jvm.MethodName) prog_1_method_48_code (4 : Nat) (Option.some Jvm.ClassFile.FieldType.int)) ∈ o_tb := o_tb_of (lw_t5 (List.mem_of_getElem? (i := 176) rfl)) rfl
theorem w_5_181 : (Jvm.Cond.methodLink "OddCancelLaw" (218 : Nat) ({ cls := "OddCancel", name := "copyDay", desc := "(I)I" } : Jvm.MethodName)) ∈ o_tb := o_tb_of (lw_t5 (List.mem_of_getElem? (i := 181) rfl)) rfl
theorem w_5_182 : (Jvm.Cond.instanceMethod ({ cls := "OddCancel", name := "copyDay", desc := "(I)I" } : Jvm.MethodName)) ∈ o_tb := o_tb_of (lw_t5 (List.mem_of_getElem? (i := 182) rfl)) rfl
theorem w_5_183 : (Jvm.Cond.selects "OddCancel" ({ cls := "OddCancel", name := "copyDay", desc := "(I)I" } : Jvm.MethodName) ({ cls := "OddCancel", name := "copyDay", desc := "(I)I" } : Jvm.MethodName)) ∈ o_tb := o_tb_of (lw_t5 (List.mem_of_getElem? (i := 183) rfl)) rfl
theorem w_5_184 : (Jvm.Cond.code ({ cls := "OddCancel", name := "copyDay", desc := "(I)I" } : Jvm.MethodName) prog_1_method_49_code (4 : Nat) (Option.some Jvm.ClassFile.FieldType.int)) ∈ o_tb := o_tb_of (lw_t5 (List.mem_of_getElem? (i := 184) rfl)) rfl
theorem w_5_185 : (Jvm.Cond.methodLink "OddCancelLaw" (222 : Nat) ({ cls := "OddCancel", name := "spells", desc := "(II)I" } : Jvm.MethodName)) ∈ o_tb := o_tb_of (lw_t5 (List.mem_of_getElem? (i := 185) rfl)) rfl
theorem w_5_186 : (Jvm.Cond.instanceMethod ({ cls := "OddCancel", name := "spells", desc := "(II)I" } : Jvm.MethodName)) ∈ o_tb := o_tb_of (lw_t5 (List.mem_of_getElem? (i := 186) rfl)) rfl
theorem w_5_187 : (Jvm.Cond.selects "OddCancel" ({ cls := "OddCancel", name := "spells", desc := "(II)I" } : Jvm.MethodName) ({ cls := "OddCancel", name := "spells", desc := "(II)I" } : Jvm.MethodName)) ∈ o_tb := o_tb_of (lw_t5 (List.mem_of_getElem? (i := 187) rfl)) rfl
theorem w_5_188 : (Jvm.Cond.code ({ cls := "OddCancel", name := "spells", desc := "(II)I" } : Jvm.MethodName) prog_1_method_50_code (4 : Nat) (Option.some Jvm.ClassFile.FieldType.int)) ∈ o_tb := o_tb_of (lw_t5 (List.mem_of_getElem? (i := 188) rfl)) rfl
theorem w_5_199 : (Jvm.Cond.methodLink "OddCancelLaw" (226 : Nat) ({ cls := "OddCancel", name := "spellAt", desc := "(IIII)I" } : Jvm.MethodName)) ∈ o_tb := o_tb_of (lw_t5 (List.mem_of_getElem? (i := 199) rfl)) rfl
theorem w_5_200 : (Jvm.Cond.instanceMethod ({ cls := "OddCancel", name := "spellAt", desc := "(IIII)I" } : Jvm.MethodName)) ∈ o_tb := o_tb_of (lw_t5 (List.mem_of_getElem? (i := 200) rfl)) rfl
theorem w_5_201 : (Jvm.Cond.selects "OddCancel" ({ cls := "OddCancel", name := "spellAt", desc := "(IIII)I" } : Jvm.MethodName) ({ cls := "OddCancel", name := "spellAt", desc := "(IIII)I" } : Jvm.MethodName)) ∈ o_tb := o_tb_of (lw_t5 (List.mem_of_getElem? (i := 201) rfl)) rfl
theorem w_5_202 : (Jvm.Cond.code ({ cls := "OddCancel", name := "spellAt", desc := "(IIII)I" } : Jvm.MethodName) prog_1_method_51_code (6 : Nat) (Option.some Jvm.ClassFile.FieldType.int)) ∈ o_tb := o_tb_of (lw_t5 (List.mem_of_getElem? (i := 202) rfl)) rfl
theorem w_5_204 : (Jvm.Cond.methodLink "OddCancelLaw" (230 : Nat) ({ cls := "OddCancel", name := "split", desc := "(IIII)I" } : Jvm.MethodName)) ∈ o_tb := o_tb_of (lw_t5 (List.mem_of_getElem? (i := 204) rfl)) rfl
theorem w_5_205 : (Jvm.Cond.instanceMethod ({ cls := "OddCancel", name := "split", desc := "(IIII)I" } : Jvm.MethodName)) ∈ o_tb := o_tb_of (lw_t5 (List.mem_of_getElem? (i := 205) rfl)) rfl
theorem w_5_206 : (Jvm.Cond.selects "OddCancel" ({ cls := "OddCancel", name := "split", desc := "(IIII)I" } : Jvm.MethodName) ({ cls := "OddCancel", name := "split", desc := "(IIII)I" } : Jvm.MethodName)) ∈ o_tb := o_tb_of (lw_t5 (List.mem_of_getElem? (i := 206) rfl)) rfl
theorem w_5_207 : (Jvm.Cond.code ({ cls := "OddCancel", name := "split", desc := "(IIII)I" } : Jvm.MethodName) prog_1_method_52_code (6 : Nat) (Option.some Jvm.ClassFile.FieldType.int)) ∈ o_tb := o_tb_of (lw_t5 (List.mem_of_getElem? (i := 207) rfl)) rfl
theorem w_5_225 : (Jvm.Cond.methodLink "OddCancelLaw" (234 : Nat) ({ cls := "OddCancel", name := "splitNext", desc := "(IIII)I" } : Jvm.MethodName)) ∈ o_tb := o_tb_of (lw_t5 (List.mem_of_getElem? (i := 225) rfl)) rfl
theorem w_5_226 : (Jvm.Cond.instanceMethod ({ cls := "OddCancel", name := "splitNext", desc := "(IIII)I" } : Jvm.MethodName)) ∈ o_tb := o_tb_of (lw_t5 (List.mem_of_getElem? (i := 226) rfl)) rfl
theorem w_5_227 : (Jvm.Cond.selects "OddCancel" ({ cls := "OddCancel", name := "splitNext", desc := "(IIII)I" } : Jvm.MethodName) ({ cls := "OddCancel", name := "splitNext", desc := "(IIII)I" } : Jvm.MethodName)) ∈ o_tb := o_tb_of (lw_t5 (List.mem_of_getElem? (i := 227) rfl)) rfl
theorem w_5_228 : (Jvm.Cond.code ({ cls := "OddCancel", name := "splitNext", desc := "(IIII)I" } : Jvm.MethodName) prog_1_method_53_code (6 : Nat) (Option.some Jvm.ClassFile.FieldType.int)) ∈ o_tb := o_tb_of (lw_t5 (List.mem_of_getElem? (i := 228) rfl)) rfl
theorem w_5_234 : (Jvm.Cond.methodLink "OddCancelLaw" (238 : Nat) ({ cls := "OddCancel", name := "lawsUsed", desc := "()I" } : Jvm.MethodName)) ∈ o_tb := o_tb_of (lw_t5 (List.mem_of_getElem? (i := 234) rfl)) rfl
theorem w_5_235 : (Jvm.Cond.instanceMethod ({ cls := "OddCancel", name := "lawsUsed", desc := "()I" } : Jvm.MethodName)) ∈ o_tb := o_tb_of (lw_t5 (List.mem_of_getElem? (i := 235) rfl)) rfl
theorem w_5_236 : (Jvm.Cond.selects "OddCancel" ({ cls := "OddCancel", name := "lawsUsed", desc := "()I" } : Jvm.MethodName) ({ cls := "OddCancel", name := "lawsUsed", desc := "()I" } : Jvm.MethodName)) ∈ o_tb := o_tb_of (lw_t5 (List.mem_of_getElem? (i := 236) rfl)) rfl
theorem w_5_237 : (Jvm.Cond.code ({ cls := "OddCancel", name := "lawsUsed", desc := "()I" } : Jvm.MethodName) prog_1_method_54_code (4 : Nat) (Option.some Jvm.ClassFile.FieldType.int)) ∈ o_tb := o_tb_of (lw_t5 (List.mem_of_getElem? (i := 237) rfl)) rfl
theorem w_6_4 : (Jvm.Cond.methodLink "OddCancelLaw" (242 : Nat) ({ cls := "OddCancel", name := "game", desc := "(I)I" } : Jvm.MethodName)) ∈ o_tb := o_tb_of (lw_t6 (List.mem_of_getElem? (i := 4) rfl)) rfl
theorem w_6_5 : (Jvm.Cond.instanceMethod ({ cls := "OddCancel", name := "game", desc := "(I)I" } : Jvm.MethodName)) ∈ o_tb := o_tb_of (lw_t6 (List.mem_of_getElem? (i := 5) rfl)) rfl
theorem w_6_6 : (Jvm.Cond.selects "OddCancel" ({ cls := "OddCancel", name := "game", desc := "(I)I" } : Jvm.MethodName) ({ cls := "OddCancel", name := "game", desc := "(I)I" } : Jvm.MethodName)) ∈ o_tb := o_tb_of (lw_t6 (List.mem_of_getElem? (i := 6) rfl)) rfl
theorem w_6_7 : (Jvm.Cond.code ({ cls := "OddCancel", name := "game", desc := "(I)I" } : Jvm.MethodName) prog_1_method_55_code (2 : Nat) (Option.some Jvm.ClassFile.FieldType.int)) ∈ o_tb := o_tb_of (lw_t6 (List.mem_of_getElem? (i := 7) rfl)) rfl
theorem w_6_33 : (Jvm.Cond.methodLink "OddCancelLaw" (246 : Nat) ({ cls := "OddCancel", name := "gameFirst", desc := "(I)I" } : Jvm.MethodName)) ∈ o_tb := o_tb_of (lw_t6 (List.mem_of_getElem? (i := 33) rfl)) rfl
theorem w_6_34 : (Jvm.Cond.instanceMethod ({ cls := "OddCancel", name := "gameFirst", desc := "(I)I" } : Jvm.MethodName)) ∈ o_tb := o_tb_of (lw_t6 (List.mem_of_getElem? (i := 34) rfl)) rfl
theorem w_6_35 : (Jvm.Cond.selects "OddCancel" ({ cls := "OddCancel", name := "gameFirst", desc := "(I)I" } : Jvm.MethodName) ({ cls := "OddCancel", name := "gameFirst", desc := "(I)I" } : Jvm.MethodName)) ∈ o_tb := o_tb_of (lw_t6 (List.mem_of_getElem? (i := 35) rfl)) rfl
theorem w_6_36 : (Jvm.Cond.code ({ cls := "OddCancel", name := "gameFirst", desc := "(I)I" } : Jvm.MethodName) prog_1_method_56_code (2 : Nat) (Option.some Jvm.ClassFile.FieldType.int)) ∈ o_tb := o_tb_of (lw_t6 (List.mem_of_getElem? (i := 36) rfl)) rfl
theorem w_6_42 : (Jvm.Cond.methodLink "OddCancelLaw" (250 : Nat) ({ cls := "OddCancel", name := "brother", desc := "(I)I" } : Jvm.MethodName)) ∈ o_tb := o_tb_of (lw_t6 (List.mem_of_getElem? (i := 42) rfl)) rfl
theorem w_6_43 : (Jvm.Cond.instanceMethod ({ cls := "OddCancel", name := "brother", desc := "(I)I" } : Jvm.MethodName)) ∈ o_tb := o_tb_of (lw_t6 (List.mem_of_getElem? (i := 43) rfl)) rfl
theorem w_6_44 : (Jvm.Cond.selects "OddCancel" ({ cls := "OddCancel", name := "brother", desc := "(I)I" } : Jvm.MethodName) ({ cls := "OddCancel", name := "brother", desc := "(I)I" } : Jvm.MethodName)) ∈ o_tb := o_tb_of (lw_t6 (List.mem_of_getElem? (i := 44) rfl)) rfl
theorem w_6_45 : (Jvm.Cond.code ({ cls := "OddCancel", name := "brother", desc := "(I)I" } : Jvm.MethodName) prog_1_method_57_code (2 : Nat) (Option.some Jvm.ClassFile.FieldType.int)) ∈ o_tb := o_tb_of (lw_t6 (List.mem_of_getElem? (i := 45) rfl)) rfl
theorem w_6_48 : (Jvm.Cond.methodLink "OddCancelLaw" (254 : Nat) ({ cls := "OddCancel", name := "live", desc := "(I)I" } : Jvm.MethodName)) ∈ o_tb := o_tb_of (lw_t6 (List.mem_of_getElem? (i := 48) rfl)) rfl
theorem w_6_49 : (Jvm.Cond.instanceMethod ({ cls := "OddCancel", name := "live", desc := "(I)I" } : Jvm.MethodName)) ∈ o_tb := o_tb_of (lw_t6 (List.mem_of_getElem? (i := 49) rfl)) rfl
theorem w_6_50 : (Jvm.Cond.selects "OddCancel" ({ cls := "OddCancel", name := "live", desc := "(I)I" } : Jvm.MethodName) ({ cls := "OddCancel", name := "live", desc := "(I)I" } : Jvm.MethodName)) ∈ o_tb := o_tb_of (lw_t6 (List.mem_of_getElem? (i := 50) rfl)) rfl
theorem w_6_51 : (Jvm.Cond.code ({ cls := "OddCancel", name := "live", desc := "(I)I" } : Jvm.MethodName) prog_1_method_58_code (2 : Nat) (Option.some Jvm.ClassFile.FieldType.int)) ∈ o_tb := o_tb_of (lw_t6 (List.mem_of_getElem? (i := 51) rfl)) rfl
theorem w_6_89 : (Jvm.Cond.methodLink "OddCancelLaw" (258 : Nat) ({ cls := "OddCancel", name := "lived", desc := "(I)I" } : Jvm.MethodName)) ∈ o_tb := o_tb_of (lw_t6 (List.mem_of_getElem? (i := 89) rfl)) rfl
theorem w_6_90 : (Jvm.Cond.instanceMethod ({ cls := "OddCancel", name := "lived", desc := "(I)I" } : Jvm.MethodName)) ∈ o_tb := o_tb_of (lw_t6 (List.mem_of_getElem? (i := 90) rfl)) rfl
theorem w_6_91 : (Jvm.Cond.selects "OddCancel" ({ cls := "OddCancel", name := "lived", desc := "(I)I" } : Jvm.MethodName) ({ cls := "OddCancel", name := "lived", desc := "(I)I" } : Jvm.MethodName)) ∈ o_tb := o_tb_of (lw_t6 (List.mem_of_getElem? (i := 91) rfl)) rfl
theorem w_6_92 : (Jvm.Cond.code ({ cls := "OddCancel", name := "lived", desc := "(I)I" } : Jvm.MethodName) prog_1_method_59_code (2 : Nat) (Option.some Jvm.ClassFile.FieldType.int)) ∈ o_tb := o_tb_of (lw_t6 (List.mem_of_getElem? (i := 92) rfl)) rfl
theorem w_6_93 : (Jvm.Cond.methodLink "OddCancelLaw" (262 : Nat) ({ cls := "OddCancel", name := "mean", desc := "(II)Z" } : Jvm.MethodName)) ∈ o_tb := o_tb_of (lw_t6 (List.mem_of_getElem? (i := 93) rfl)) rfl
theorem w_6_94 : (Jvm.Cond.instanceMethod ({ cls := "OddCancel", name := "mean", desc := "(II)Z" } : Jvm.MethodName)) ∈ o_tb := o_tb_of (lw_t6 (List.mem_of_getElem? (i := 94) rfl)) rfl
theorem w_6_95 : (Jvm.Cond.selects "OddCancel" ({ cls := "OddCancel", name := "mean", desc := "(II)Z" } : Jvm.MethodName) ({ cls := "OddCancel", name := "mean", desc := "(II)Z" } : Jvm.MethodName)) ∈ o_tb := o_tb_of (lw_t6 (List.mem_of_getElem? (i := 95) rfl)) rfl
theorem w_6_96 : (Jvm.Cond.code ({ cls := "OddCancel", name := "mean", desc := "(II)Z" } : Jvm.MethodName) prog_1_method_60_code (6 : Nat) (Option.some Jvm.ClassFile.FieldType.boolean)) ∈ o_tb := o_tb_of (lw_t6 (List.mem_of_getElem? (i := 96) rfl)) rfl
theorem w_6_98 : (Jvm.Cond.methodLink "OddCancelLaw" (266 : Nat) ({ cls := "OddCancel", name := "mark", desc := "()I" } : Jvm.MethodName)) ∈ o_tb := o_tb_of (lw_t6 (List.mem_of_getElem? (i := 98) rfl)) rfl
theorem w_6_99 : (Jvm.Cond.instanceMethod ({ cls := "OddCancel", name := "mark", desc := "()I" } : Jvm.MethodName)) ∈ o_tb := o_tb_of (lw_t6 (List.mem_of_getElem? (i := 99) rfl)) rfl
theorem w_6_100 : (Jvm.Cond.selects "OddCancel" ({ cls := "OddCancel", name := "mark", desc := "()I" } : Jvm.MethodName) ({ cls := "OddCancel", name := "mark", desc := "()I" } : Jvm.MethodName)) ∈ o_tb := o_tb_of (lw_t6 (List.mem_of_getElem? (i := 100) rfl)) rfl
theorem w_6_101 : (Jvm.Cond.code ({ cls := "OddCancel", name := "mark", desc := "()I" } : Jvm.MethodName) prog_1_method_61_code (1 : Nat) (Option.some Jvm.ClassFile.FieldType.int)) ∈ o_tb := o_tb_of (lw_t6 (List.mem_of_getElem? (i := 101) rfl)) rfl
theorem w_6_102 : (Jvm.Cond.methodLink "OddCancelLaw" (270 : Nat) ({ cls := "OddCancel", name := "undo", desc := "()I" } : Jvm.MethodName)) ∈ o_tb := o_tb_of (lw_t6 (List.mem_of_getElem? (i := 102) rfl)) rfl
theorem w_6_103 : (Jvm.Cond.instanceMethod ({ cls := "OddCancel", name := "undo", desc := "()I" } : Jvm.MethodName)) ∈ o_tb := o_tb_of (lw_t6 (List.mem_of_getElem? (i := 103) rfl)) rfl
theorem w_6_104 : (Jvm.Cond.selects "OddCancel" ({ cls := "OddCancel", name := "undo", desc := "()I" } : Jvm.MethodName) ({ cls := "OddCancel", name := "undo", desc := "()I" } : Jvm.MethodName)) ∈ o_tb := o_tb_of (lw_t6 (List.mem_of_getElem? (i := 104) rfl)) rfl
theorem w_6_105 : (Jvm.Cond.code ({ cls := "OddCancel", name := "undo", desc := "()I" } : Jvm.MethodName) prog_1_method_62_code (1 : Nat) (Option.some Jvm.ClassFile.FieldType.int)) ∈ o_tb := o_tb_of (lw_t6 (List.mem_of_getElem? (i := 105) rfl)) rfl
theorem w_6_234 : (Jvm.Cond.methodLink "OddCancelLaw" (17 : Nat) ({ cls := "OddCancelModel", name := "status", desc := "()I" } : Jvm.MethodName)) ∈ o_tb := o_tb_of (lw_t6 (List.mem_of_getElem? (i := 234) rfl)) rfl
theorem w_6_235 : (Jvm.Cond.instanceMethod ({ cls := "OddCancelModel", name := "status", desc := "()I" } : Jvm.MethodName)) ∈ o_tb := o_tb_of (lw_t6 (List.mem_of_getElem? (i := 235) rfl)) rfl
theorem w_6_236 : (Jvm.Cond.selects "OddCancelModel" ({ cls := "OddCancelModel", name := "status", desc := "()I" } : Jvm.MethodName) ({ cls := "OddCancelModel", name := "status", desc := "()I" } : Jvm.MethodName)) ∈ o_tb := o_tb_of (lw_t6 (List.mem_of_getElem? (i := 236) rfl)) rfl
theorem w_6_237 : (Jvm.Cond.code ({ cls := "OddCancelModel", name := "status", desc := "()I" } : Jvm.MethodName) prog_14_method_3_code (1 : Nat) (Option.some Jvm.ClassFile.FieldType.int)) ∈ o_tb := o_tb_of (lw_t6 (List.mem_of_getElem? (i := 237) rfl)) rfl
theorem w_6_238 : (Jvm.Cond.methodLink "OddCancelLaw" (22 : Nat) ({ cls := "OddCancelModel", name := "top", desc := "()J" } : Jvm.MethodName)) ∈ o_tb := o_tb_of (lw_t6 (List.mem_of_getElem? (i := 238) rfl)) rfl
theorem w_6_239 : (Jvm.Cond.instanceMethod ({ cls := "OddCancelModel", name := "top", desc := "()J" } : Jvm.MethodName)) ∈ o_tb := o_tb_of (lw_t6 (List.mem_of_getElem? (i := 239) rfl)) rfl
theorem w_7_0 : (Jvm.Cond.selects "OddCancelModel" ({ cls := "OddCancelModel", name := "top", desc := "()J" } : Jvm.MethodName) ({ cls := "OddCancelModel", name := "top", desc := "()J" } : Jvm.MethodName)) ∈ o_tb := o_tb_of (lw_t7 (List.mem_of_getElem? (i := 0) rfl)) rfl
theorem w_7_1 : (Jvm.Cond.code ({ cls := "OddCancelModel", name := "top", desc := "()J" } : Jvm.MethodName) prog_14_method_4_code (1 : Nat) (Option.some Jvm.ClassFile.FieldType.long)) ∈ o_tb := o_tb_of (lw_t7 (List.mem_of_getElem? (i := 1) rfl)) rfl
theorem w_7_2 : (Jvm.Cond.methodLink "OddCancelLaw" (26 : Nat) ({ cls := "OddCancelModel", name := "bottom", desc := "()J" } : Jvm.MethodName)) ∈ o_tb := o_tb_of (lw_t7 (List.mem_of_getElem? (i := 2) rfl)) rfl
theorem w_7_3 : (Jvm.Cond.instanceMethod ({ cls := "OddCancelModel", name := "bottom", desc := "()J" } : Jvm.MethodName)) ∈ o_tb := o_tb_of (lw_t7 (List.mem_of_getElem? (i := 3) rfl)) rfl
theorem w_7_4 : (Jvm.Cond.selects "OddCancelModel" ({ cls := "OddCancelModel", name := "bottom", desc := "()J" } : Jvm.MethodName) ({ cls := "OddCancelModel", name := "bottom", desc := "()J" } : Jvm.MethodName)) ∈ o_tb := o_tb_of (lw_t7 (List.mem_of_getElem? (i := 4) rfl)) rfl
theorem w_7_5 : (Jvm.Cond.code ({ cls := "OddCancelModel", name := "bottom", desc := "()J" } : Jvm.MethodName) prog_14_method_5_code (1 : Nat) (Option.some Jvm.ClassFile.FieldType.long)) ∈ o_tb := o_tb_of (lw_t7 (List.mem_of_getElem? (i := 5) rfl)) rfl
theorem w_7_6 : (Jvm.Cond.methodLink "OddCancelLaw" (31 : Nat) ({ cls := "OddCancelModel", name := "tray", desc := "(III)Z" } : Jvm.MethodName)) ∈ o_tb := o_tb_of (lw_t7 (List.mem_of_getElem? (i := 6) rfl)) rfl
theorem w_7_7 : (Jvm.Cond.instanceMethod ({ cls := "OddCancelModel", name := "tray", desc := "(III)Z" } : Jvm.MethodName)) ∈ o_tb := o_tb_of (lw_t7 (List.mem_of_getElem? (i := 7) rfl)) rfl
theorem w_7_8 : (Jvm.Cond.selects "OddCancelModel" ({ cls := "OddCancelModel", name := "tray", desc := "(III)Z" } : Jvm.MethodName) ({ cls := "OddCancelModel", name := "tray", desc := "(III)Z" } : Jvm.MethodName)) ∈ o_tb := o_tb_of (lw_t7 (List.mem_of_getElem? (i := 8) rfl)) rfl
theorem w_7_9 : (Jvm.Cond.code ({ cls := "OddCancelModel", name := "tray", desc := "(III)Z" } : Jvm.MethodName) prog_14_method_13_code (5 : Nat) (Option.some Jvm.ClassFile.FieldType.boolean)) ∈ o_tb := o_tb_of (lw_t7 (List.mem_of_getElem? (i := 9) rfl)) rfl
theorem w_7_17 : (Jvm.Cond.methodLink "OddCancelLaw" (38 : Nat) ({ cls := "OddCancelModel", name := "write", desc := "(IIJ)Z" } : Jvm.MethodName)) ∈ o_tb := o_tb_of (lw_t7 (List.mem_of_getElem? (i := 17) rfl)) rfl
theorem w_7_18 : (Jvm.Cond.instanceMethod ({ cls := "OddCancelModel", name := "write", desc := "(IIJ)Z" } : Jvm.MethodName)) ∈ o_tb := o_tb_of (lw_t7 (List.mem_of_getElem? (i := 18) rfl)) rfl
theorem w_7_19 : (Jvm.Cond.selects "OddCancelModel" ({ cls := "OddCancelModel", name := "write", desc := "(IIJ)Z" } : Jvm.MethodName) ({ cls := "OddCancelModel", name := "write", desc := "(IIJ)Z" } : Jvm.MethodName)) ∈ o_tb := o_tb_of (lw_t7 (List.mem_of_getElem? (i := 19) rfl)) rfl
theorem w_7_20 : (Jvm.Cond.code ({ cls := "OddCancelModel", name := "write", desc := "(IIJ)Z" } : Jvm.MethodName) prog_14_method_15_code (6 : Nat) (Option.some Jvm.ClassFile.FieldType.boolean)) ∈ o_tb := o_tb_of (lw_t7 (List.mem_of_getElem? (i := 20) rfl)) rfl
theorem w_7_28 : (Jvm.Cond.methodLink "OddCancelLaw" (43 : Nat) ({ cls := "OddCancelModel", name := "read", desc := "(II)J" } : Jvm.MethodName)) ∈ o_tb := o_tb_of (lw_t7 (List.mem_of_getElem? (i := 28) rfl)) rfl
theorem w_7_29 : (Jvm.Cond.instanceMethod ({ cls := "OddCancelModel", name := "read", desc := "(II)J" } : Jvm.MethodName)) ∈ o_tb := o_tb_of (lw_t7 (List.mem_of_getElem? (i := 29) rfl)) rfl
theorem w_7_30 : (Jvm.Cond.selects "OddCancelModel" ({ cls := "OddCancelModel", name := "read", desc := "(II)J" } : Jvm.MethodName) ({ cls := "OddCancelModel", name := "read", desc := "(II)J" } : Jvm.MethodName)) ∈ o_tb := o_tb_of (lw_t7 (List.mem_of_getElem? (i := 30) rfl)) rfl
theorem w_7_31 : (Jvm.Cond.code ({ cls := "OddCancelModel", name := "read", desc := "(II)J" } : Jvm.MethodName) prog_14_method_16_code (3 : Nat) (Option.some Jvm.ClassFile.FieldType.long)) ∈ o_tb := o_tb_of (lw_t7 (List.mem_of_getElem? (i := 31) rfl)) rfl
theorem w_7_33 : (Jvm.Cond.methodLink "OddCancelLaw" (48 : Nat) ({ cls := "OddCancelModel", name := "pour", desc := "(IIIII)Z" } : Jvm.MethodName)) ∈ o_tb := o_tb_of (lw_t7 (List.mem_of_getElem? (i := 33) rfl)) rfl
theorem w_7_34 : (Jvm.Cond.instanceMethod ({ cls := "OddCancelModel", name := "pour", desc := "(IIIII)Z" } : Jvm.MethodName)) ∈ o_tb := o_tb_of (lw_t7 (List.mem_of_getElem? (i := 34) rfl)) rfl
theorem w_7_35 : (Jvm.Cond.selects "OddCancelModel" ({ cls := "OddCancelModel", name := "pour", desc := "(IIIII)Z" } : Jvm.MethodName) ({ cls := "OddCancelModel", name := "pour", desc := "(IIIII)Z" } : Jvm.MethodName)) ∈ o_tb := o_tb_of (lw_t7 (List.mem_of_getElem? (i := 35) rfl)) rfl
theorem w_7_36 : (Jvm.Cond.code ({ cls := "OddCancelModel", name := "pour", desc := "(IIIII)Z" } : Jvm.MethodName) prog_14_method_17_code (8 : Nat) (Option.some Jvm.ClassFile.FieldType.boolean)) ∈ o_tb := o_tb_of (lw_t7 (List.mem_of_getElem? (i := 36) rfl)) rfl
theorem w_7_37 : (Jvm.Cond.methodLink "OddCancelLaw" (53 : Nat) ({ cls := "OddCancelModel", name := "feed", desc := "(IIIII)I" } : Jvm.MethodName)) ∈ o_tb := o_tb_of (lw_t7 (List.mem_of_getElem? (i := 37) rfl)) rfl
theorem w_7_38 : (Jvm.Cond.instanceMethod ({ cls := "OddCancelModel", name := "feed", desc := "(IIIII)I" } : Jvm.MethodName)) ∈ o_tb := o_tb_of (lw_t7 (List.mem_of_getElem? (i := 38) rfl)) rfl
theorem w_7_39 : (Jvm.Cond.selects "OddCancelModel" ({ cls := "OddCancelModel", name := "feed", desc := "(IIIII)I" } : Jvm.MethodName) ({ cls := "OddCancelModel", name := "feed", desc := "(IIIII)I" } : Jvm.MethodName)) ∈ o_tb := o_tb_of (lw_t7 (List.mem_of_getElem? (i := 39) rfl)) rfl
theorem w_7_40 : (Jvm.Cond.code ({ cls := "OddCancelModel", name := "feed", desc := "(IIIII)I" } : Jvm.MethodName) prog_14_method_19_code (6 : Nat) (Option.some Jvm.ClassFile.FieldType.int)) ∈ o_tb := o_tb_of (lw_t7 (List.mem_of_getElem? (i := 40) rfl)) rfl
theorem w_7_45 : (Jvm.Cond.methodLink "OddCancelLaw" (66 : Nat) ({ cls := "OddCancelModel", name := "fault", desc := "(I)I" } : Jvm.MethodName)) ∈ o_tb := o_tb_of (lw_t7 (List.mem_of_getElem? (i := 45) rfl)) rfl
theorem w_7_46 : (Jvm.Cond.instanceMethod ({ cls := "OddCancelModel", name := "fault", desc := "(I)I" } : Jvm.MethodName)) ∈ o_tb := o_tb_of (lw_t7 (List.mem_of_getElem? (i := 46) rfl)) rfl
theorem w_7_47 : (Jvm.Cond.selects "OddCancelModel" ({ cls := "OddCancelModel", name := "fault", desc := "(I)I" } : Jvm.MethodName) ({ cls := "OddCancelModel", name := "fault", desc := "(I)I" } : Jvm.MethodName)) ∈ o_tb := o_tb_of (lw_t7 (List.mem_of_getElem? (i := 47) rfl)) rfl
theorem w_7_48 : (Jvm.Cond.code ({ cls := "OddCancelModel", name := "fault", desc := "(I)I" } : Jvm.MethodName) prog_14_method_35_code (2 : Nat) (Option.some Jvm.ClassFile.FieldType.int)) ∈ o_tb := o_tb_of (lw_t7 (List.mem_of_getElem? (i := 48) rfl)) rfl
theorem w_7_49 : (Jvm.Cond.methodLink "OddCancelLaw" (58 : Nat) ({ cls := "OddCancelModel", name := "valley", desc := "(I)I" } : Jvm.MethodName)) ∈ o_tb := o_tb_of (lw_t7 (List.mem_of_getElem? (i := 49) rfl)) rfl
theorem w_7_50 : (Jvm.Cond.instanceMethod ({ cls := "OddCancelModel", name := "valley", desc := "(I)I" } : Jvm.MethodName)) ∈ o_tb := o_tb_of (lw_t7 (List.mem_of_getElem? (i := 50) rfl)) rfl
theorem w_7_51 : (Jvm.Cond.selects "OddCancelModel" ({ cls := "OddCancelModel", name := "valley", desc := "(I)I" } : Jvm.MethodName) ({ cls := "OddCancelModel", name := "valley", desc := "(I)I" } : Jvm.MethodName)) ∈ o_tb := o_tb_of (lw_t7 (List.mem_of_getElem? (i := 51) rfl)) rfl
theorem w_7_52 : (Jvm.Cond.code ({ cls := "OddCancelModel", name := "valley", desc := "(I)I" } : Jvm.MethodName) prog_14_method_50_code (4 : Nat) (Option.some Jvm.ClassFile.FieldType.int)) ∈ o_tb := o_tb_of (lw_t7 (List.mem_of_getElem? (i := 52) rfl)) rfl
theorem w_7_176 : (Jvm.Cond.methodLink "OddCancelLaw" (62 : Nat) ({ cls := "OddCancelModel", name := "weeks", desc := "(I)I" } : Jvm.MethodName)) ∈ o_tb := o_tb_of (lw_t7 (List.mem_of_getElem? (i := 176) rfl)) rfl
theorem w_7_177 : (Jvm.Cond.instanceMethod ({ cls := "OddCancelModel", name := "weeks", desc := "(I)I" } : Jvm.MethodName)) ∈ o_tb := o_tb_of (lw_t7 (List.mem_of_getElem? (i := 177) rfl)) rfl
theorem w_7_178 : (Jvm.Cond.selects "OddCancelModel" ({ cls := "OddCancelModel", name := "weeks", desc := "(I)I" } : Jvm.MethodName) ({ cls := "OddCancelModel", name := "weeks", desc := "(I)I" } : Jvm.MethodName)) ∈ o_tb := o_tb_of (lw_t7 (List.mem_of_getElem? (i := 178) rfl)) rfl
theorem w_7_179 : (Jvm.Cond.code ({ cls := "OddCancelModel", name := "weeks", desc := "(I)I" } : Jvm.MethodName) prog_14_method_55_code (4 : Nat) (Option.some Jvm.ClassFile.FieldType.int)) ∈ o_tb := o_tb_of (lw_t7 (List.mem_of_getElem? (i := 179) rfl)) rfl
theorem w_7_196 : (Jvm.Cond.methodLink "OddCancelLaw" (70 : Nat) ({ cls := "OddCancelModel", name := "told", desc := "(I)I" } : Jvm.MethodName)) ∈ o_tb := o_tb_of (lw_t7 (List.mem_of_getElem? (i := 196) rfl)) rfl
theorem w_7_197 : (Jvm.Cond.instanceMethod ({ cls := "OddCancelModel", name := "told", desc := "(I)I" } : Jvm.MethodName)) ∈ o_tb := o_tb_of (lw_t7 (List.mem_of_getElem? (i := 197) rfl)) rfl
theorem w_7_198 : (Jvm.Cond.selects "OddCancelModel" ({ cls := "OddCancelModel", name := "told", desc := "(I)I" } : Jvm.MethodName) ({ cls := "OddCancelModel", name := "told", desc := "(I)I" } : Jvm.MethodName)) ∈ o_tb := o_tb_of (lw_t7 (List.mem_of_getElem? (i := 198) rfl)) rfl
theorem w_7_199 : (Jvm.Cond.code ({ cls := "OddCancelModel", name := "told", desc := "(I)I" } : Jvm.MethodName) prog_14_method_71_code (2 : Nat) (Option.some Jvm.ClassFile.FieldType.int)) ∈ o_tb := o_tb_of (lw_t7 (List.mem_of_getElem? (i := 199) rfl)) rfl
theorem w_7_200 : (Jvm.Cond.methodLink "OddCancelLaw" (74 : Nat) ({ cls := "OddCancelModel", name := "worth", desc := "(I)I" } : Jvm.MethodName)) ∈ o_tb := o_tb_of (lw_t7 (List.mem_of_getElem? (i := 200) rfl)) rfl
theorem w_7_201 : (Jvm.Cond.instanceMethod ({ cls := "OddCancelModel", name := "worth", desc := "(I)I" } : Jvm.MethodName)) ∈ o_tb := o_tb_of (lw_t7 (List.mem_of_getElem? (i := 201) rfl)) rfl
theorem w_7_202 : (Jvm.Cond.selects "OddCancelModel" ({ cls := "OddCancelModel", name := "worth", desc := "(I)I" } : Jvm.MethodName) ({ cls := "OddCancelModel", name := "worth", desc := "(I)I" } : Jvm.MethodName)) ∈ o_tb := o_tb_of (lw_t7 (List.mem_of_getElem? (i := 202) rfl)) rfl
theorem w_7_203 : (Jvm.Cond.code ({ cls := "OddCancelModel", name := "worth", desc := "(I)I" } : Jvm.MethodName) prog_14_method_72_code (2 : Nat) (Option.some Jvm.ClassFile.FieldType.int)) ∈ o_tb := o_tb_of (lw_t7 (List.mem_of_getElem? (i := 203) rfl)) rfl
theorem w_7_211 : (Jvm.Cond.methodLink "OddCancelLaw" (78 : Nat) ({ cls := "OddCancelModel", name := "hand", desc := "(I)I" } : Jvm.MethodName)) ∈ o_tb := o_tb_of (lw_t7 (List.mem_of_getElem? (i := 211) rfl)) rfl
theorem w_7_212 : (Jvm.Cond.instanceMethod ({ cls := "OddCancelModel", name := "hand", desc := "(I)I" } : Jvm.MethodName)) ∈ o_tb := o_tb_of (lw_t7 (List.mem_of_getElem? (i := 212) rfl)) rfl
theorem w_7_213 : (Jvm.Cond.selects "OddCancelModel" ({ cls := "OddCancelModel", name := "hand", desc := "(I)I" } : Jvm.MethodName) ({ cls := "OddCancelModel", name := "hand", desc := "(I)I" } : Jvm.MethodName)) ∈ o_tb := o_tb_of (lw_t7 (List.mem_of_getElem? (i := 213) rfl)) rfl
theorem w_7_214 : (Jvm.Cond.code ({ cls := "OddCancelModel", name := "hand", desc := "(I)I" } : Jvm.MethodName) prog_14_method_73_code (2 : Nat) (Option.some Jvm.ClassFile.FieldType.int)) ∈ o_tb := o_tb_of (lw_t7 (List.mem_of_getElem? (i := 214) rfl)) rfl
theorem w_7_223 : (Jvm.Cond.methodLink "OddCancelLaw" (83 : Nat) ({ cls := "OddCancelModel", name := "law", desc := "(II)I" } : Jvm.MethodName)) ∈ o_tb := o_tb_of (lw_t7 (List.mem_of_getElem? (i := 223) rfl)) rfl
theorem w_7_224 : (Jvm.Cond.instanceMethod ({ cls := "OddCancelModel", name := "law", desc := "(II)I" } : Jvm.MethodName)) ∈ o_tb := o_tb_of (lw_t7 (List.mem_of_getElem? (i := 224) rfl)) rfl
theorem w_7_225 : (Jvm.Cond.selects "OddCancelModel" ({ cls := "OddCancelModel", name := "law", desc := "(II)I" } : Jvm.MethodName) ({ cls := "OddCancelModel", name := "law", desc := "(II)I" } : Jvm.MethodName)) ∈ o_tb := o_tb_of (lw_t7 (List.mem_of_getElem? (i := 225) rfl)) rfl
theorem w_7_226 : (Jvm.Cond.code ({ cls := "OddCancelModel", name := "law", desc := "(II)I" } : Jvm.MethodName) prog_14_method_74_code (3 : Nat) (Option.some Jvm.ClassFile.FieldType.int)) ∈ o_tb := o_tb_of (lw_t7 (List.mem_of_getElem? (i := 226) rfl)) rfl
theorem w_7_238 : (Jvm.Cond.methodLink "OddCancelLaw" (88 : Nat) ({ cls := "OddCancelModel", name := "acts", desc := "(III)I" } : Jvm.MethodName)) ∈ o_tb := o_tb_of (lw_t7 (List.mem_of_getElem? (i := 238) rfl)) rfl
theorem w_7_239 : (Jvm.Cond.instanceMethod ({ cls := "OddCancelModel", name := "acts", desc := "(III)I" } : Jvm.MethodName)) ∈ o_tb := o_tb_of (lw_t7 (List.mem_of_getElem? (i := 239) rfl)) rfl
theorem w_8_0 : (Jvm.Cond.selects "OddCancelModel" ({ cls := "OddCancelModel", name := "acts", desc := "(III)I" } : Jvm.MethodName) ({ cls := "OddCancelModel", name := "acts", desc := "(III)I" } : Jvm.MethodName)) ∈ o_tb := o_tb_of (lw_t8 (List.mem_of_getElem? (i := 0) rfl)) rfl
theorem w_8_1 : (Jvm.Cond.code ({ cls := "OddCancelModel", name := "acts", desc := "(III)I" } : Jvm.MethodName) prog_14_method_75_code (5 : Nat) (Option.some Jvm.ClassFile.FieldType.int)) ∈ o_tb := o_tb_of (lw_t8 (List.mem_of_getElem? (i := 1) rfl)) rfl
theorem w_8_5 : (Jvm.Cond.methodLink "OddCancelLaw" (92 : Nat) ({ cls := "OddCancelModel", name := "letter", desc := "(II)I" } : Jvm.MethodName)) ∈ o_tb := o_tb_of (lw_t8 (List.mem_of_getElem? (i := 5) rfl)) rfl
theorem w_8_6 : (Jvm.Cond.instanceMethod ({ cls := "OddCancelModel", name := "letter", desc := "(II)I" } : Jvm.MethodName)) ∈ o_tb := o_tb_of (lw_t8 (List.mem_of_getElem? (i := 6) rfl)) rfl
theorem w_8_7 : (Jvm.Cond.selects "OddCancelModel" ({ cls := "OddCancelModel", name := "letter", desc := "(II)I" } : Jvm.MethodName) ({ cls := "OddCancelModel", name := "letter", desc := "(II)I" } : Jvm.MethodName)) ∈ o_tb := o_tb_of (lw_t8 (List.mem_of_getElem? (i := 7) rfl)) rfl
theorem w_8_8 : (Jvm.Cond.code ({ cls := "OddCancelModel", name := "letter", desc := "(II)I" } : Jvm.MethodName) prog_14_method_76_code (3 : Nat) (Option.some Jvm.ClassFile.FieldType.int)) ∈ o_tb := o_tb_of (lw_t8 (List.mem_of_getElem? (i := 8) rfl)) rfl
theorem w_8_16 : (Jvm.Cond.methodLink "OddCancelLaw" (96 : Nat) ({ cls := "OddCancelModel", name := "cover", desc := "(II)I" } : Jvm.MethodName)) ∈ o_tb := o_tb_of (lw_t8 (List.mem_of_getElem? (i := 16) rfl)) rfl
theorem w_8_17 : (Jvm.Cond.instanceMethod ({ cls := "OddCancelModel", name := "cover", desc := "(II)I" } : Jvm.MethodName)) ∈ o_tb := o_tb_of (lw_t8 (List.mem_of_getElem? (i := 17) rfl)) rfl
theorem w_8_18 : (Jvm.Cond.selects "OddCancelModel" ({ cls := "OddCancelModel", name := "cover", desc := "(II)I" } : Jvm.MethodName) ({ cls := "OddCancelModel", name := "cover", desc := "(II)I" } : Jvm.MethodName)) ∈ o_tb := o_tb_of (lw_t8 (List.mem_of_getElem? (i := 18) rfl)) rfl
theorem w_8_19 : (Jvm.Cond.code ({ cls := "OddCancelModel", name := "cover", desc := "(II)I" } : Jvm.MethodName) prog_14_method_77_code (3 : Nat) (Option.some Jvm.ClassFile.FieldType.int)) ∈ o_tb := o_tb_of (lw_t8 (List.mem_of_getElem? (i := 19) rfl)) rfl
theorem w_8_23 : (Jvm.Cond.methodLink "OddCancelLaw" (100 : Nat) ({ cls := "OddCancelModel", name := "strikes", desc := "(I)I" } : Jvm.MethodName)) ∈ o_tb := o_tb_of (lw_t8 (List.mem_of_getElem? (i := 23) rfl)) rfl
theorem w_8_24 : (Jvm.Cond.instanceMethod ({ cls := "OddCancelModel", name := "strikes", desc := "(I)I" } : Jvm.MethodName)) ∈ o_tb := o_tb_of (lw_t8 (List.mem_of_getElem? (i := 24) rfl)) rfl
theorem w_8_25 : (Jvm.Cond.selects "OddCancelModel" ({ cls := "OddCancelModel", name := "strikes", desc := "(I)I" } : Jvm.MethodName) ({ cls := "OddCancelModel", name := "strikes", desc := "(I)I" } : Jvm.MethodName)) ∈ o_tb := o_tb_of (lw_t8 (List.mem_of_getElem? (i := 25) rfl)) rfl
theorem w_8_26 : (Jvm.Cond.code ({ cls := "OddCancelModel", name := "strikes", desc := "(I)I" } : Jvm.MethodName) prog_14_method_78_code (2 : Nat) (Option.some Jvm.ClassFile.FieldType.int)) ∈ o_tb := o_tb_of (lw_t8 (List.mem_of_getElem? (i := 26) rfl)) rfl
theorem w_8_27 : (Jvm.Cond.methodLink "OddCancelLaw" (105 : Nat) ({ cls := "OddCancelModel", name := "post", desc := "(IIII)I" } : Jvm.MethodName)) ∈ o_tb := o_tb_of (lw_t8 (List.mem_of_getElem? (i := 27) rfl)) rfl
theorem w_8_28 : (Jvm.Cond.instanceMethod ({ cls := "OddCancelModel", name := "post", desc := "(IIII)I" } : Jvm.MethodName)) ∈ o_tb := o_tb_of (lw_t8 (List.mem_of_getElem? (i := 28) rfl)) rfl
theorem w_8_29 : (Jvm.Cond.selects "OddCancelModel" ({ cls := "OddCancelModel", name := "post", desc := "(IIII)I" } : Jvm.MethodName) ({ cls := "OddCancelModel", name := "post", desc := "(IIII)I" } : Jvm.MethodName)) ∈ o_tb := o_tb_of (lw_t8 (List.mem_of_getElem? (i := 29) rfl)) rfl
theorem w_8_30 : (Jvm.Cond.code ({ cls := "OddCancelModel", name := "post", desc := "(IIII)I" } : Jvm.MethodName) prog_14_method_87_code (5 : Nat) (Option.some Jvm.ClassFile.FieldType.int)) ∈ o_tb := o_tb_of (lw_t8 (List.mem_of_getElem? (i := 30) rfl)) rfl
theorem w_8_51 : (Jvm.Cond.methodLink "OddCancelLaw" (109 : Nat) ({ cls := "OddCancelModel", name := "day", desc := "(I)I" } : Jvm.MethodName)) ∈ o_tb := o_tb_of (lw_t8 (List.mem_of_getElem? (i := 51) rfl)) rfl
theorem w_8_52 : (Jvm.Cond.instanceMethod ({ cls := "OddCancelModel", name := "day", desc := "(I)I" } : Jvm.MethodName)) ∈ o_tb := o_tb_of (lw_t8 (List.mem_of_getElem? (i := 52) rfl)) rfl
theorem w_8_53 : (Jvm.Cond.selects "OddCancelModel" ({ cls := "OddCancelModel", name := "day", desc := "(I)I" } : Jvm.MethodName) ({ cls := "OddCancelModel", name := "day", desc := "(I)I" } : Jvm.MethodName)) ∈ o_tb := o_tb_of (lw_t8 (List.mem_of_getElem? (i := 53) rfl)) rfl
theorem w_8_54 : (Jvm.Cond.code ({ cls := "OddCancelModel", name := "day", desc := "(I)I" } : Jvm.MethodName) prog_14_method_91_code (2 : Nat) (Option.some Jvm.ClassFile.FieldType.int)) ∈ o_tb := o_tb_of (lw_t8 (List.mem_of_getElem? (i := 54) rfl)) rfl
theorem w_8_94 : (Jvm.Cond.methodLink "OddCancelLaw" (114 : Nat) ({ cls := "OddCancelModel", name := "drink", desc := "(Z)Z" } : Jvm.MethodName)) ∈ o_tb := o_tb_of (lw_t8 (List.mem_of_getElem? (i := 94) rfl)) rfl
theorem w_8_95 : (Jvm.Cond.instanceMethod ({ cls := "OddCancelModel", name := "drink", desc := "(Z)Z" } : Jvm.MethodName)) ∈ o_tb := o_tb_of (lw_t8 (List.mem_of_getElem? (i := 95) rfl)) rfl
theorem w_8_96 : (Jvm.Cond.selects "OddCancelModel" ({ cls := "OddCancelModel", name := "drink", desc := "(Z)Z" } : Jvm.MethodName) ({ cls := "OddCancelModel", name := "drink", desc := "(Z)Z" } : Jvm.MethodName)) ∈ o_tb := o_tb_of (lw_t8 (List.mem_of_getElem? (i := 96) rfl)) rfl
theorem w_8_97 : (Jvm.Cond.code ({ cls := "OddCancelModel", name := "drink", desc := "(Z)Z" } : Jvm.MethodName) prog_14_method_92_code (2 : Nat) (Option.some Jvm.ClassFile.FieldType.boolean)) ∈ o_tb := o_tb_of (lw_t8 (List.mem_of_getElem? (i := 97) rfl)) rfl
theorem w_8_98 : (Jvm.Cond.methodLink "OddCancelLaw" (118 : Nat) ({ cls := "OddCancelModel", name := "take", desc := "(I)I" } : Jvm.MethodName)) ∈ o_tb := o_tb_of (lw_t8 (List.mem_of_getElem? (i := 98) rfl)) rfl
theorem w_8_99 : (Jvm.Cond.instanceMethod ({ cls := "OddCancelModel", name := "take", desc := "(I)I" } : Jvm.MethodName)) ∈ o_tb := o_tb_of (lw_t8 (List.mem_of_getElem? (i := 99) rfl)) rfl
theorem w_8_100 : (Jvm.Cond.selects "OddCancelModel" ({ cls := "OddCancelModel", name := "take", desc := "(I)I" } : Jvm.MethodName) ({ cls := "OddCancelModel", name := "take", desc := "(I)I" } : Jvm.MethodName)) ∈ o_tb := o_tb_of (lw_t8 (List.mem_of_getElem? (i := 100) rfl)) rfl
theorem w_8_101 : (Jvm.Cond.code ({ cls := "OddCancelModel", name := "take", desc := "(I)I" } : Jvm.MethodName) prog_14_method_93_code (3 : Nat) (Option.some Jvm.ClassFile.FieldType.int)) ∈ o_tb := o_tb_of (lw_t8 (List.mem_of_getElem? (i := 101) rfl)) rfl
theorem w_8_102 : (Jvm.Cond.methodLink "OddCancelLaw" (122 : Nat) ({ cls := "OddCancelModel", name := "wrapped", desc := "(II)I" } : Jvm.MethodName)) ∈ o_tb := o_tb_of (lw_t8 (List.mem_of_getElem? (i := 102) rfl)) rfl
theorem w_8_103 : (Jvm.Cond.instanceMethod ({ cls := "OddCancelModel", name := "wrapped", desc := "(II)I" } : Jvm.MethodName)) ∈ o_tb := o_tb_of (lw_t8 (List.mem_of_getElem? (i := 103) rfl)) rfl
theorem w_8_104 : (Jvm.Cond.selects "OddCancelModel" ({ cls := "OddCancelModel", name := "wrapped", desc := "(II)I" } : Jvm.MethodName) ({ cls := "OddCancelModel", name := "wrapped", desc := "(II)I" } : Jvm.MethodName)) ∈ o_tb := o_tb_of (lw_t8 (List.mem_of_getElem? (i := 104) rfl)) rfl
theorem w_8_105 : (Jvm.Cond.code ({ cls := "OddCancelModel", name := "wrapped", desc := "(II)I" } : Jvm.MethodName) prog_14_method_94_code (4 : Nat) (Option.some Jvm.ClassFile.FieldType.int)) ∈ o_tb := o_tb_of (lw_t8 (List.mem_of_getElem? (i := 105) rfl)) rfl
theorem w_8_107 : (Jvm.Cond.methodLink "OddCancelLaw" (127 : Nat) ({ cls := "OddCancelModel", name := "learn", desc := "(II)Z" } : Jvm.MethodName)) ∈ o_tb := o_tb_of (lw_t8 (List.mem_of_getElem? (i := 107) rfl)) rfl
theorem w_8_108 : (Jvm.Cond.instanceMethod ({ cls := "OddCancelModel", name := "learn", desc := "(II)Z" } : Jvm.MethodName)) ∈ o_tb := o_tb_of (lw_t8 (List.mem_of_getElem? (i := 108) rfl)) rfl
theorem w_8_109 : (Jvm.Cond.selects "OddCancelModel" ({ cls := "OddCancelModel", name := "learn", desc := "(II)Z" } : Jvm.MethodName) ({ cls := "OddCancelModel", name := "learn", desc := "(II)Z" } : Jvm.MethodName)) ∈ o_tb := o_tb_of (lw_t8 (List.mem_of_getElem? (i := 109) rfl)) rfl
theorem w_8_110 : (Jvm.Cond.code ({ cls := "OddCancelModel", name := "learn", desc := "(II)Z" } : Jvm.MethodName) prog_14_method_95_code (3 : Nat) (Option.some Jvm.ClassFile.FieldType.boolean)) ∈ o_tb := o_tb_of (lw_t8 (List.mem_of_getElem? (i := 110) rfl)) rfl
theorem w_8_111 : (Jvm.Cond.methodLink "OddCancelLaw" (132 : Nat) ({ cls := "OddCancelModel", name := "teach", desc := "(IIII)Z" } : Jvm.MethodName)) ∈ o_tb := o_tb_of (lw_t8 (List.mem_of_getElem? (i := 111) rfl)) rfl
theorem w_8_112 : (Jvm.Cond.instanceMethod ({ cls := "OddCancelModel", name := "teach", desc := "(IIII)Z" } : Jvm.MethodName)) ∈ o_tb := o_tb_of (lw_t8 (List.mem_of_getElem? (i := 112) rfl)) rfl
theorem w_8_113 : (Jvm.Cond.selects "OddCancelModel" ({ cls := "OddCancelModel", name := "teach", desc := "(IIII)Z" } : Jvm.MethodName) ({ cls := "OddCancelModel", name := "teach", desc := "(IIII)Z" } : Jvm.MethodName)) ∈ o_tb := o_tb_of (lw_t8 (List.mem_of_getElem? (i := 113) rfl)) rfl
theorem w_8_114 : (Jvm.Cond.code ({ cls := "OddCancelModel", name := "teach", desc := "(IIII)Z" } : Jvm.MethodName) prog_14_method_96_code (5 : Nat) (Option.some Jvm.ClassFile.FieldType.boolean)) ∈ o_tb := o_tb_of (lw_t8 (List.mem_of_getElem? (i := 114) rfl)) rfl
theorem w_8_115 : (Jvm.Cond.methodLink "OddCancelLaw" (136 : Nat) ({ cls := "OddCancelModel", name := "forget", desc := "(II)Z" } : Jvm.MethodName)) ∈ o_tb := o_tb_of (lw_t8 (List.mem_of_getElem? (i := 115) rfl)) rfl
theorem w_8_116 : (Jvm.Cond.instanceMethod ({ cls := "OddCancelModel", name := "forget", desc := "(II)Z" } : Jvm.MethodName)) ∈ o_tb := o_tb_of (lw_t8 (List.mem_of_getElem? (i := 116) rfl)) rfl
theorem w_8_117 : (Jvm.Cond.selects "OddCancelModel" ({ cls := "OddCancelModel", name := "forget", desc := "(II)Z" } : Jvm.MethodName) ({ cls := "OddCancelModel", name := "forget", desc := "(II)Z" } : Jvm.MethodName)) ∈ o_tb := o_tb_of (lw_t8 (List.mem_of_getElem? (i := 117) rfl)) rfl
theorem w_8_118 : (Jvm.Cond.code ({ cls := "OddCancelModel", name := "forget", desc := "(II)Z" } : Jvm.MethodName) prog_14_method_97_code (3 : Nat) (Option.some Jvm.ClassFile.FieldType.boolean)) ∈ o_tb := o_tb_of (lw_t8 (List.mem_of_getElem? (i := 118) rfl)) rfl
theorem w_8_119 : (Jvm.Cond.methodLink "OddCancelLaw" (141 : Nat) ({ cls := "OddCancelModel", name := "sway", desc := "(I)Z" } : Jvm.MethodName)) ∈ o_tb := o_tb_of (lw_t8 (List.mem_of_getElem? (i := 119) rfl)) rfl
theorem w_8_120 : (Jvm.Cond.instanceMethod ({ cls := "OddCancelModel", name := "sway", desc := "(I)Z" } : Jvm.MethodName)) ∈ o_tb := o_tb_of (lw_t8 (List.mem_of_getElem? (i := 120) rfl)) rfl
theorem w_8_121 : (Jvm.Cond.selects "OddCancelModel" ({ cls := "OddCancelModel", name := "sway", desc := "(I)Z" } : Jvm.MethodName) ({ cls := "OddCancelModel", name := "sway", desc := "(I)Z" } : Jvm.MethodName)) ∈ o_tb := o_tb_of (lw_t8 (List.mem_of_getElem? (i := 121) rfl)) rfl
theorem w_8_122 : (Jvm.Cond.code ({ cls := "OddCancelModel", name := "sway", desc := "(I)Z" } : Jvm.MethodName) prog_14_method_98_code (4 : Nat) (Option.some Jvm.ClassFile.FieldType.boolean)) ∈ o_tb := o_tb_of (lw_t8 (List.mem_of_getElem? (i := 122) rfl)) rfl
theorem w_8_123 : (Jvm.Cond.methodLink "OddCancelLaw" (145 : Nat) ({ cls := "OddCancelModel", name := "pub", desc := "(I)Z" } : Jvm.MethodName)) ∈ o_tb := o_tb_of (lw_t8 (List.mem_of_getElem? (i := 123) rfl)) rfl
theorem w_8_124 : (Jvm.Cond.instanceMethod ({ cls := "OddCancelModel", name := "pub", desc := "(I)Z" } : Jvm.MethodName)) ∈ o_tb := o_tb_of (lw_t8 (List.mem_of_getElem? (i := 124) rfl)) rfl
theorem w_8_125 : (Jvm.Cond.selects "OddCancelModel" ({ cls := "OddCancelModel", name := "pub", desc := "(I)Z" } : Jvm.MethodName) ({ cls := "OddCancelModel", name := "pub", desc := "(I)Z" } : Jvm.MethodName)) ∈ o_tb := o_tb_of (lw_t8 (List.mem_of_getElem? (i := 125) rfl)) rfl
theorem w_8_126 : (Jvm.Cond.code ({ cls := "OddCancelModel", name := "pub", desc := "(I)Z" } : Jvm.MethodName) prog_14_method_99_code (2 : Nat) (Option.some Jvm.ClassFile.FieldType.boolean)) ∈ o_tb := o_tb_of (lw_t8 (List.mem_of_getElem? (i := 126) rfl)) rfl
theorem w_8_128 : (Jvm.Cond.methodLink "OddCancelLaw" (149 : Nat) ({ cls := "OddCancelModel", name := "lawOf", desc := "(IIII)I" } : Jvm.MethodName)) ∈ o_tb := o_tb_of (lw_t8 (List.mem_of_getElem? (i := 128) rfl)) rfl
theorem w_8_129 : (Jvm.Cond.instanceMethod ({ cls := "OddCancelModel", name := "lawOf", desc := "(IIII)I" } : Jvm.MethodName)) ∈ o_tb := o_tb_of (lw_t8 (List.mem_of_getElem? (i := 129) rfl)) rfl
theorem w_8_130 : (Jvm.Cond.selects "OddCancelModel" ({ cls := "OddCancelModel", name := "lawOf", desc := "(IIII)I" } : Jvm.MethodName) ({ cls := "OddCancelModel", name := "lawOf", desc := "(IIII)I" } : Jvm.MethodName)) ∈ o_tb := o_tb_of (lw_t8 (List.mem_of_getElem? (i := 130) rfl)) rfl
theorem w_8_131 : (Jvm.Cond.code ({ cls := "OddCancelModel", name := "lawOf", desc := "(IIII)I" } : Jvm.MethodName) prog_14_method_100_code (5 : Nat) (Option.some Jvm.ClassFile.FieldType.int)) ∈ o_tb := o_tb_of (lw_t8 (List.mem_of_getElem? (i := 131) rfl)) rfl
theorem w_8_132 : (Jvm.Cond.methodLink "OddCancelLaw" (153 : Nat) ({ cls := "OddCancelModel", name := "strikeOf", desc := "(IIII)I" } : Jvm.MethodName)) ∈ o_tb := o_tb_of (lw_t8 (List.mem_of_getElem? (i := 132) rfl)) rfl
theorem w_8_133 : (Jvm.Cond.instanceMethod ({ cls := "OddCancelModel", name := "strikeOf", desc := "(IIII)I" } : Jvm.MethodName)) ∈ o_tb := o_tb_of (lw_t8 (List.mem_of_getElem? (i := 133) rfl)) rfl
theorem w_8_134 : (Jvm.Cond.selects "OddCancelModel" ({ cls := "OddCancelModel", name := "strikeOf", desc := "(IIII)I" } : Jvm.MethodName) ({ cls := "OddCancelModel", name := "strikeOf", desc := "(IIII)I" } : Jvm.MethodName)) ∈ o_tb := o_tb_of (lw_t8 (List.mem_of_getElem? (i := 134) rfl)) rfl
theorem w_8_135 : (Jvm.Cond.code ({ cls := "OddCancelModel", name := "strikeOf", desc := "(IIII)I" } : Jvm.MethodName) prog_14_method_101_code (5 : Nat) (Option.some Jvm.ClassFile.FieldType.int)) ∈ o_tb := o_tb_of (lw_t8 (List.mem_of_getElem? (i := 135) rfl)) rfl
theorem w_8_136 : (Jvm.Cond.methodLink "OddCancelLaw" (157 : Nat) ({ cls := "OddCancelModel", name := "struckNow", desc := "(IIII)I" } : Jvm.MethodName)) ∈ o_tb := o_tb_of (lw_t8 (List.mem_of_getElem? (i := 136) rfl)) rfl
theorem w_8_137 : (Jvm.Cond.instanceMethod ({ cls := "OddCancelModel", name := "struckNow", desc := "(IIII)I" } : Jvm.MethodName)) ∈ o_tb := o_tb_of (lw_t8 (List.mem_of_getElem? (i := 137) rfl)) rfl
theorem w_8_138 : (Jvm.Cond.selects "OddCancelModel" ({ cls := "OddCancelModel", name := "struckNow", desc := "(IIII)I" } : Jvm.MethodName) ({ cls := "OddCancelModel", name := "struckNow", desc := "(IIII)I" } : Jvm.MethodName)) ∈ o_tb := o_tb_of (lw_t8 (List.mem_of_getElem? (i := 138) rfl)) rfl
theorem w_8_139 : (Jvm.Cond.code ({ cls := "OddCancelModel", name := "struckNow", desc := "(IIII)I" } : Jvm.MethodName) prog_14_method_102_code (5 : Nat) (Option.some Jvm.ClassFile.FieldType.int)) ∈ o_tb := o_tb_of (lw_t8 (List.mem_of_getElem? (i := 139) rfl)) rfl
theorem w_8_140 : (Jvm.Cond.methodLink "OddCancelLaw" (161 : Nat) ({ cls := "OddCancelModel", name := "lawsOf", desc := "(IIII)I" } : Jvm.MethodName)) ∈ o_tb := o_tb_of (lw_t8 (List.mem_of_getElem? (i := 140) rfl)) rfl
theorem w_8_141 : (Jvm.Cond.instanceMethod ({ cls := "OddCancelModel", name := "lawsOf", desc := "(IIII)I" } : Jvm.MethodName)) ∈ o_tb := o_tb_of (lw_t8 (List.mem_of_getElem? (i := 141) rfl)) rfl
theorem w_8_142 : (Jvm.Cond.selects "OddCancelModel" ({ cls := "OddCancelModel", name := "lawsOf", desc := "(IIII)I" } : Jvm.MethodName) ({ cls := "OddCancelModel", name := "lawsOf", desc := "(IIII)I" } : Jvm.MethodName)) ∈ o_tb := o_tb_of (lw_t8 (List.mem_of_getElem? (i := 142) rfl)) rfl
theorem w_8_143 : (Jvm.Cond.code ({ cls := "OddCancelModel", name := "lawsOf", desc := "(IIII)I" } : Jvm.MethodName) prog_14_method_103_code (7 : Nat) (Option.some Jvm.ClassFile.FieldType.int)) ∈ o_tb := o_tb_of (lw_t8 (List.mem_of_getElem? (i := 143) rfl)) rfl
theorem w_8_144 : (Jvm.Cond.methodLink "OddCancelLaw" (165 : Nat) ({ cls := "OddCancelModel", name := "sure", desc := "(IIIII)Z" } : Jvm.MethodName)) ∈ o_tb := o_tb_of (lw_t8 (List.mem_of_getElem? (i := 144) rfl)) rfl
theorem w_8_145 : (Jvm.Cond.instanceMethod ({ cls := "OddCancelModel", name := "sure", desc := "(IIIII)Z" } : Jvm.MethodName)) ∈ o_tb := o_tb_of (lw_t8 (List.mem_of_getElem? (i := 145) rfl)) rfl
theorem w_8_146 : (Jvm.Cond.selects "OddCancelModel" ({ cls := "OddCancelModel", name := "sure", desc := "(IIIII)Z" } : Jvm.MethodName) ({ cls := "OddCancelModel", name := "sure", desc := "(IIIII)Z" } : Jvm.MethodName)) ∈ o_tb := o_tb_of (lw_t8 (List.mem_of_getElem? (i := 146) rfl)) rfl
theorem w_8_147 : (Jvm.Cond.code ({ cls := "OddCancelModel", name := "sure", desc := "(IIIII)Z" } : Jvm.MethodName) prog_14_method_104_code (7 : Nat) (Option.some Jvm.ClassFile.FieldType.boolean)) ∈ o_tb := o_tb_of (lw_t8 (List.mem_of_getElem? (i := 147) rfl)) rfl
theorem w_8_152 : (Jvm.Cond.methodLink "OddCancelLaw" (169 : Nat) ({ cls := "OddCancelModel", name := "wrap", desc := "(IIIII)I" } : Jvm.MethodName)) ∈ o_tb := o_tb_of (lw_t8 (List.mem_of_getElem? (i := 152) rfl)) rfl
theorem w_8_153 : (Jvm.Cond.instanceMethod ({ cls := "OddCancelModel", name := "wrap", desc := "(IIIII)I" } : Jvm.MethodName)) ∈ o_tb := o_tb_of (lw_t8 (List.mem_of_getElem? (i := 153) rfl)) rfl
theorem w_8_154 : (Jvm.Cond.selects "OddCancelModel" ({ cls := "OddCancelModel", name := "wrap", desc := "(IIIII)I" } : Jvm.MethodName) ({ cls := "OddCancelModel", name := "wrap", desc := "(IIIII)I" } : Jvm.MethodName)) ∈ o_tb := o_tb_of (lw_t8 (List.mem_of_getElem? (i := 154) rfl)) rfl
theorem w_8_155 : (Jvm.Cond.code ({ cls := "OddCancelModel", name := "wrap", desc := "(IIIII)I" } : Jvm.MethodName) prog_14_method_105_code (7 : Nat) (Option.some Jvm.ClassFile.FieldType.int)) ∈ o_tb := o_tb_of (lw_t8 (List.mem_of_getElem? (i := 155) rfl)) rfl
theorem w_8_156 : (Jvm.Cond.methodLink "OddCancelLaw" (173 : Nat) ({ cls := "OddCancelModel", name := "weights", desc := "(IIII)I" } : Jvm.MethodName)) ∈ o_tb := o_tb_of (lw_t8 (List.mem_of_getElem? (i := 156) rfl)) rfl
theorem w_8_157 : (Jvm.Cond.instanceMethod ({ cls := "OddCancelModel", name := "weights", desc := "(IIII)I" } : Jvm.MethodName)) ∈ o_tb := o_tb_of (lw_t8 (List.mem_of_getElem? (i := 157) rfl)) rfl
theorem w_8_158 : (Jvm.Cond.selects "OddCancelModel" ({ cls := "OddCancelModel", name := "weights", desc := "(IIII)I" } : Jvm.MethodName) ({ cls := "OddCancelModel", name := "weights", desc := "(IIII)I" } : Jvm.MethodName)) ∈ o_tb := o_tb_of (lw_t8 (List.mem_of_getElem? (i := 158) rfl)) rfl
theorem w_8_159 : (Jvm.Cond.code ({ cls := "OddCancelModel", name := "weights", desc := "(IIII)I" } : Jvm.MethodName) prog_14_method_107_code (7 : Nat) (Option.some Jvm.ClassFile.FieldType.int)) ∈ o_tb := o_tb_of (lw_t8 (List.mem_of_getElem? (i := 159) rfl)) rfl
theorem w_8_164 : (Jvm.Cond.methodLink "OddCancelLaw" (177 : Nat) ({ cls := "OddCancelModel", name := "weightAt", desc := "(IIIII)I" } : Jvm.MethodName)) ∈ o_tb := o_tb_of (lw_t8 (List.mem_of_getElem? (i := 164) rfl)) rfl
theorem w_8_165 : (Jvm.Cond.instanceMethod ({ cls := "OddCancelModel", name := "weightAt", desc := "(IIIII)I" } : Jvm.MethodName)) ∈ o_tb := o_tb_of (lw_t8 (List.mem_of_getElem? (i := 165) rfl)) rfl
theorem w_8_166 : (Jvm.Cond.selects "OddCancelModel" ({ cls := "OddCancelModel", name := "weightAt", desc := "(IIIII)I" } : Jvm.MethodName) ({ cls := "OddCancelModel", name := "weightAt", desc := "(IIIII)I" } : Jvm.MethodName)) ∈ o_tb := o_tb_of (lw_t8 (List.mem_of_getElem? (i := 166) rfl)) rfl
theorem w_8_167 : (Jvm.Cond.code ({ cls := "OddCancelModel", name := "weightAt", desc := "(IIIII)I" } : Jvm.MethodName) prog_14_method_108_code (8 : Nat) (Option.some Jvm.ClassFile.FieldType.int)) ∈ o_tb := o_tb_of (lw_t8 (List.mem_of_getElem? (i := 167) rfl)) rfl
theorem w_8_168 : (Jvm.Cond.methodLink "OddCancelLaw" (181 : Nat) ({ cls := "OddCancelModel", name := "could", desc := "(III)I" } : Jvm.MethodName)) ∈ o_tb := o_tb_of (lw_t8 (List.mem_of_getElem? (i := 168) rfl)) rfl
theorem w_8_169 : (Jvm.Cond.instanceMethod ({ cls := "OddCancelModel", name := "could", desc := "(III)I" } : Jvm.MethodName)) ∈ o_tb := o_tb_of (lw_t8 (List.mem_of_getElem? (i := 169) rfl)) rfl
theorem w_8_170 : (Jvm.Cond.selects "OddCancelModel" ({ cls := "OddCancelModel", name := "could", desc := "(III)I" } : Jvm.MethodName) ({ cls := "OddCancelModel", name := "could", desc := "(III)I" } : Jvm.MethodName)) ∈ o_tb := o_tb_of (lw_t8 (List.mem_of_getElem? (i := 170) rfl)) rfl
theorem w_8_171 : (Jvm.Cond.code ({ cls := "OddCancelModel", name := "could", desc := "(III)I" } : Jvm.MethodName) prog_14_method_109_code (7 : Nat) (Option.some Jvm.ClassFile.FieldType.int)) ∈ o_tb := o_tb_of (lw_t8 (List.mem_of_getElem? (i := 171) rfl)) rfl
theorem w_8_172 : (Jvm.Cond.methodLink "OddCancelLaw" (185 : Nat) ({ cls := "OddCancelModel", name := "idle", desc := "()I" } : Jvm.MethodName)) ∈ o_tb := o_tb_of (lw_t8 (List.mem_of_getElem? (i := 172) rfl)) rfl
theorem w_8_173 : (Jvm.Cond.instanceMethod ({ cls := "OddCancelModel", name := "idle", desc := "()I" } : Jvm.MethodName)) ∈ o_tb := o_tb_of (lw_t8 (List.mem_of_getElem? (i := 173) rfl)) rfl
theorem w_8_174 : (Jvm.Cond.selects "OddCancelModel" ({ cls := "OddCancelModel", name := "idle", desc := "()I" } : Jvm.MethodName) ({ cls := "OddCancelModel", name := "idle", desc := "()I" } : Jvm.MethodName)) ∈ o_tb := o_tb_of (lw_t8 (List.mem_of_getElem? (i := 174) rfl)) rfl
theorem w_8_175 : (Jvm.Cond.code ({ cls := "OddCancelModel", name := "idle", desc := "()I" } : Jvm.MethodName) prog_14_method_110_code (7 : Nat) (Option.some Jvm.ClassFile.FieldType.int)) ∈ o_tb := o_tb_of (lw_t8 (List.mem_of_getElem? (i := 175) rfl)) rfl
theorem w_8_176 : (Jvm.Cond.methodLink "OddCancelLaw" (189 : Nat) ({ cls := "OddCancelModel", name := "via", desc := "(IIII)I" } : Jvm.MethodName)) ∈ o_tb := o_tb_of (lw_t8 (List.mem_of_getElem? (i := 176) rfl)) rfl
theorem w_8_177 : (Jvm.Cond.instanceMethod ({ cls := "OddCancelModel", name := "via", desc := "(IIII)I" } : Jvm.MethodName)) ∈ o_tb := o_tb_of (lw_t8 (List.mem_of_getElem? (i := 177) rfl)) rfl
theorem w_8_178 : (Jvm.Cond.selects "OddCancelModel" ({ cls := "OddCancelModel", name := "via", desc := "(IIII)I" } : Jvm.MethodName) ({ cls := "OddCancelModel", name := "via", desc := "(IIII)I" } : Jvm.MethodName)) ∈ o_tb := o_tb_of (lw_t8 (List.mem_of_getElem? (i := 178) rfl)) rfl
theorem w_8_179 : (Jvm.Cond.code ({ cls := "OddCancelModel", name := "via", desc := "(IIII)I" } : Jvm.MethodName) prog_14_method_114_code (5 : Nat) (Option.some Jvm.ClassFile.FieldType.int)) ∈ o_tb := o_tb_of (lw_t8 (List.mem_of_getElem? (i := 179) rfl)) rfl
theorem w_8_193 : (Jvm.Cond.methodLink "OddCancelLaw" (193 : Nat) ({ cls := "OddCancelModel", name := "viaFirst", desc := "(IIII)I" } : Jvm.MethodName)) ∈ o_tb := o_tb_of (lw_t8 (List.mem_of_getElem? (i := 193) rfl)) rfl
theorem w_8_194 : (Jvm.Cond.instanceMethod ({ cls := "OddCancelModel", name := "viaFirst", desc := "(IIII)I" } : Jvm.MethodName)) ∈ o_tb := o_tb_of (lw_t8 (List.mem_of_getElem? (i := 194) rfl)) rfl
theorem w_8_195 : (Jvm.Cond.selects "OddCancelModel" ({ cls := "OddCancelModel", name := "viaFirst", desc := "(IIII)I" } : Jvm.MethodName) ({ cls := "OddCancelModel", name := "viaFirst", desc := "(IIII)I" } : Jvm.MethodName)) ∈ o_tb := o_tb_of (lw_t8 (List.mem_of_getElem? (i := 195) rfl)) rfl
theorem w_8_196 : (Jvm.Cond.code ({ cls := "OddCancelModel", name := "viaFirst", desc := "(IIII)I" } : Jvm.MethodName) prog_14_method_115_code (6 : Nat) (Option.some Jvm.ClassFile.FieldType.int)) ∈ o_tb := o_tb_of (lw_t8 (List.mem_of_getElem? (i := 196) rfl)) rfl
theorem w_8_197 : (Jvm.Cond.methodLink "OddCancelLaw" (197 : Nat) ({ cls := "OddCancelModel", name := "echo", desc := "(II)I" } : Jvm.MethodName)) ∈ o_tb := o_tb_of (lw_t8 (List.mem_of_getElem? (i := 197) rfl)) rfl
theorem w_8_198 : (Jvm.Cond.instanceMethod ({ cls := "OddCancelModel", name := "echo", desc := "(II)I" } : Jvm.MethodName)) ∈ o_tb := o_tb_of (lw_t8 (List.mem_of_getElem? (i := 198) rfl)) rfl
theorem w_8_199 : (Jvm.Cond.selects "OddCancelModel" ({ cls := "OddCancelModel", name := "echo", desc := "(II)I" } : Jvm.MethodName) ({ cls := "OddCancelModel", name := "echo", desc := "(II)I" } : Jvm.MethodName)) ∈ o_tb := o_tb_of (lw_t8 (List.mem_of_getElem? (i := 199) rfl)) rfl
theorem w_8_200 : (Jvm.Cond.code ({ cls := "OddCancelModel", name := "echo", desc := "(II)I" } : Jvm.MethodName) prog_14_method_120_code (4 : Nat) (Option.some Jvm.ClassFile.FieldType.int)) ∈ o_tb := o_tb_of (lw_t8 (List.mem_of_getElem? (i := 200) rfl)) rfl
theorem w_8_213 : (Jvm.Cond.methodLink "OddCancelLaw" (201 : Nat) ({ cls := "OddCancelModel", name := "round", desc := "(II)I" } : Jvm.MethodName)) ∈ o_tb := o_tb_of (lw_t8 (List.mem_of_getElem? (i := 213) rfl)) rfl
theorem w_8_214 : (Jvm.Cond.instanceMethod ({ cls := "OddCancelModel", name := "round", desc := "(II)I" } : Jvm.MethodName)) ∈ o_tb := o_tb_of (lw_t8 (List.mem_of_getElem? (i := 214) rfl)) rfl
theorem w_8_215 : (Jvm.Cond.selects "OddCancelModel" ({ cls := "OddCancelModel", name := "round", desc := "(II)I" } : Jvm.MethodName) ({ cls := "OddCancelModel", name := "round", desc := "(II)I" } : Jvm.MethodName)) ∈ o_tb := o_tb_of (lw_t8 (List.mem_of_getElem? (i := 215) rfl)) rfl
theorem w_8_216 : (Jvm.Cond.code ({ cls := "OddCancelModel", name := "round", desc := "(II)I" } : Jvm.MethodName) prog_14_method_121_code (3 : Nat) (Option.some Jvm.ClassFile.FieldType.int)) ∈ o_tb := o_tb_of (lw_t8 (List.mem_of_getElem? (i := 216) rfl)) rfl
theorem w_8_221 : (Jvm.Cond.methodLink "OddCancelLaw" (205 : Nat) ({ cls := "OddCancelModel", name := "rings", desc := "()I" } : Jvm.MethodName)) ∈ o_tb := o_tb_of (lw_t8 (List.mem_of_getElem? (i := 221) rfl)) rfl
theorem w_8_222 : (Jvm.Cond.instanceMethod ({ cls := "OddCancelModel", name := "rings", desc := "()I" } : Jvm.MethodName)) ∈ o_tb := o_tb_of (lw_t8 (List.mem_of_getElem? (i := 222) rfl)) rfl
theorem w_8_223 : (Jvm.Cond.selects "OddCancelModel" ({ cls := "OddCancelModel", name := "rings", desc := "()I" } : Jvm.MethodName) ({ cls := "OddCancelModel", name := "rings", desc := "()I" } : Jvm.MethodName)) ∈ o_tb := o_tb_of (lw_t8 (List.mem_of_getElem? (i := 223) rfl)) rfl
theorem w_8_224 : (Jvm.Cond.code ({ cls := "OddCancelModel", name := "rings", desc := "()I" } : Jvm.MethodName) prog_14_method_123_code (3 : Nat) (Option.some Jvm.ClassFile.FieldType.int)) ∈ o_tb := o_tb_of (lw_t8 (List.mem_of_getElem? (i := 224) rfl)) rfl
theorem w_8_229 : (Jvm.Cond.methodLink "OddCancelLaw" (209 : Nat) ({ cls := "OddCancelModel", name := "longest", desc := "()I" } : Jvm.MethodName)) ∈ o_tb := o_tb_of (lw_t8 (List.mem_of_getElem? (i := 229) rfl)) rfl
theorem w_8_230 : (Jvm.Cond.instanceMethod ({ cls := "OddCancelModel", name := "longest", desc := "()I" } : Jvm.MethodName)) ∈ o_tb := o_tb_of (lw_t8 (List.mem_of_getElem? (i := 230) rfl)) rfl
theorem w_8_231 : (Jvm.Cond.selects "OddCancelModel" ({ cls := "OddCancelModel", name := "longest", desc := "()I" } : Jvm.MethodName) ({ cls := "OddCancelModel", name := "longest", desc := "()I" } : Jvm.MethodName)) ∈ o_tb := o_tb_of (lw_t8 (List.mem_of_getElem? (i := 231) rfl)) rfl
theorem w_8_232 : (Jvm.Cond.code ({ cls := "OddCancelModel", name := "longest", desc := "()I" } : Jvm.MethodName) prog_14_method_124_code (4 : Nat) (Option.some Jvm.ClassFile.FieldType.int)) ∈ o_tb := o_tb_of (lw_t8 (List.mem_of_getElem? (i := 232) rfl)) rfl
theorem w_8_233 : (Jvm.Cond.methodLink "OddCancelLaw" (213 : Nat) ({ cls := "OddCancelModel", name := "reads", desc := "(II)J" } : Jvm.MethodName)) ∈ o_tb := o_tb_of (lw_t8 (List.mem_of_getElem? (i := 233) rfl)) rfl
theorem w_8_234 : (Jvm.Cond.instanceMethod ({ cls := "OddCancelModel", name := "reads", desc := "(II)J" } : Jvm.MethodName)) ∈ o_tb := o_tb_of (lw_t8 (List.mem_of_getElem? (i := 234) rfl)) rfl
theorem w_8_235 : (Jvm.Cond.selects "OddCancelModel" ({ cls := "OddCancelModel", name := "reads", desc := "(II)J" } : Jvm.MethodName) ({ cls := "OddCancelModel", name := "reads", desc := "(II)J" } : Jvm.MethodName)) ∈ o_tb := o_tb_of (lw_t8 (List.mem_of_getElem? (i := 235) rfl)) rfl
theorem w_8_236 : (Jvm.Cond.code ({ cls := "OddCancelModel", name := "reads", desc := "(II)J" } : Jvm.MethodName) prog_14_method_127_code (6 : Nat) (Option.some Jvm.ClassFile.FieldType.long)) ∈ o_tb := o_tb_of (lw_t8 (List.mem_of_getElem? (i := 236) rfl)) rfl
theorem w_9_6 : (Jvm.Cond.methodLink "OddCancelLaw" (217 : Nat) ({ cls := "OddCancelModel", name := "isJust", desc := "(II)I" } : Jvm.MethodName)) ∈ o_tb := o_tb_of (lw_t9 (List.mem_of_getElem? (i := 6) rfl)) rfl
theorem w_9_7 : (Jvm.Cond.instanceMethod ({ cls := "OddCancelModel", name := "isJust", desc := "(II)I" } : Jvm.MethodName)) ∈ o_tb := o_tb_of (lw_t9 (List.mem_of_getElem? (i := 7) rfl)) rfl
theorem w_9_8 : (Jvm.Cond.selects "OddCancelModel" ({ cls := "OddCancelModel", name := "isJust", desc := "(II)I" } : Jvm.MethodName) ({ cls := "OddCancelModel", name := "isJust", desc := "(II)I" } : Jvm.MethodName)) ∈ o_tb := o_tb_of (lw_t9 (List.mem_of_getElem? (i := 8) rfl)) rfl
theorem w_9_9 : (Jvm.Cond.code ({ cls := "OddCancelModel", name := "isJust", desc := "(II)I" } : Jvm.MethodName) prog_14_method_128_code (6 : Nat) (Option.some Jvm.ClassFile.FieldType.int)) ∈ o_tb := o_tb_of (lw_t9 (List.mem_of_getElem? (i := 9) rfl)) rfl
theorem w_9_10 : (Jvm.Cond.methodLink "OddCancelLaw" (221 : Nat) ({ cls := "OddCancelModel", name := "copyDay", desc := "(I)I" } : Jvm.MethodName)) ∈ o_tb := o_tb_of (lw_t9 (List.mem_of_getElem? (i := 10) rfl)) rfl
theorem w_9_11 : (Jvm.Cond.instanceMethod ({ cls := "OddCancelModel", name := "copyDay", desc := "(I)I" } : Jvm.MethodName)) ∈ o_tb := o_tb_of (lw_t9 (List.mem_of_getElem? (i := 11) rfl)) rfl
theorem w_9_12 : (Jvm.Cond.selects "OddCancelModel" ({ cls := "OddCancelModel", name := "copyDay", desc := "(I)I" } : Jvm.MethodName) ({ cls := "OddCancelModel", name := "copyDay", desc := "(I)I" } : Jvm.MethodName)) ∈ o_tb := o_tb_of (lw_t9 (List.mem_of_getElem? (i := 12) rfl)) rfl
theorem w_9_13 : (Jvm.Cond.code ({ cls := "OddCancelModel", name := "copyDay", desc := "(I)I" } : Jvm.MethodName) prog_14_method_129_code (3 : Nat) (Option.some Jvm.ClassFile.FieldType.int)) ∈ o_tb := o_tb_of (lw_t9 (List.mem_of_getElem? (i := 13) rfl)) rfl
theorem w_9_14 : (Jvm.Cond.methodLink "OddCancelLaw" (225 : Nat) ({ cls := "OddCancelModel", name := "spells", desc := "(II)I" } : Jvm.MethodName)) ∈ o_tb := o_tb_of (lw_t9 (List.mem_of_getElem? (i := 14) rfl)) rfl
theorem w_9_15 : (Jvm.Cond.instanceMethod ({ cls := "OddCancelModel", name := "spells", desc := "(II)I" } : Jvm.MethodName)) ∈ o_tb := o_tb_of (lw_t9 (List.mem_of_getElem? (i := 15) rfl)) rfl
theorem w_9_16 : (Jvm.Cond.selects "OddCancelModel" ({ cls := "OddCancelModel", name := "spells", desc := "(II)I" } : Jvm.MethodName) ({ cls := "OddCancelModel", name := "spells", desc := "(II)I" } : Jvm.MethodName)) ∈ o_tb := o_tb_of (lw_t9 (List.mem_of_getElem? (i := 16) rfl)) rfl
theorem w_9_17 : (Jvm.Cond.code ({ cls := "OddCancelModel", name := "spells", desc := "(II)I" } : Jvm.MethodName) prog_14_method_132_code (4 : Nat) (Option.some Jvm.ClassFile.FieldType.int)) ∈ o_tb := o_tb_of (lw_t9 (List.mem_of_getElem? (i := 17) rfl)) rfl
theorem w_9_26 : (Jvm.Cond.methodLink "OddCancelLaw" (229 : Nat) ({ cls := "OddCancelModel", name := "spellAt", desc := "(IIII)I" } : Jvm.MethodName)) ∈ o_tb := o_tb_of (lw_t9 (List.mem_of_getElem? (i := 26) rfl)) rfl
theorem w_9_27 : (Jvm.Cond.instanceMethod ({ cls := "OddCancelModel", name := "spellAt", desc := "(IIII)I" } : Jvm.MethodName)) ∈ o_tb := o_tb_of (lw_t9 (List.mem_of_getElem? (i := 27) rfl)) rfl
theorem w_9_28 : (Jvm.Cond.selects "OddCancelModel" ({ cls := "OddCancelModel", name := "spellAt", desc := "(IIII)I" } : Jvm.MethodName) ({ cls := "OddCancelModel", name := "spellAt", desc := "(IIII)I" } : Jvm.MethodName)) ∈ o_tb := o_tb_of (lw_t9 (List.mem_of_getElem? (i := 28) rfl)) rfl
theorem w_9_29 : (Jvm.Cond.code ({ cls := "OddCancelModel", name := "spellAt", desc := "(IIII)I" } : Jvm.MethodName) prog_14_method_133_code (6 : Nat) (Option.some Jvm.ClassFile.FieldType.int)) ∈ o_tb := o_tb_of (lw_t9 (List.mem_of_getElem? (i := 29) rfl)) rfl
theorem w_9_31 : (Jvm.Cond.methodLink "OddCancelLaw" (233 : Nat) ({ cls := "OddCancelModel", name := "split", desc := "(IIII)I" } : Jvm.MethodName)) ∈ o_tb := o_tb_of (lw_t9 (List.mem_of_getElem? (i := 31) rfl)) rfl
theorem w_9_32 : (Jvm.Cond.instanceMethod ({ cls := "OddCancelModel", name := "split", desc := "(IIII)I" } : Jvm.MethodName)) ∈ o_tb := o_tb_of (lw_t9 (List.mem_of_getElem? (i := 32) rfl)) rfl
theorem w_9_33 : (Jvm.Cond.selects "OddCancelModel" ({ cls := "OddCancelModel", name := "split", desc := "(IIII)I" } : Jvm.MethodName) ({ cls := "OddCancelModel", name := "split", desc := "(IIII)I" } : Jvm.MethodName)) ∈ o_tb := o_tb_of (lw_t9 (List.mem_of_getElem? (i := 33) rfl)) rfl
theorem w_9_34 : (Jvm.Cond.code ({ cls := "OddCancelModel", name := "split", desc := "(IIII)I" } : Jvm.MethodName) prog_14_method_137_code (6 : Nat) (Option.some Jvm.ClassFile.FieldType.int)) ∈ o_tb := o_tb_of (lw_t9 (List.mem_of_getElem? (i := 34) rfl)) rfl
theorem w_9_48 : (Jvm.Cond.methodLink "OddCancelLaw" (237 : Nat) ({ cls := "OddCancelModel", name := "splitNext", desc := "(IIII)I" } : Jvm.MethodName)) ∈ o_tb := o_tb_of (lw_t9 (List.mem_of_getElem? (i := 48) rfl)) rfl
theorem w_9_49 : (Jvm.Cond.instanceMethod ({ cls := "OddCancelModel", name := "splitNext", desc := "(IIII)I" } : Jvm.MethodName)) ∈ o_tb := o_tb_of (lw_t9 (List.mem_of_getElem? (i := 49) rfl)) rfl
theorem w_9_50 : (Jvm.Cond.selects "OddCancelModel" ({ cls := "OddCancelModel", name := "splitNext", desc := "(IIII)I" } : Jvm.MethodName) ({ cls := "OddCancelModel", name := "splitNext", desc := "(IIII)I" } : Jvm.MethodName)) ∈ o_tb := o_tb_of (lw_t9 (List.mem_of_getElem? (i := 50) rfl)) rfl
theorem w_9_51 : (Jvm.Cond.code ({ cls := "OddCancelModel", name := "splitNext", desc := "(IIII)I" } : Jvm.MethodName) prog_14_method_138_code (10 : Nat) (Option.some Jvm.ClassFile.FieldType.int)) ∈ o_tb := o_tb_of (lw_t9 (List.mem_of_getElem? (i := 51) rfl)) rfl
theorem w_9_53 : (Jvm.Cond.methodLink "OddCancelLaw" (241 : Nat) ({ cls := "OddCancelModel", name := "lawsUsed", desc := "()I" } : Jvm.MethodName)) ∈ o_tb := o_tb_of (lw_t9 (List.mem_of_getElem? (i := 53) rfl)) rfl
theorem w_9_54 : (Jvm.Cond.instanceMethod ({ cls := "OddCancelModel", name := "lawsUsed", desc := "()I" } : Jvm.MethodName)) ∈ o_tb := o_tb_of (lw_t9 (List.mem_of_getElem? (i := 54) rfl)) rfl
theorem w_9_55 : (Jvm.Cond.selects "OddCancelModel" ({ cls := "OddCancelModel", name := "lawsUsed", desc := "()I" } : Jvm.MethodName) ({ cls := "OddCancelModel", name := "lawsUsed", desc := "()I" } : Jvm.MethodName)) ∈ o_tb := o_tb_of (lw_t9 (List.mem_of_getElem? (i := 55) rfl)) rfl
theorem w_9_56 : (Jvm.Cond.code ({ cls := "OddCancelModel", name := "lawsUsed", desc := "()I" } : Jvm.MethodName) prog_14_method_139_code (5 : Nat) (Option.some Jvm.ClassFile.FieldType.int)) ∈ o_tb := o_tb_of (lw_t9 (List.mem_of_getElem? (i := 56) rfl)) rfl
theorem w_9_60 : (Jvm.Cond.methodLink "OddCancelLaw" (245 : Nat) ({ cls := "OddCancelModel", name := "game", desc := "(I)I" } : Jvm.MethodName)) ∈ o_tb := o_tb_of (lw_t9 (List.mem_of_getElem? (i := 60) rfl)) rfl
theorem w_9_61 : (Jvm.Cond.instanceMethod ({ cls := "OddCancelModel", name := "game", desc := "(I)I" } : Jvm.MethodName)) ∈ o_tb := o_tb_of (lw_t9 (List.mem_of_getElem? (i := 61) rfl)) rfl
theorem w_9_62 : (Jvm.Cond.selects "OddCancelModel" ({ cls := "OddCancelModel", name := "game", desc := "(I)I" } : Jvm.MethodName) ({ cls := "OddCancelModel", name := "game", desc := "(I)I" } : Jvm.MethodName)) ∈ o_tb := o_tb_of (lw_t9 (List.mem_of_getElem? (i := 62) rfl)) rfl
theorem w_9_63 : (Jvm.Cond.code ({ cls := "OddCancelModel", name := "game", desc := "(I)I" } : Jvm.MethodName) prog_14_method_145_code (2 : Nat) (Option.some Jvm.ClassFile.FieldType.int)) ∈ o_tb := o_tb_of (lw_t9 (List.mem_of_getElem? (i := 63) rfl)) rfl
theorem w_9_87 : (Jvm.Cond.methodLink "OddCancelLaw" (249 : Nat) ({ cls := "OddCancelModel", name := "gameFirst", desc := "(I)I" } : Jvm.MethodName)) ∈ o_tb := o_tb_of (lw_t9 (List.mem_of_getElem? (i := 87) rfl)) rfl
theorem w_9_88 : (Jvm.Cond.instanceMethod ({ cls := "OddCancelModel", name := "gameFirst", desc := "(I)I" } : Jvm.MethodName)) ∈ o_tb := o_tb_of (lw_t9 (List.mem_of_getElem? (i := 88) rfl)) rfl
theorem w_9_89 : (Jvm.Cond.selects "OddCancelModel" ({ cls := "OddCancelModel", name := "gameFirst", desc := "(I)I" } : Jvm.MethodName) ({ cls := "OddCancelModel", name := "gameFirst", desc := "(I)I" } : Jvm.MethodName)) ∈ o_tb := o_tb_of (lw_t9 (List.mem_of_getElem? (i := 89) rfl)) rfl
theorem w_9_90 : (Jvm.Cond.code ({ cls := "OddCancelModel", name := "gameFirst", desc := "(I)I" } : Jvm.MethodName) prog_14_method_146_code (2 : Nat) (Option.some Jvm.ClassFile.FieldType.int)) ∈ o_tb := o_tb_of (lw_t9 (List.mem_of_getElem? (i := 90) rfl)) rfl
theorem w_9_91 : (Jvm.Cond.methodLink "OddCancelLaw" (253 : Nat) ({ cls := "OddCancelModel", name := "brother", desc := "(I)I" } : Jvm.MethodName)) ∈ o_tb := o_tb_of (lw_t9 (List.mem_of_getElem? (i := 91) rfl)) rfl
theorem w_9_92 : (Jvm.Cond.instanceMethod ({ cls := "OddCancelModel", name := "brother", desc := "(I)I" } : Jvm.MethodName)) ∈ o_tb := o_tb_of (lw_t9 (List.mem_of_getElem? (i := 92) rfl)) rfl
theorem w_9_93 : (Jvm.Cond.selects "OddCancelModel" ({ cls := "OddCancelModel", name := "brother", desc := "(I)I" } : Jvm.MethodName) ({ cls := "OddCancelModel", name := "brother", desc := "(I)I" } : Jvm.MethodName)) ∈ o_tb := o_tb_of (lw_t9 (List.mem_of_getElem? (i := 93) rfl)) rfl
theorem w_9_94 : (Jvm.Cond.code ({ cls := "OddCancelModel", name := "brother", desc := "(I)I" } : Jvm.MethodName) prog_14_method_147_code (3 : Nat) (Option.some Jvm.ClassFile.FieldType.int)) ∈ o_tb := o_tb_of (lw_t9 (List.mem_of_getElem? (i := 94) rfl)) rfl
theorem w_9_95 : (Jvm.Cond.methodLink "OddCancelLaw" (257 : Nat) ({ cls := "OddCancelModel", name := "live", desc := "(I)I" } : Jvm.MethodName)) ∈ o_tb := o_tb_of (lw_t9 (List.mem_of_getElem? (i := 95) rfl)) rfl
theorem w_9_96 : (Jvm.Cond.instanceMethod ({ cls := "OddCancelModel", name := "live", desc := "(I)I" } : Jvm.MethodName)) ∈ o_tb := o_tb_of (lw_t9 (List.mem_of_getElem? (i := 96) rfl)) rfl
theorem w_9_97 : (Jvm.Cond.selects "OddCancelModel" ({ cls := "OddCancelModel", name := "live", desc := "(I)I" } : Jvm.MethodName) ({ cls := "OddCancelModel", name := "live", desc := "(I)I" } : Jvm.MethodName)) ∈ o_tb := o_tb_of (lw_t9 (List.mem_of_getElem? (i := 97) rfl)) rfl
theorem w_9_98 : (Jvm.Cond.code ({ cls := "OddCancelModel", name := "live", desc := "(I)I" } : Jvm.MethodName) prog_14_method_157_code (3 : Nat) (Option.some Jvm.ClassFile.FieldType.int)) ∈ o_tb := o_tb_of (lw_t9 (List.mem_of_getElem? (i := 98) rfl)) rfl
theorem w_9_137 : (Jvm.Cond.methodLink "OddCancelLaw" (261 : Nat) ({ cls := "OddCancelModel", name := "lived", desc := "(I)I" } : Jvm.MethodName)) ∈ o_tb := o_tb_of (lw_t9 (List.mem_of_getElem? (i := 137) rfl)) rfl
theorem w_9_138 : (Jvm.Cond.instanceMethod ({ cls := "OddCancelModel", name := "lived", desc := "(I)I" } : Jvm.MethodName)) ∈ o_tb := o_tb_of (lw_t9 (List.mem_of_getElem? (i := 138) rfl)) rfl
theorem w_9_139 : (Jvm.Cond.selects "OddCancelModel" ({ cls := "OddCancelModel", name := "lived", desc := "(I)I" } : Jvm.MethodName) ({ cls := "OddCancelModel", name := "lived", desc := "(I)I" } : Jvm.MethodName)) ∈ o_tb := o_tb_of (lw_t9 (List.mem_of_getElem? (i := 139) rfl)) rfl
theorem w_9_140 : (Jvm.Cond.code ({ cls := "OddCancelModel", name := "lived", desc := "(I)I" } : Jvm.MethodName) prog_14_method_158_code (2 : Nat) (Option.some Jvm.ClassFile.FieldType.int)) ∈ o_tb := o_tb_of (lw_t9 (List.mem_of_getElem? (i := 140) rfl)) rfl
theorem w_9_141 : (Jvm.Cond.methodLink "OddCancelLaw" (265 : Nat) ({ cls := "OddCancelModel", name := "mean", desc := "(II)Z" } : Jvm.MethodName)) ∈ o_tb := o_tb_of (lw_t9 (List.mem_of_getElem? (i := 141) rfl)) rfl
theorem w_9_142 : (Jvm.Cond.instanceMethod ({ cls := "OddCancelModel", name := "mean", desc := "(II)Z" } : Jvm.MethodName)) ∈ o_tb := o_tb_of (lw_t9 (List.mem_of_getElem? (i := 142) rfl)) rfl
theorem w_9_143 : (Jvm.Cond.selects "OddCancelModel" ({ cls := "OddCancelModel", name := "mean", desc := "(II)Z" } : Jvm.MethodName) ({ cls := "OddCancelModel", name := "mean", desc := "(II)Z" } : Jvm.MethodName)) ∈ o_tb := o_tb_of (lw_t9 (List.mem_of_getElem? (i := 143) rfl)) rfl
theorem w_9_144 : (Jvm.Cond.code ({ cls := "OddCancelModel", name := "mean", desc := "(II)Z" } : Jvm.MethodName) prog_14_method_159_code (7 : Nat) (Option.some Jvm.ClassFile.FieldType.boolean)) ∈ o_tb := o_tb_of (lw_t9 (List.mem_of_getElem? (i := 144) rfl)) rfl
theorem w_9_146 : (Jvm.Cond.methodLink "OddCancelLaw" (269 : Nat) ({ cls := "OddCancelModel", name := "mark", desc := "()I" } : Jvm.MethodName)) ∈ o_tb := o_tb_of (lw_t9 (List.mem_of_getElem? (i := 146) rfl)) rfl
theorem w_9_147 : (Jvm.Cond.instanceMethod ({ cls := "OddCancelModel", name := "mark", desc := "()I" } : Jvm.MethodName)) ∈ o_tb := o_tb_of (lw_t9 (List.mem_of_getElem? (i := 147) rfl)) rfl
theorem w_9_148 : (Jvm.Cond.selects "OddCancelModel" ({ cls := "OddCancelModel", name := "mark", desc := "()I" } : Jvm.MethodName) ({ cls := "OddCancelModel", name := "mark", desc := "()I" } : Jvm.MethodName)) ∈ o_tb := o_tb_of (lw_t9 (List.mem_of_getElem? (i := 148) rfl)) rfl
theorem w_9_149 : (Jvm.Cond.code ({ cls := "OddCancelModel", name := "mark", desc := "()I" } : Jvm.MethodName) prog_14_method_161_code (1 : Nat) (Option.some Jvm.ClassFile.FieldType.int)) ∈ o_tb := o_tb_of (lw_t9 (List.mem_of_getElem? (i := 149) rfl)) rfl
theorem w_9_154 : (Jvm.Cond.methodLink "OddCancelLaw" (273 : Nat) ({ cls := "OddCancelModel", name := "undo", desc := "()I" } : Jvm.MethodName)) ∈ o_tb := o_tb_of (lw_t9 (List.mem_of_getElem? (i := 154) rfl)) rfl
theorem w_9_155 : (Jvm.Cond.instanceMethod ({ cls := "OddCancelModel", name := "undo", desc := "()I" } : Jvm.MethodName)) ∈ o_tb := o_tb_of (lw_t9 (List.mem_of_getElem? (i := 155) rfl)) rfl
theorem w_9_156 : (Jvm.Cond.selects "OddCancelModel" ({ cls := "OddCancelModel", name := "undo", desc := "()I" } : Jvm.MethodName) ({ cls := "OddCancelModel", name := "undo", desc := "()I" } : Jvm.MethodName)) ∈ o_tb := o_tb_of (lw_t9 (List.mem_of_getElem? (i := 156) rfl)) rfl
theorem w_9_157 : (Jvm.Cond.code ({ cls := "OddCancelModel", name := "undo", desc := "()I" } : Jvm.MethodName) prog_14_method_162_code (1 : Nat) (Option.some Jvm.ClassFile.FieldType.int)) ∈ o_tb := o_tb_of (lw_t9 (List.mem_of_getElem? (i := 157) rfl)) rfl
theorem w_9_158 : (Jvm.Cond.constantLong "OddCancelLaw" (32 : Nat) (4294967295 : Int64)) ∈ o_tb := o_tb_of (lw_t9 (List.mem_of_getElem? (i := 158) rfl)) rfl
theorem cbX11_status : o_CB mX11_status 0 := ⟨w_3_17, w_1_1, ⟨by decide, by decide, by decide +kernel⟩, rfl, Nat.le_of_ble_eq_true rfl⟩
theorem clL_13 : o_CV R_law 13 11 mX11_status 0 := ⟨cbX11_status, w_3_14, w_3_15, w_3_16, TX11, _, rfl⟩
theorem cbX12_status : o_CB mX12_status 0 := ⟨w_6_237, w_1_13, ⟨by decide, by decide, by decide +kernel⟩, rfl, Nat.le_of_ble_eq_true rfl⟩
theorem clL_17 : o_CV R_law 17 12 mX12_status 0 := ⟨cbX12_status, w_6_234, w_6_235, w_6_236, TX12, _, rfl⟩
theorem cbX11_top : o_CB mX11_top 0 := ⟨w_3_21, w_1_1, ⟨by decide, by decide, by decide +kernel⟩, rfl, Nat.le_of_ble_eq_true rfl⟩
theorem clL_18 : o_CV R_law 18 11 mX11_top 0 := ⟨cbX11_top, w_3_18, w_3_19, w_3_20, TX11, _, rfl⟩
theorem cbX12_top : o_CB mX12_top 0 := ⟨w_7_1, w_1_13, ⟨by decide, by decide, by decide +kernel⟩, rfl, Nat.le_of_ble_eq_true rfl⟩
theorem clL_22 : o_CV R_law 22 12 mX12_top 0 := ⟨cbX12_top, w_6_238, w_6_239, w_7_0, TX12, _, rfl⟩
theorem cbX11_bottom : o_CB mX11_bottom 0 := ⟨w_3_25, w_1_1, ⟨by decide, by decide, by decide +kernel⟩, rfl, Nat.le_of_ble_eq_true rfl⟩
theorem clL_23 : o_CV R_law 23 11 mX11_bottom 0 := ⟨cbX11_bottom, w_3_22, w_3_23, w_3_24, TX11, _, rfl⟩
theorem cbX12_bottom : o_CB mX12_bottom 0 := ⟨w_7_5, w_1_13, ⟨by decide, by decide, by decide +kernel⟩, rfl, Nat.le_of_ble_eq_true rfl⟩
theorem clL_26 : o_CV R_law 26 12 mX12_bottom 0 := ⟨cbX12_bottom, w_7_2, w_7_3, w_7_4, TX12, _, rfl⟩
theorem cbX11_tray : o_CB mX11_tray 3 := ⟨w_3_29, w_1_1, ⟨by decide, by decide, by decide +kernel⟩, rfl, Nat.le_of_ble_eq_true rfl⟩
theorem clL_27 : o_CV R_law 27 11 mX11_tray 3 := ⟨cbX11_tray, w_3_26, w_3_27, w_3_28, TX11, _, rfl⟩
theorem cbX12_tray : o_CB mX12_tray 3 := ⟨w_7_9, w_1_13, ⟨by decide, by decide, by decide +kernel⟩, rfl, Nat.le_of_ble_eq_true rfl⟩
theorem clL_31 : o_CV R_law 31 12 mX12_tray 3 := ⟨cbX12_tray, w_7_6, w_7_7, w_7_8, TX12, _, rfl⟩
theorem cbX11_write : o_CB mX11_write 3 := ⟨w_3_52, w_1_1, ⟨by decide, by decide, by decide +kernel⟩, rfl, Nat.le_of_ble_eq_true rfl⟩
theorem clL_34 : o_CV R_law 34 11 mX11_write 3 := ⟨cbX11_write, w_3_49, w_3_50, w_3_51, TX11, _, rfl⟩
theorem cbX12_write : o_CB mX12_write 3 := ⟨w_7_20, w_1_13, ⟨by decide, by decide, by decide +kernel⟩, rfl, Nat.le_of_ble_eq_true rfl⟩
theorem clL_38 : o_CV R_law 38 12 mX12_write 3 := ⟨cbX12_write, w_7_17, w_7_18, w_7_19, TX12, _, rfl⟩
theorem cbX11_read : o_CB mX11_read 2 := ⟨w_3_68, w_1_1, ⟨by decide, by decide, by decide +kernel⟩, rfl, Nat.le_of_ble_eq_true rfl⟩
theorem clL_39 : o_CV R_law 39 11 mX11_read 2 := ⟨cbX11_read, w_3_65, w_3_66, w_3_67, TX11, _, rfl⟩
theorem cbX12_read : o_CB mX12_read 2 := ⟨w_7_31, w_1_13, ⟨by decide, by decide, by decide +kernel⟩, rfl, Nat.le_of_ble_eq_true rfl⟩
theorem clL_43 : o_CV R_law 43 12 mX12_read 2 := ⟨cbX12_read, w_7_28, w_7_29, w_7_30, TX12, _, rfl⟩
theorem cbX11_pour : o_CB mX11_pour 5 := ⟨w_3_76, w_1_1, ⟨by decide, by decide, by decide +kernel⟩, rfl, Nat.le_of_ble_eq_true rfl⟩
theorem clL_44 : o_CV R_law 44 11 mX11_pour 5 := ⟨cbX11_pour, w_3_73, w_3_74, w_3_75, TX11, _, rfl⟩
theorem cbX12_pour : o_CB mX12_pour 5 := ⟨w_7_36, w_1_13, ⟨by decide, by decide, by decide +kernel⟩, rfl, Nat.le_of_ble_eq_true rfl⟩
theorem clL_48 : o_CV R_law 48 12 mX12_pour 5 := ⟨cbX12_pour, w_7_33, w_7_34, w_7_35, TX12, _, rfl⟩
theorem cbX11_feed : o_CB mX11_feed 5 := ⟨w_3_83, w_1_1, ⟨by decide, by decide, by decide +kernel⟩, rfl, Nat.le_of_ble_eq_true rfl⟩
theorem clL_49 : o_CV R_law 49 11 mX11_feed 5 := ⟨cbX11_feed, w_3_80, w_3_81, w_3_82, TX11, _, rfl⟩
theorem cbX12_feed : o_CB mX12_feed 5 := ⟨w_7_40, w_1_13, ⟨by decide, by decide, by decide +kernel⟩, rfl, Nat.le_of_ble_eq_true rfl⟩
theorem clL_53 : o_CV R_law 53 12 mX12_feed 5 := ⟨cbX12_feed, w_7_37, w_7_38, w_7_39, TX12, _, rfl⟩
theorem cbX11_valley : o_CB mX11_valley 1 := ⟨w_3_95, w_1_1, ⟨by decide, by decide, by decide +kernel⟩, rfl, Nat.le_of_ble_eq_true rfl⟩
theorem clL_54 : o_CV R_law 54 11 mX11_valley 1 := ⟨cbX11_valley, w_3_92, w_3_93, w_3_94, TX11, _, rfl⟩
theorem cbX12_valley : o_CB mX12_valley 1 := ⟨w_7_52, w_1_13, ⟨by decide, by decide, by decide +kernel⟩, rfl, Nat.le_of_ble_eq_true rfl⟩
theorem clL_58 : o_CV R_law 58 12 mX12_valley 1 := ⟨cbX12_valley, w_7_49, w_7_50, w_7_51, TX12, _, rfl⟩
theorem cbX11_weeks : o_CB mX11_weeks 1 := ⟨w_4_54, w_1_1, ⟨by decide, by decide, by decide +kernel⟩, rfl, Nat.le_of_ble_eq_true rfl⟩
theorem clL_59 : o_CV R_law 59 11 mX11_weeks 1 := ⟨cbX11_weeks, w_4_51, w_4_52, w_4_53, TX11, _, rfl⟩
theorem cbX12_weeks : o_CB mX12_weeks 1 := ⟨w_7_179, w_1_13, ⟨by decide, by decide, by decide +kernel⟩, rfl, Nat.le_of_ble_eq_true rfl⟩
theorem clL_62 : o_CV R_law 62 12 mX12_weeks 1 := ⟨cbX12_weeks, w_7_176, w_7_177, w_7_178, TX12, _, rfl⟩
theorem cbX11_fault : o_CB mX11_fault 1 := ⟨w_4_105, w_1_1, ⟨by decide, by decide, by decide +kernel⟩, rfl, Nat.le_of_ble_eq_true rfl⟩
theorem clL_63 : o_CV R_law 63 11 mX11_fault 1 := ⟨cbX11_fault, w_4_102, w_4_103, w_4_104, TX11, _, rfl⟩
theorem cbX12_fault : o_CB mX12_fault 1 := ⟨w_7_48, w_1_13, ⟨by decide, by decide, by decide +kernel⟩, rfl, Nat.le_of_ble_eq_true rfl⟩
theorem clL_66 : o_CV R_law 66 12 mX12_fault 1 := ⟨cbX12_fault, w_7_45, w_7_46, w_7_47, TX12, _, rfl⟩
theorem cbX11_told : o_CB mX11_told 1 := ⟨w_4_109, w_1_1, ⟨by decide, by decide, by decide +kernel⟩, rfl, Nat.le_of_ble_eq_true rfl⟩
theorem clL_67 : o_CV R_law 67 11 mX11_told 1 := ⟨cbX11_told, w_4_106, w_4_107, w_4_108, TX11, _, rfl⟩
theorem cbX12_told : o_CB mX12_told 1 := ⟨w_7_199, w_1_13, ⟨by decide, by decide, by decide +kernel⟩, rfl, Nat.le_of_ble_eq_true rfl⟩
theorem clL_70 : o_CV R_law 70 12 mX12_told 1 := ⟨cbX12_told, w_7_196, w_7_197, w_7_198, TX12, _, rfl⟩
theorem cbX11_worth : o_CB mX11_worth 1 := ⟨w_4_117, w_1_1, ⟨by decide, by decide, by decide +kernel⟩, rfl, Nat.le_of_ble_eq_true rfl⟩
theorem clL_71 : o_CV R_law 71 11 mX11_worth 1 := ⟨cbX11_worth, w_4_114, w_4_115, w_4_116, TX11, _, rfl⟩
theorem cbX12_worth : o_CB mX12_worth 1 := ⟨w_7_203, w_1_13, ⟨by decide, by decide, by decide +kernel⟩, rfl, Nat.le_of_ble_eq_true rfl⟩
theorem clL_74 : o_CV R_law 74 12 mX12_worth 1 := ⟨cbX12_worth, w_7_200, w_7_201, w_7_202, TX12, _, rfl⟩
theorem cbX11_hand : o_CB mX11_hand 1 := ⟨w_4_125, w_1_1, ⟨by decide, by decide, by decide +kernel⟩, rfl, Nat.le_of_ble_eq_true rfl⟩
theorem clL_75 : o_CV R_law 75 11 mX11_hand 1 := ⟨cbX11_hand, w_4_122, w_4_123, w_4_124, TX11, _, rfl⟩
theorem cbX12_hand : o_CB mX12_hand 1 := ⟨w_7_214, w_1_13, ⟨by decide, by decide, by decide +kernel⟩, rfl, Nat.le_of_ble_eq_true rfl⟩
theorem clL_78 : o_CV R_law 78 12 mX12_hand 1 := ⟨cbX12_hand, w_7_211, w_7_212, w_7_213, TX12, _, rfl⟩
theorem cbX11_law : o_CB mX11_law 2 := ⟨w_4_133, w_1_1, ⟨by decide, by decide, by decide +kernel⟩, rfl, Nat.le_of_ble_eq_true rfl⟩
theorem clL_79 : o_CV R_law 79 11 mX11_law 2 := ⟨cbX11_law, w_4_130, w_4_131, w_4_132, TX11, _, rfl⟩
theorem cbX12_law : o_CB mX12_law 2 := ⟨w_7_226, w_1_13, ⟨by decide, by decide, by decide +kernel⟩, rfl, Nat.le_of_ble_eq_true rfl⟩
theorem clL_83 : o_CV R_law 83 12 mX12_law 2 := ⟨cbX12_law, w_7_223, w_7_224, w_7_225, TX12, _, rfl⟩
theorem cbX11_acts : o_CB mX11_acts 3 := ⟨w_4_142, w_1_1, ⟨by decide, by decide, by decide +kernel⟩, rfl, Nat.le_of_ble_eq_true rfl⟩
theorem clL_84 : o_CV R_law 84 11 mX11_acts 3 := ⟨cbX11_acts, w_4_139, w_4_140, w_4_141, TX11, _, rfl⟩
theorem cbX12_acts : o_CB mX12_acts 3 := ⟨w_8_1, w_1_13, ⟨by decide, by decide, by decide +kernel⟩, rfl, Nat.le_of_ble_eq_true rfl⟩
theorem clL_88 : o_CV R_law 88 12 mX12_acts 3 := ⟨cbX12_acts, w_7_238, w_7_239, w_8_0, TX12, _, rfl⟩
theorem cbX11_letter : o_CB mX11_letter 2 := ⟨w_4_152, w_1_1, ⟨by decide, by decide, by decide +kernel⟩, rfl, Nat.le_of_ble_eq_true rfl⟩
theorem clL_89 : o_CV R_law 89 11 mX11_letter 2 := ⟨cbX11_letter, w_4_149, w_4_150, w_4_151, TX11, _, rfl⟩
theorem cbX12_letter : o_CB mX12_letter 2 := ⟨w_8_8, w_1_13, ⟨by decide, by decide, by decide +kernel⟩, rfl, Nat.le_of_ble_eq_true rfl⟩
theorem clL_92 : o_CV R_law 92 12 mX12_letter 2 := ⟨cbX12_letter, w_8_5, w_8_6, w_8_7, TX12, _, rfl⟩
theorem cbX11_cover : o_CB mX11_cover 2 := ⟨w_4_160, w_1_1, ⟨by decide, by decide, by decide +kernel⟩, rfl, Nat.le_of_ble_eq_true rfl⟩
theorem clL_93 : o_CV R_law 93 11 mX11_cover 2 := ⟨cbX11_cover, w_4_157, w_4_158, w_4_159, TX11, _, rfl⟩
theorem cbX12_cover : o_CB mX12_cover 2 := ⟨w_8_19, w_1_13, ⟨by decide, by decide, by decide +kernel⟩, rfl, Nat.le_of_ble_eq_true rfl⟩
theorem clL_96 : o_CV R_law 96 12 mX12_cover 2 := ⟨cbX12_cover, w_8_16, w_8_17, w_8_18, TX12, _, rfl⟩
theorem cbX11_strikes : o_CB mX11_strikes 1 := ⟨w_4_165, w_1_1, ⟨by decide, by decide, by decide +kernel⟩, rfl, Nat.le_of_ble_eq_true rfl⟩
theorem clL_97 : o_CV R_law 97 11 mX11_strikes 1 := ⟨cbX11_strikes, w_4_162, w_4_163, w_4_164, TX11, _, rfl⟩
theorem cbX12_strikes : o_CB mX12_strikes 1 := ⟨w_8_26, w_1_13, ⟨by decide, by decide, by decide +kernel⟩, rfl, Nat.le_of_ble_eq_true rfl⟩
theorem clL_100 : o_CV R_law 100 12 mX12_strikes 1 := ⟨cbX12_strikes, w_8_23, w_8_24, w_8_25, TX12, _, rfl⟩
theorem cbX11_post : o_CB mX11_post 4 := ⟨w_4_169, w_1_1, ⟨by decide, by decide, by decide +kernel⟩, rfl, Nat.le_of_ble_eq_true rfl⟩
theorem clL_101 : o_CV R_law 101 11 mX11_post 4 := ⟨cbX11_post, w_4_166, w_4_167, w_4_168, TX11, _, rfl⟩
theorem cbX12_post : o_CB mX12_post 4 := ⟨w_8_30, w_1_13, ⟨by decide, by decide, by decide +kernel⟩, rfl, Nat.le_of_ble_eq_true rfl⟩
theorem clL_105 : o_CV R_law 105 12 mX12_post 4 := ⟨cbX12_post, w_8_27, w_8_28, w_8_29, TX12, _, rfl⟩
theorem cbX11_day : o_CB mX11_day 1 := ⟨w_4_185, w_1_1, ⟨by decide, by decide, by decide +kernel⟩, rfl, Nat.le_of_ble_eq_true rfl⟩
theorem clL_106 : o_CV R_law 106 11 mX11_day 1 := ⟨cbX11_day, w_4_182, w_4_183, w_4_184, TX11, _, rfl⟩
theorem cbX12_day : o_CB mX12_day 1 := ⟨w_8_54, w_1_13, ⟨by decide, by decide, by decide +kernel⟩, rfl, Nat.le_of_ble_eq_true rfl⟩
theorem clL_109 : o_CV R_law 109 12 mX12_day 1 := ⟨cbX12_day, w_8_51, w_8_52, w_8_53, TX12, _, rfl⟩
theorem cbX11_drink : o_CB mX11_drink 1 := ⟨w_4_231, w_1_1, ⟨by decide, by decide, by decide +kernel⟩, rfl, Nat.le_of_ble_eq_true rfl⟩
theorem clL_110 : o_CV R_law 110 11 mX11_drink 1 := ⟨cbX11_drink, w_4_228, w_4_229, w_4_230, TX11, _, rfl⟩
theorem cbX12_drink : o_CB mX12_drink 1 := ⟨w_8_97, w_1_13, ⟨by decide, by decide, by decide +kernel⟩, rfl, Nat.le_of_ble_eq_true rfl⟩
theorem clL_114 : o_CV R_law 114 12 mX12_drink 1 := ⟨cbX12_drink, w_8_94, w_8_95, w_8_96, TX12, _, rfl⟩
theorem cbX11_take : o_CB mX11_take 1 := ⟨w_4_235, w_1_1, ⟨by decide, by decide, by decide +kernel⟩, rfl, Nat.le_of_ble_eq_true rfl⟩
theorem clL_115 : o_CV R_law 115 11 mX11_take 1 := ⟨cbX11_take, w_4_232, w_4_233, w_4_234, TX11, _, rfl⟩
theorem cbX12_take : o_CB mX12_take 1 := ⟨w_8_101, w_1_13, ⟨by decide, by decide, by decide +kernel⟩, rfl, Nat.le_of_ble_eq_true rfl⟩
theorem clL_118 : o_CV R_law 118 12 mX12_take 1 := ⟨cbX12_take, w_8_98, w_8_99, w_8_100, TX12, _, rfl⟩
theorem cbX11_wrapped : o_CB mX11_wrapped 2 := ⟨w_5_3, w_1_1, ⟨by decide, by decide, by decide +kernel⟩, rfl, Nat.le_of_ble_eq_true rfl⟩
theorem clL_119 : o_CV R_law 119 11 mX11_wrapped 2 := ⟨cbX11_wrapped, w_5_0, w_5_1, w_5_2, TX11, _, rfl⟩
theorem cbX12_wrapped : o_CB mX12_wrapped 2 := ⟨w_8_105, w_1_13, ⟨by decide, by decide, by decide +kernel⟩, rfl, Nat.le_of_ble_eq_true rfl⟩
theorem clL_122 : o_CV R_law 122 12 mX12_wrapped 2 := ⟨cbX12_wrapped, w_8_102, w_8_103, w_8_104, TX12, _, rfl⟩
theorem cbX11_learn : o_CB mX11_learn 2 := ⟨w_5_8, w_1_1, ⟨by decide, by decide, by decide +kernel⟩, rfl, Nat.le_of_ble_eq_true rfl⟩
theorem clL_123 : o_CV R_law 123 11 mX11_learn 2 := ⟨cbX11_learn, w_5_5, w_5_6, w_5_7, TX11, _, rfl⟩
theorem cbX12_learn : o_CB mX12_learn 2 := ⟨w_8_110, w_1_13, ⟨by decide, by decide, by decide +kernel⟩, rfl, Nat.le_of_ble_eq_true rfl⟩
theorem clL_127 : o_CV R_law 127 12 mX12_learn 2 := ⟨cbX12_learn, w_8_107, w_8_108, w_8_109, TX12, _, rfl⟩
theorem cbX11_teach : o_CB mX11_teach 4 := ⟨w_5_13, w_1_1, ⟨by decide, by decide, by decide +kernel⟩, rfl, Nat.le_of_ble_eq_true rfl⟩
theorem clL_128 : o_CV R_law 128 11 mX11_teach 4 := ⟨cbX11_teach, w_5_10, w_5_11, w_5_12, TX11, _, rfl⟩
theorem cbX12_teach : o_CB mX12_teach 4 := ⟨w_8_114, w_1_13, ⟨by decide, by decide, by decide +kernel⟩, rfl, Nat.le_of_ble_eq_true rfl⟩
theorem clL_132 : o_CV R_law 132 12 mX12_teach 4 := ⟨cbX12_teach, w_8_111, w_8_112, w_8_113, TX12, _, rfl⟩
theorem cbX11_forget : o_CB mX11_forget 2 := ⟨w_5_18, w_1_1, ⟨by decide, by decide, by decide +kernel⟩, rfl, Nat.le_of_ble_eq_true rfl⟩
theorem clL_133 : o_CV R_law 133 11 mX11_forget 2 := ⟨cbX11_forget, w_5_15, w_5_16, w_5_17, TX11, _, rfl⟩
theorem cbX12_forget : o_CB mX12_forget 2 := ⟨w_8_118, w_1_13, ⟨by decide, by decide, by decide +kernel⟩, rfl, Nat.le_of_ble_eq_true rfl⟩
theorem clL_136 : o_CV R_law 136 12 mX12_forget 2 := ⟨cbX12_forget, w_8_115, w_8_116, w_8_117, TX12, _, rfl⟩
theorem cbX11_sway : o_CB mX11_sway 1 := ⟨w_5_22, w_1_1, ⟨by decide, by decide, by decide +kernel⟩, rfl, Nat.le_of_ble_eq_true rfl⟩
theorem clL_137 : o_CV R_law 137 11 mX11_sway 1 := ⟨cbX11_sway, w_5_19, w_5_20, w_5_21, TX11, _, rfl⟩
theorem cbX12_sway : o_CB mX12_sway 1 := ⟨w_8_122, w_1_13, ⟨by decide, by decide, by decide +kernel⟩, rfl, Nat.le_of_ble_eq_true rfl⟩
theorem clL_141 : o_CV R_law 141 12 mX12_sway 1 := ⟨cbX12_sway, w_8_119, w_8_120, w_8_121, TX12, _, rfl⟩
theorem cbX11_pub : o_CB mX11_pub 1 := ⟨w_5_30, w_1_1, ⟨by decide, by decide, by decide +kernel⟩, rfl, Nat.le_of_ble_eq_true rfl⟩
theorem clL_142 : o_CV R_law 142 11 mX11_pub 1 := ⟨cbX11_pub, w_5_27, w_5_28, w_5_29, TX11, _, rfl⟩
theorem cbX12_pub : o_CB mX12_pub 1 := ⟨w_8_126, w_1_13, ⟨by decide, by decide, by decide +kernel⟩, rfl, Nat.le_of_ble_eq_true rfl⟩
theorem clL_145 : o_CV R_law 145 12 mX12_pub 1 := ⟨cbX12_pub, w_8_123, w_8_124, w_8_125, TX12, _, rfl⟩
theorem cbX11_lawOf : o_CB mX11_lawOf 4 := ⟨w_5_35, w_1_1, ⟨by decide, by decide, by decide +kernel⟩, rfl, Nat.le_of_ble_eq_true rfl⟩
theorem clL_146 : o_CV R_law 146 11 mX11_lawOf 4 := ⟨cbX11_lawOf, w_5_32, w_5_33, w_5_34, TX11, _, rfl⟩
theorem cbX12_lawOf : o_CB mX12_lawOf 4 := ⟨w_8_131, w_1_13, ⟨by decide, by decide, by decide +kernel⟩, rfl, Nat.le_of_ble_eq_true rfl⟩
theorem clL_149 : o_CV R_law 149 12 mX12_lawOf 4 := ⟨cbX12_lawOf, w_8_128, w_8_129, w_8_130, TX12, _, rfl⟩
theorem cbX11_strikeOf : o_CB mX11_strikeOf 4 := ⟨w_5_40, w_1_1, ⟨by decide, by decide, by decide +kernel⟩, rfl, Nat.le_of_ble_eq_true rfl⟩
theorem clL_150 : o_CV R_law 150 11 mX11_strikeOf 4 := ⟨cbX11_strikeOf, w_5_37, w_5_38, w_5_39, TX11, _, rfl⟩
theorem cbX12_strikeOf : o_CB mX12_strikeOf 4 := ⟨w_8_135, w_1_13, ⟨by decide, by decide, by decide +kernel⟩, rfl, Nat.le_of_ble_eq_true rfl⟩
theorem clL_153 : o_CV R_law 153 12 mX12_strikeOf 4 := ⟨cbX12_strikeOf, w_8_132, w_8_133, w_8_134, TX12, _, rfl⟩
theorem cbX11_struckNow : o_CB mX11_struckNow 4 := ⟨w_5_48, w_1_1, ⟨by decide, by decide, by decide +kernel⟩, rfl, Nat.le_of_ble_eq_true rfl⟩
theorem clL_154 : o_CV R_law 154 11 mX11_struckNow 4 := ⟨cbX11_struckNow, w_5_45, w_5_46, w_5_47, TX11, _, rfl⟩
theorem cbX12_struckNow : o_CB mX12_struckNow 4 := ⟨w_8_139, w_1_13, ⟨by decide, by decide, by decide +kernel⟩, rfl, Nat.le_of_ble_eq_true rfl⟩
theorem clL_157 : o_CV R_law 157 12 mX12_struckNow 4 := ⟨cbX12_struckNow, w_8_136, w_8_137, w_8_138, TX12, _, rfl⟩
theorem cbX11_lawsOf : o_CB mX11_lawsOf 4 := ⟨w_5_53, w_1_1, ⟨by decide, by decide, by decide +kernel⟩, rfl, Nat.le_of_ble_eq_true rfl⟩
theorem clL_158 : o_CV R_law 158 11 mX11_lawsOf 4 := ⟨cbX11_lawsOf, w_5_50, w_5_51, w_5_52, TX11, _, rfl⟩
theorem cbX12_lawsOf : o_CB mX12_lawsOf 4 := ⟨w_8_143, w_1_13, ⟨by decide, by decide, by decide +kernel⟩, rfl, Nat.le_of_ble_eq_true rfl⟩
theorem clL_161 : o_CV R_law 161 12 mX12_lawsOf 4 := ⟨cbX12_lawsOf, w_8_140, w_8_141, w_8_142, TX12, _, rfl⟩
theorem cbX11_sure : o_CB mX11_sure 5 := ⟨w_5_58, w_1_1, ⟨by decide, by decide, by decide +kernel⟩, rfl, Nat.le_of_ble_eq_true rfl⟩
theorem clL_162 : o_CV R_law 162 11 mX11_sure 5 := ⟨cbX11_sure, w_5_55, w_5_56, w_5_57, TX11, _, rfl⟩
theorem cbX12_sure : o_CB mX12_sure 5 := ⟨w_8_147, w_1_13, ⟨by decide, by decide, by decide +kernel⟩, rfl, Nat.le_of_ble_eq_true rfl⟩
theorem clL_165 : o_CV R_law 165 12 mX12_sure 5 := ⟨cbX12_sure, w_8_144, w_8_145, w_8_146, TX12, _, rfl⟩
theorem cbX11_wrap : o_CB mX11_wrap 5 := ⟨w_5_72, w_1_1, ⟨by decide, by decide, by decide +kernel⟩, rfl, Nat.le_of_ble_eq_true rfl⟩
theorem clL_166 : o_CV R_law 166 11 mX11_wrap 5 := ⟨cbX11_wrap, w_5_69, w_5_70, w_5_71, TX11, _, rfl⟩
theorem cbX12_wrap : o_CB mX12_wrap 5 := ⟨w_8_155, w_1_13, ⟨by decide, by decide, by decide +kernel⟩, rfl, Nat.le_of_ble_eq_true rfl⟩
theorem clL_169 : o_CV R_law 169 12 mX12_wrap 5 := ⟨cbX12_wrap, w_8_152, w_8_153, w_8_154, TX12, _, rfl⟩
theorem cbX11_weights : o_CB mX11_weights 4 := ⟨w_5_81, w_1_1, ⟨by decide, by decide, by decide +kernel⟩, rfl, Nat.le_of_ble_eq_true rfl⟩
theorem clL_170 : o_CV R_law 170 11 mX11_weights 4 := ⟨cbX11_weights, w_5_78, w_5_79, w_5_80, TX11, _, rfl⟩
theorem cbX12_weights : o_CB mX12_weights 4 := ⟨w_8_159, w_1_13, ⟨by decide, by decide, by decide +kernel⟩, rfl, Nat.le_of_ble_eq_true rfl⟩
theorem clL_173 : o_CV R_law 173 12 mX12_weights 4 := ⟨cbX12_weights, w_8_156, w_8_157, w_8_158, TX12, _, rfl⟩
theorem cbX11_weightAt : o_CB mX11_weightAt 5 := ⟨w_5_85, w_1_1, ⟨by decide, by decide, by decide +kernel⟩, rfl, Nat.le_of_ble_eq_true rfl⟩
theorem clL_174 : o_CV R_law 174 11 mX11_weightAt 5 := ⟨cbX11_weightAt, w_5_82, w_5_83, w_5_84, TX11, _, rfl⟩
theorem cbX12_weightAt : o_CB mX12_weightAt 5 := ⟨w_8_167, w_1_13, ⟨by decide, by decide, by decide +kernel⟩, rfl, Nat.le_of_ble_eq_true rfl⟩
theorem clL_177 : o_CV R_law 177 12 mX12_weightAt 5 := ⟨cbX12_weightAt, w_8_164, w_8_165, w_8_166, TX12, _, rfl⟩
theorem cbX11_could : o_CB mX11_could 3 := ⟨w_5_93, w_1_1, ⟨by decide, by decide, by decide +kernel⟩, rfl, Nat.le_of_ble_eq_true rfl⟩
theorem clL_178 : o_CV R_law 178 11 mX11_could 3 := ⟨cbX11_could, w_5_90, w_5_91, w_5_92, TX11, _, rfl⟩
theorem cbX12_could : o_CB mX12_could 3 := ⟨w_8_171, w_1_13, ⟨by decide, by decide, by decide +kernel⟩, rfl, Nat.le_of_ble_eq_true rfl⟩
theorem clL_181 : o_CV R_law 181 12 mX12_could 3 := ⟨cbX12_could, w_8_168, w_8_169, w_8_170, TX12, _, rfl⟩
theorem cbX11_idle : o_CB mX11_idle 0 := ⟨w_5_97, w_1_1, ⟨by decide, by decide, by decide +kernel⟩, rfl, Nat.le_of_ble_eq_true rfl⟩
theorem clL_182 : o_CV R_law 182 11 mX11_idle 0 := ⟨cbX11_idle, w_5_94, w_5_95, w_5_96, TX11, _, rfl⟩
theorem cbX12_idle : o_CB mX12_idle 0 := ⟨w_8_175, w_1_13, ⟨by decide, by decide, by decide +kernel⟩, rfl, Nat.le_of_ble_eq_true rfl⟩
theorem clL_185 : o_CV R_law 185 12 mX12_idle 0 := ⟨cbX12_idle, w_8_172, w_8_173, w_8_174, TX12, _, rfl⟩
theorem cbX11_via : o_CB mX11_via 4 := ⟨w_5_105, w_1_1, ⟨by decide, by decide, by decide +kernel⟩, rfl, Nat.le_of_ble_eq_true rfl⟩
theorem clL_186 : o_CV R_law 186 11 mX11_via 4 := ⟨cbX11_via, w_5_102, w_5_103, w_5_104, TX11, _, rfl⟩
theorem cbX12_via : o_CB mX12_via 4 := ⟨w_8_179, w_1_13, ⟨by decide, by decide, by decide +kernel⟩, rfl, Nat.le_of_ble_eq_true rfl⟩
theorem clL_189 : o_CV R_law 189 12 mX12_via 4 := ⟨cbX12_via, w_8_176, w_8_177, w_8_178, TX12, _, rfl⟩
theorem cbX11_viaFirst : o_CB mX11_viaFirst 4 := ⟨w_5_126, w_1_1, ⟨by decide, by decide, by decide +kernel⟩, rfl, Nat.le_of_ble_eq_true rfl⟩
theorem clL_190 : o_CV R_law 190 11 mX11_viaFirst 4 := ⟨cbX11_viaFirst, w_5_123, w_5_124, w_5_125, TX11, _, rfl⟩
theorem cbX12_viaFirst : o_CB mX12_viaFirst 4 := ⟨w_8_196, w_1_13, ⟨by decide, by decide, by decide +kernel⟩, rfl, Nat.le_of_ble_eq_true rfl⟩
theorem clL_193 : o_CV R_law 193 12 mX12_viaFirst 4 := ⟨cbX12_viaFirst, w_8_193, w_8_194, w_8_195, TX12, _, rfl⟩
theorem cbX11_echo : o_CB mX11_echo 2 := ⟨w_5_134, w_1_1, ⟨by decide, by decide, by decide +kernel⟩, rfl, Nat.le_of_ble_eq_true rfl⟩
theorem clL_194 : o_CV R_law 194 11 mX11_echo 2 := ⟨cbX11_echo, w_5_131, w_5_132, w_5_133, TX11, _, rfl⟩
theorem cbX12_echo : o_CB mX12_echo 2 := ⟨w_8_200, w_1_13, ⟨by decide, by decide, by decide +kernel⟩, rfl, Nat.le_of_ble_eq_true rfl⟩
theorem clL_197 : o_CV R_law 197 12 mX12_echo 2 := ⟨cbX12_echo, w_8_197, w_8_198, w_8_199, TX12, _, rfl⟩
theorem cbX11_round : o_CB mX11_round 2 := ⟨w_5_146, w_1_1, ⟨by decide, by decide, by decide +kernel⟩, rfl, Nat.le_of_ble_eq_true rfl⟩
theorem clL_198 : o_CV R_law 198 11 mX11_round 2 := ⟨cbX11_round, w_5_143, w_5_144, w_5_145, TX11, _, rfl⟩
theorem cbX12_round : o_CB mX12_round 2 := ⟨w_8_216, w_1_13, ⟨by decide, by decide, by decide +kernel⟩, rfl, Nat.le_of_ble_eq_true rfl⟩
theorem clL_201 : o_CV R_law 201 12 mX12_round 2 := ⟨cbX12_round, w_8_213, w_8_214, w_8_215, TX12, _, rfl⟩
theorem cbX11_rings : o_CB mX11_rings 0 := ⟨w_5_150, w_1_1, ⟨by decide, by decide, by decide +kernel⟩, rfl, Nat.le_of_ble_eq_true rfl⟩
theorem clL_202 : o_CV R_law 202 11 mX11_rings 0 := ⟨cbX11_rings, w_5_147, w_5_148, w_5_149, TX11, _, rfl⟩
theorem cbX12_rings : o_CB mX12_rings 0 := ⟨w_8_224, w_1_13, ⟨by decide, by decide, by decide +kernel⟩, rfl, Nat.le_of_ble_eq_true rfl⟩
theorem clL_205 : o_CV R_law 205 12 mX12_rings 0 := ⟨cbX12_rings, w_8_221, w_8_222, w_8_223, TX12, _, rfl⟩
theorem cbX11_longest : o_CB mX11_longest 0 := ⟨w_5_154, w_1_1, ⟨by decide, by decide, by decide +kernel⟩, rfl, Nat.le_of_ble_eq_true rfl⟩
theorem clL_206 : o_CV R_law 206 11 mX11_longest 0 := ⟨cbX11_longest, w_5_151, w_5_152, w_5_153, TX11, _, rfl⟩
theorem cbX12_longest : o_CB mX12_longest 0 := ⟨w_8_232, w_1_13, ⟨by decide, by decide, by decide +kernel⟩, rfl, Nat.le_of_ble_eq_true rfl⟩
theorem clL_209 : o_CV R_law 209 12 mX12_longest 0 := ⟨cbX12_longest, w_8_229, w_8_230, w_8_231, TX12, _, rfl⟩
theorem cbX11_reads : o_CB mX11_reads 2 := ⟨w_5_158, w_1_1, ⟨by decide, by decide, by decide +kernel⟩, rfl, Nat.le_of_ble_eq_true rfl⟩
theorem clL_210 : o_CV R_law 210 11 mX11_reads 2 := ⟨cbX11_reads, w_5_155, w_5_156, w_5_157, TX11, _, rfl⟩
theorem cbX12_reads : o_CB mX12_reads 2 := ⟨w_8_236, w_1_13, ⟨by decide, by decide, by decide +kernel⟩, rfl, Nat.le_of_ble_eq_true rfl⟩
theorem clL_213 : o_CV R_law 213 12 mX12_reads 2 := ⟨cbX12_reads, w_8_233, w_8_234, w_8_235, TX12, _, rfl⟩
theorem cbX11_isJust : o_CB mX11_isJust 2 := ⟨w_5_176, w_1_1, ⟨by decide, by decide, by decide +kernel⟩, rfl, Nat.le_of_ble_eq_true rfl⟩
theorem clL_214 : o_CV R_law 214 11 mX11_isJust 2 := ⟨cbX11_isJust, w_5_173, w_5_174, w_5_175, TX11, _, rfl⟩
theorem cbX12_isJust : o_CB mX12_isJust 2 := ⟨w_9_9, w_1_13, ⟨by decide, by decide, by decide +kernel⟩, rfl, Nat.le_of_ble_eq_true rfl⟩
theorem clL_217 : o_CV R_law 217 12 mX12_isJust 2 := ⟨cbX12_isJust, w_9_6, w_9_7, w_9_8, TX12, _, rfl⟩
theorem cbX11_copyDay : o_CB mX11_copyDay 1 := ⟨w_5_184, w_1_1, ⟨by decide, by decide, by decide +kernel⟩, rfl, Nat.le_of_ble_eq_true rfl⟩
theorem clL_218 : o_CV R_law 218 11 mX11_copyDay 1 := ⟨cbX11_copyDay, w_5_181, w_5_182, w_5_183, TX11, _, rfl⟩
theorem cbX12_copyDay : o_CB mX12_copyDay 1 := ⟨w_9_13, w_1_13, ⟨by decide, by decide, by decide +kernel⟩, rfl, Nat.le_of_ble_eq_true rfl⟩
theorem clL_221 : o_CV R_law 221 12 mX12_copyDay 1 := ⟨cbX12_copyDay, w_9_10, w_9_11, w_9_12, TX12, _, rfl⟩
theorem cbX11_spells : o_CB mX11_spells 2 := ⟨w_5_188, w_1_1, ⟨by decide, by decide, by decide +kernel⟩, rfl, Nat.le_of_ble_eq_true rfl⟩
theorem clL_222 : o_CV R_law 222 11 mX11_spells 2 := ⟨cbX11_spells, w_5_185, w_5_186, w_5_187, TX11, _, rfl⟩
theorem cbX12_spells : o_CB mX12_spells 2 := ⟨w_9_17, w_1_13, ⟨by decide, by decide, by decide +kernel⟩, rfl, Nat.le_of_ble_eq_true rfl⟩
theorem clL_225 : o_CV R_law 225 12 mX12_spells 2 := ⟨cbX12_spells, w_9_14, w_9_15, w_9_16, TX12, _, rfl⟩
theorem cbX11_spellAt : o_CB mX11_spellAt 4 := ⟨w_5_202, w_1_1, ⟨by decide, by decide, by decide +kernel⟩, rfl, Nat.le_of_ble_eq_true rfl⟩
theorem clL_226 : o_CV R_law 226 11 mX11_spellAt 4 := ⟨cbX11_spellAt, w_5_199, w_5_200, w_5_201, TX11, _, rfl⟩
theorem cbX12_spellAt : o_CB mX12_spellAt 4 := ⟨w_9_29, w_1_13, ⟨by decide, by decide, by decide +kernel⟩, rfl, Nat.le_of_ble_eq_true rfl⟩
theorem clL_229 : o_CV R_law 229 12 mX12_spellAt 4 := ⟨cbX12_spellAt, w_9_26, w_9_27, w_9_28, TX12, _, rfl⟩
theorem cbX11_split : o_CB mX11_split 4 := ⟨w_5_207, w_1_1, ⟨by decide, by decide, by decide +kernel⟩, rfl, Nat.le_of_ble_eq_true rfl⟩
theorem clL_230 : o_CV R_law 230 11 mX11_split 4 := ⟨cbX11_split, w_5_204, w_5_205, w_5_206, TX11, _, rfl⟩
theorem cbX12_split : o_CB mX12_split 4 := ⟨w_9_34, w_1_13, ⟨by decide, by decide, by decide +kernel⟩, rfl, Nat.le_of_ble_eq_true rfl⟩
theorem clL_233 : o_CV R_law 233 12 mX12_split 4 := ⟨cbX12_split, w_9_31, w_9_32, w_9_33, TX12, _, rfl⟩
theorem cbX11_splitNext : o_CB mX11_splitNext 4 := ⟨w_5_228, w_1_1, ⟨by decide, by decide, by decide +kernel⟩, rfl, Nat.le_of_ble_eq_true rfl⟩
theorem clL_234 : o_CV R_law 234 11 mX11_splitNext 4 := ⟨cbX11_splitNext, w_5_225, w_5_226, w_5_227, TX11, _, rfl⟩
theorem cbX12_splitNext : o_CB mX12_splitNext 4 := ⟨w_9_51, w_1_13, ⟨by decide, by decide, by decide +kernel⟩, rfl, Nat.le_of_ble_eq_true rfl⟩
theorem clL_237 : o_CV R_law 237 12 mX12_splitNext 4 := ⟨cbX12_splitNext, w_9_48, w_9_49, w_9_50, TX12, _, rfl⟩
theorem cbX11_lawsUsed : o_CB mX11_lawsUsed 0 := ⟨w_5_237, w_1_1, ⟨by decide, by decide, by decide +kernel⟩, rfl, Nat.le_of_ble_eq_true rfl⟩
theorem clL_238 : o_CV R_law 238 11 mX11_lawsUsed 0 := ⟨cbX11_lawsUsed, w_5_234, w_5_235, w_5_236, TX11, _, rfl⟩
theorem cbX12_lawsUsed : o_CB mX12_lawsUsed 0 := ⟨w_9_56, w_1_13, ⟨by decide, by decide, by decide +kernel⟩, rfl, Nat.le_of_ble_eq_true rfl⟩
theorem clL_241 : o_CV R_law 241 12 mX12_lawsUsed 0 := ⟨cbX12_lawsUsed, w_9_53, w_9_54, w_9_55, TX12, _, rfl⟩
theorem cbX11_game : o_CB mX11_game 1 := ⟨w_6_7, w_1_1, ⟨by decide, by decide, by decide +kernel⟩, rfl, Nat.le_of_ble_eq_true rfl⟩
theorem clL_242 : o_CV R_law 242 11 mX11_game 1 := ⟨cbX11_game, w_6_4, w_6_5, w_6_6, TX11, _, rfl⟩
theorem cbX12_game : o_CB mX12_game 1 := ⟨w_9_63, w_1_13, ⟨by decide, by decide, by decide +kernel⟩, rfl, Nat.le_of_ble_eq_true rfl⟩
theorem clL_245 : o_CV R_law 245 12 mX12_game 1 := ⟨cbX12_game, w_9_60, w_9_61, w_9_62, TX12, _, rfl⟩
theorem cbX11_gameFirst : o_CB mX11_gameFirst 1 := ⟨w_6_36, w_1_1, ⟨by decide, by decide, by decide +kernel⟩, rfl, Nat.le_of_ble_eq_true rfl⟩
theorem clL_246 : o_CV R_law 246 11 mX11_gameFirst 1 := ⟨cbX11_gameFirst, w_6_33, w_6_34, w_6_35, TX11, _, rfl⟩
theorem cbX12_gameFirst : o_CB mX12_gameFirst 1 := ⟨w_9_90, w_1_13, ⟨by decide, by decide, by decide +kernel⟩, rfl, Nat.le_of_ble_eq_true rfl⟩
theorem clL_249 : o_CV R_law 249 12 mX12_gameFirst 1 := ⟨cbX12_gameFirst, w_9_87, w_9_88, w_9_89, TX12, _, rfl⟩
theorem cbX11_brother : o_CB mX11_brother 1 := ⟨w_6_45, w_1_1, ⟨by decide, by decide, by decide +kernel⟩, rfl, Nat.le_of_ble_eq_true rfl⟩
theorem clL_250 : o_CV R_law 250 11 mX11_brother 1 := ⟨cbX11_brother, w_6_42, w_6_43, w_6_44, TX11, _, rfl⟩
theorem cbX12_brother : o_CB mX12_brother 1 := ⟨w_9_94, w_1_13, ⟨by decide, by decide, by decide +kernel⟩, rfl, Nat.le_of_ble_eq_true rfl⟩
theorem clL_253 : o_CV R_law 253 12 mX12_brother 1 := ⟨cbX12_brother, w_9_91, w_9_92, w_9_93, TX12, _, rfl⟩
theorem cbX11_live : o_CB mX11_live 1 := ⟨w_6_51, w_1_1, ⟨by decide, by decide, by decide +kernel⟩, rfl, Nat.le_of_ble_eq_true rfl⟩
theorem clL_254 : o_CV R_law 254 11 mX11_live 1 := ⟨cbX11_live, w_6_48, w_6_49, w_6_50, TX11, _, rfl⟩
theorem cbX12_live : o_CB mX12_live 1 := ⟨w_9_98, w_1_13, ⟨by decide, by decide, by decide +kernel⟩, rfl, Nat.le_of_ble_eq_true rfl⟩
theorem clL_257 : o_CV R_law 257 12 mX12_live 1 := ⟨cbX12_live, w_9_95, w_9_96, w_9_97, TX12, _, rfl⟩
theorem cbX11_lived : o_CB mX11_lived 1 := ⟨w_6_92, w_1_1, ⟨by decide, by decide, by decide +kernel⟩, rfl, Nat.le_of_ble_eq_true rfl⟩
theorem clL_258 : o_CV R_law 258 11 mX11_lived 1 := ⟨cbX11_lived, w_6_89, w_6_90, w_6_91, TX11, _, rfl⟩
theorem cbX12_lived : o_CB mX12_lived 1 := ⟨w_9_140, w_1_13, ⟨by decide, by decide, by decide +kernel⟩, rfl, Nat.le_of_ble_eq_true rfl⟩
theorem clL_261 : o_CV R_law 261 12 mX12_lived 1 := ⟨cbX12_lived, w_9_137, w_9_138, w_9_139, TX12, _, rfl⟩
theorem cbX11_mean : o_CB mX11_mean 2 := ⟨w_6_96, w_1_1, ⟨by decide, by decide, by decide +kernel⟩, rfl, Nat.le_of_ble_eq_true rfl⟩
theorem clL_262 : o_CV R_law 262 11 mX11_mean 2 := ⟨cbX11_mean, w_6_93, w_6_94, w_6_95, TX11, _, rfl⟩
theorem cbX12_mean : o_CB mX12_mean 2 := ⟨w_9_144, w_1_13, ⟨by decide, by decide, by decide +kernel⟩, rfl, Nat.le_of_ble_eq_true rfl⟩
theorem clL_265 : o_CV R_law 265 12 mX12_mean 2 := ⟨cbX12_mean, w_9_141, w_9_142, w_9_143, TX12, _, rfl⟩
theorem cbX11_mark : o_CB mX11_mark 0 := ⟨w_6_101, w_1_1, ⟨by decide, by decide, by decide +kernel⟩, rfl, Nat.le_of_ble_eq_true rfl⟩
theorem clL_266 : o_CV R_law 266 11 mX11_mark 0 := ⟨cbX11_mark, w_6_98, w_6_99, w_6_100, TX11, _, rfl⟩
theorem cbX12_mark : o_CB mX12_mark 0 := ⟨w_9_149, w_1_13, ⟨by decide, by decide, by decide +kernel⟩, rfl, Nat.le_of_ble_eq_true rfl⟩
theorem clL_269 : o_CV R_law 269 12 mX12_mark 0 := ⟨cbX12_mark, w_9_146, w_9_147, w_9_148, TX12, _, rfl⟩
theorem cbX11_undo : o_CB mX11_undo 0 := ⟨w_6_105, w_1_1, ⟨by decide, by decide, by decide +kernel⟩, rfl, Nat.le_of_ble_eq_true rfl⟩
theorem clL_270 : o_CV R_law 270 11 mX11_undo 0 := ⟨cbX11_undo, w_6_102, w_6_103, w_6_104, TX11, _, rfl⟩
theorem cbX12_undo : o_CB mX12_undo 0 := ⟨w_9_157, w_1_13, ⟨by decide, by decide, by decide +kernel⟩, rfl, Nat.le_of_ble_eq_true rfl⟩
theorem clL_273 : o_CV R_law 273 12 mX12_undo 0 := ⟨cbX12_undo, w_9_154, w_9_155, w_9_156, TX12, _, rfl⟩
