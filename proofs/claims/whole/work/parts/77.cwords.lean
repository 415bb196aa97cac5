/-! ===== constructors: words, decode rows ===== -/
theorem w_1_26 : (Jvm.Cond.code ({ cls := "OddCancel", name := "<init>", desc := "()V" } : Jvm.MethodName) prog_1_method_1_code (2 : Nat) (Option.none : Option Jvm.ClassFile.FieldType)) ∈ o_tb := o_tb_of (lw_t1 (List.mem_of_getElem? (i := 26) rfl)) rfl
theorem w_1_27 : (Jvm.Cond.methodLink "OddCancel" (3 : Nat) ({ cls := "java/lang/Object", name := "<init>", desc := "()V" } : Jvm.MethodName)) ∈ o_tb := o_tb_of (lw_t1 (List.mem_of_getElem? (i := 27) rfl)) rfl
theorem w_1_28 : (Jvm.Cond.instanceMethod ({ cls := "java/lang/Object", name := "<init>", desc := "()V" } : Jvm.MethodName)) ∈ o_tb := o_tb_of (lw_t1 (List.mem_of_getElem? (i := 28) rfl)) rfl
theorem w_1_29 : (Jvm.Cond.code ({ cls := "java/lang/Object", name := "<init>", desc := "()V" } : Jvm.MethodName) object_method_1_code (1 : Nat) (Option.none : Option Jvm.ClassFile.FieldType)) ∈ o_tb := o_tb_of (lw_t1 (List.mem_of_getElem? (i := 29) rfl)) rfl
theorem w_1_30 : (Jvm.Cond.classLink "OddCancel" (13 : Nat) "OddCancel$Tray") ∈ o_tb := o_tb_of (lw_t1 (List.mem_of_getElem? (i := 30) rfl)) rfl
theorem w_1_32 : (Jvm.Cond.instantiable "OddCancel$Tray" (4 : Nat)) ∈ o_tb := o_tb_of (lw_t1 (List.mem_of_getElem? (i := 32) rfl)) rfl
theorem w_1_34 : (Jvm.Cond.instanceMethod ({ cls := "OddCancel$Tray", name := "<init>", desc := "()V" } : Jvm.MethodName)) ∈ o_tb := o_tb_of (lw_t1 (List.mem_of_getElem? (i := 34) rfl)) rfl
theorem w_1_35 : (Jvm.Cond.code ({ cls := "OddCancel$Tray", name := "<init>", desc := "()V" } : Jvm.MethodName) prog_9_method_1_code (1 : Nat) (Option.none : Option Jvm.ClassFile.FieldType)) ∈ o_tb := o_tb_of (lw_t1 (List.mem_of_getElem? (i := 35) rfl)) rfl
theorem w_1_36 : (Jvm.Cond.methodLink "OddCancel$Tray" (3 : Nat) ({ cls := "java/lang/Object", name := "<init>", desc := "()V" } : Jvm.MethodName)) ∈ o_tb := o_tb_of (lw_t1 (List.mem_of_getElem? (i := 36) rfl)) rfl
theorem w_1_55 : (Jvm.Cond.arrayClass Jvm.ClassFile.FieldType.long) ∈ o_tb := o_tb_of (lw_t1 (List.mem_of_getElem? (i := 55) rfl)) rfl
theorem w_1_56 : (Jvm.Cond.classLink "OddCancel" (20 : Nat) "OddCancel$Valley") ∈ o_tb := o_tb_of (lw_t1 (List.mem_of_getElem? (i := 56) rfl)) rfl
theorem w_1_57 : (Jvm.Cond.instantiable "OddCancel$Valley" (18 : Nat)) ∈ o_tb := o_tb_of (lw_t1 (List.mem_of_getElem? (i := 57) rfl)) rfl
theorem w_1_59 : (Jvm.Cond.instanceMethod ({ cls := "OddCancel$Valley", name := "<init>", desc := "()V" } : Jvm.MethodName)) ∈ o_tb := o_tb_of (lw_t1 (List.mem_of_getElem? (i := 59) rfl)) rfl
theorem w_1_60 : (Jvm.Cond.code ({ cls := "OddCancel$Valley", name := "<init>", desc := "()V" } : Jvm.MethodName) prog_10_method_1_code (1 : Nat) (Option.none : Option Jvm.ClassFile.FieldType)) ∈ o_tb := o_tb_of (lw_t1 (List.mem_of_getElem? (i := 60) rfl)) rfl
theorem w_1_61 : (Jvm.Cond.methodLink "OddCancel$Valley" (3 : Nat) ({ cls := "java/lang/Object", name := "<init>", desc := "()V" } : Jvm.MethodName)) ∈ o_tb := o_tb_of (lw_t1 (List.mem_of_getElem? (i := 61) rfl)) rfl
theorem w_1_62 : (Jvm.Cond.classLink "OddCancel$Valley" (34 : Nat) "OddCancel$Letters") ∈ o_tb := o_tb_of (lw_t1 (List.mem_of_getElem? (i := 62) rfl)) rfl
theorem w_1_63 : (Jvm.Cond.instantiable "OddCancel$Letters" (6 : Nat)) ∈ o_tb := o_tb_of (lw_t1 (List.mem_of_getElem? (i := 63) rfl)) rfl
theorem w_1_65 : (Jvm.Cond.instanceMethod ({ cls := "OddCancel$Letters", name := "<init>", desc := "()V" } : Jvm.MethodName)) ∈ o_tb := o_tb_of (lw_t1 (List.mem_of_getElem? (i := 65) rfl)) rfl
theorem w_1_66 : (Jvm.Cond.code ({ cls := "OddCancel$Letters", name := "<init>", desc := "()V" } : Jvm.MethodName) prog_3_method_1_code (1 : Nat) (Option.none : Option Jvm.ClassFile.FieldType)) ∈ o_tb := o_tb_of (lw_t1 (List.mem_of_getElem? (i := 66) rfl)) rfl
theorem w_1_67 : (Jvm.Cond.methodLink "OddCancel$Letters" (3 : Nat) ({ cls := "java/lang/Object", name := "<init>", desc := "()V" } : Jvm.MethodName)) ∈ o_tb := o_tb_of (lw_t1 (List.mem_of_getElem? (i := 67) rfl)) rfl
theorem w_1_108 : (Jvm.Cond.arrayClass Jvm.ClassFile.FieldType.int) ∈ o_tb := o_tb_of (lw_t1 (List.mem_of_getElem? (i := 108) rfl)) rfl
theorem w_1_203 : (Jvm.Cond.classLink "OddCancel" (30 : Nat) "OddCancel$Plan") ∈ o_tb := o_tb_of (lw_t1 (List.mem_of_getElem? (i := 203) rfl)) rfl
theorem w_1_204 : (Jvm.Cond.instantiable "OddCancel$Plan" (7 : Nat)) ∈ o_tb := o_tb_of (lw_t1 (List.mem_of_getElem? (i := 204) rfl)) rfl
theorem w_1_206 : (Jvm.Cond.instanceMethod ({ cls := "OddCancel$Plan", name := "<init>", desc := "()V" } : Jvm.MethodName)) ∈ o_tb := o_tb_of (lw_t1 (List.mem_of_getElem? (i := 206) rfl)) rfl
theorem w_1_207 : (Jvm.Cond.code ({ cls := "OddCancel$Plan", name := "<init>", desc := "()V" } : Jvm.MethodName) prog_5_method_1_code (1 : Nat) (Option.none : Option Jvm.ClassFile.FieldType)) ∈ o_tb := o_tb_of (lw_t1 (List.mem_of_getElem? (i := 207) rfl)) rfl
theorem w_1_208 : (Jvm.Cond.methodLink "OddCancel$Plan" (3 : Nat) ({ cls := "java/lang/Object", name := "<init>", desc := "()V" } : Jvm.MethodName)) ∈ o_tb := o_tb_of (lw_t1 (List.mem_of_getElem? (i := 208) rfl)) rfl
theorem w_2_4 : (Jvm.Cond.classLink "OddCancel" (48 : Nat) "OddCancel$Reader") ∈ o_tb := o_tb_of (lw_t2 (List.mem_of_getElem? (i := 4) rfl)) rfl
theorem w_2_5 : (Jvm.Cond.instantiable "OddCancel$Reader" (12 : Nat)) ∈ o_tb := o_tb_of (lw_t2 (List.mem_of_getElem? (i := 5) rfl)) rfl
theorem w_2_7 : (Jvm.Cond.instanceMethod ({ cls := "OddCancel$Reader", name := "<init>", desc := "()V" } : Jvm.MethodName)) ∈ o_tb := o_tb_of (lw_t2 (List.mem_of_getElem? (i := 7) rfl)) rfl
theorem w_2_8 : (Jvm.Cond.code ({ cls := "OddCancel$Reader", name := "<init>", desc := "()V" } : Jvm.MethodName) prog_6_method_1_code (1 : Nat) (Option.none : Option Jvm.ClassFile.FieldType)) ∈ o_tb := o_tb_of (lw_t2 (List.mem_of_getElem? (i := 8) rfl)) rfl
theorem w_2_9 : (Jvm.Cond.methodLink "OddCancel$Reader" (3 : Nat) ({ cls := "java/lang/Object", name := "<init>", desc := "()V" } : Jvm.MethodName)) ∈ o_tb := o_tb_of (lw_t2 (List.mem_of_getElem? (i := 9) rfl)) rfl
theorem w_2_56 : (Jvm.Cond.arrayClass Jvm.ClassFile.FieldType.byte) ∈ o_tb := o_tb_of (lw_t2 (List.mem_of_getElem? (i := 56) rfl)) rfl
theorem w_2_57 : (Jvm.Cond.classLink "OddCancel" (55 : Nat) "OddCancel$ValleyText") ∈ o_tb := o_tb_of (lw_t2 (List.mem_of_getElem? (i := 57) rfl)) rfl
theorem w_2_58 : (Jvm.Cond.instantiable "OddCancel$ValleyText" (3 : Nat)) ∈ o_tb := o_tb_of (lw_t2 (List.mem_of_getElem? (i := 58) rfl)) rfl
theorem w_2_59 : (Jvm.Cond.methodLink "OddCancel" (57 : Nat) ({ cls := "OddCancel$ValleyText", name := "<init>", desc := "(LOddCancel$Reader;LOddCancel$Valley;)V" } : Jvm.MethodName)) ∈ o_tb := o_tb_of (lw_t2 (List.mem_of_getElem? (i := 59) rfl)) rfl
theorem w_2_60 : (Jvm.Cond.instanceMethod ({ cls := "OddCancel$ValleyText", name := "<init>", desc := "(LOddCancel$Reader;LOddCancel$Valley;)V" } : Jvm.MethodName)) ∈ o_tb := o_tb_of (lw_t2 (List.mem_of_getElem? (i := 60) rfl)) rfl
theorem w_2_61 : (Jvm.Cond.code ({ cls := "OddCancel$ValleyText", name := "<init>", desc := "(LOddCancel$Reader;LOddCancel$Valley;)V" } : Jvm.MethodName) prog_11_method_1_code (3 : Nat) (Option.none : Option Jvm.ClassFile.FieldType)) ∈ o_tb := o_tb_of (lw_t2 (List.mem_of_getElem? (i := 61) rfl)) rfl
theorem w_2_62 : (Jvm.Cond.methodLink "OddCancel$ValleyText" (3 : Nat) ({ cls := "java/lang/Object", name := "<init>", desc := "()V" } : Jvm.MethodName)) ∈ o_tb := o_tb_of (lw_t2 (List.mem_of_getElem? (i := 62) rfl)) rfl
theorem w_2_73 : (Jvm.Cond.classLink "OddCancel" (64 : Nat) "OddCancel$WeeksText") ∈ o_tb := o_tb_of (lw_t2 (List.mem_of_getElem? (i := 73) rfl)) rfl
theorem w_2_74 : (Jvm.Cond.instantiable "OddCancel$WeeksText" (5 : Nat)) ∈ o_tb := o_tb_of (lw_t2 (List.mem_of_getElem? (i := 74) rfl)) rfl
theorem w_2_75 : (Jvm.Cond.methodLink "OddCancel" (66 : Nat) ({ cls := "OddCancel$WeeksText", name := "<init>", desc := "(LOddCancel$Reader;LOddCancel$Valley;LOddCancel$Plan;)V" } : Jvm.MethodName)) ∈ o_tb := o_tb_of (lw_t2 (List.mem_of_getElem? (i := 75) rfl)) rfl
theorem w_2_76 : (Jvm.Cond.instanceMethod ({ cls := "OddCancel$WeeksText", name := "<init>", desc := "(LOddCancel$Reader;LOddCancel$Valley;LOddCancel$Plan;)V" } : Jvm.MethodName)) ∈ o_tb := o_tb_of (lw_t2 (List.mem_of_getElem? (i := 76) rfl)) rfl
theorem w_2_77 : (Jvm.Cond.code ({ cls := "OddCancel$WeeksText", name := "<init>", desc := "(LOddCancel$Reader;LOddCancel$Valley;LOddCancel$Plan;)V" } : Jvm.MethodName) prog_12_method_1_code (4 : Nat) (Option.none : Option Jvm.ClassFile.FieldType)) ∈ o_tb := o_tb_of (lw_t2 (List.mem_of_getElem? (i := 77) rfl)) rfl
theorem w_2_78 : (Jvm.Cond.methodLink "OddCancel$WeeksText" (3 : Nat) ({ cls := "java/lang/Object", name := "<init>", desc := "()V" } : Jvm.MethodName)) ∈ o_tb := o_tb_of (lw_t2 (List.mem_of_getElem? (i := 78) rfl)) rfl
theorem w_2_95 : (Jvm.Cond.classLink "OddCancel" (73 : Nat) "OddCancel$Life") ∈ o_tb := o_tb_of (lw_t2 (List.mem_of_getElem? (i := 95) rfl)) rfl
theorem w_2_96 : (Jvm.Cond.instantiable "OddCancel$Life" (8 : Nat)) ∈ o_tb := o_tb_of (lw_t2 (List.mem_of_getElem? (i := 96) rfl)) rfl
theorem w_2_98 : (Jvm.Cond.instanceMethod ({ cls := "OddCancel$Life", name := "<init>", desc := "()V" } : Jvm.MethodName)) ∈ o_tb := o_tb_of (lw_t2 (List.mem_of_getElem? (i := 98) rfl)) rfl
theorem w_2_99 : (Jvm.Cond.code ({ cls := "OddCancel$Life", name := "<init>", desc := "()V" } : Jvm.MethodName) prog_4_method_1_code (1 : Nat) (Option.none : Option Jvm.ClassFile.FieldType)) ∈ o_tb := o_tb_of (lw_t2 (List.mem_of_getElem? (i := 99) rfl)) rfl
theorem w_2_100 : (Jvm.Cond.methodLink "OddCancel$Life" (3 : Nat) ({ cls := "java/lang/Object", name := "<init>", desc := "()V" } : Jvm.MethodName)) ∈ o_tb := o_tb_of (lw_t2 (List.mem_of_getElem? (i := 100) rfl)) rfl
theorem w_2_132 : (Jvm.Cond.classLink "OddCancel" (84 : Nat) "OddCancel$Trails") ∈ o_tb := o_tb_of (lw_t2 (List.mem_of_getElem? (i := 132) rfl)) rfl
theorem w_2_133 : (Jvm.Cond.instantiable "OddCancel$Trails" (5 : Nat)) ∈ o_tb := o_tb_of (lw_t2 (List.mem_of_getElem? (i := 133) rfl)) rfl
theorem w_2_135 : (Jvm.Cond.instanceMethod ({ cls := "OddCancel$Trails", name := "<init>", desc := "()V" } : Jvm.MethodName)) ∈ o_tb := o_tb_of (lw_t2 (List.mem_of_getElem? (i := 135) rfl)) rfl
theorem w_2_136 : (Jvm.Cond.code ({ cls := "OddCancel$Trails", name := "<init>", desc := "()V" } : Jvm.MethodName) prog_8_method_1_code (1 : Nat) (Option.none : Option Jvm.ClassFile.FieldType)) ∈ o_tb := o_tb_of (lw_t2 (List.mem_of_getElem? (i := 136) rfl)) rfl
theorem w_2_137 : (Jvm.Cond.methodLink "OddCancel$Trails" (3 : Nat) ({ cls := "java/lang/Object", name := "<init>", desc := "()V" } : Jvm.MethodName)) ∈ o_tb := o_tb_of (lw_t2 (List.mem_of_getElem? (i := 137) rfl)) rfl
theorem w_2_158 : (Jvm.Cond.classLink "OddCancel" (91 : Nat) "OddCancel$Rows") ∈ o_tb := o_tb_of (lw_t2 (List.mem_of_getElem? (i := 158) rfl)) rfl
theorem w_2_159 : (Jvm.Cond.instantiable "OddCancel$Rows" (4 : Nat)) ∈ o_tb := o_tb_of (lw_t2 (List.mem_of_getElem? (i := 159) rfl)) rfl
theorem w_2_161 : (Jvm.Cond.instanceMethod ({ cls := "OddCancel$Rows", name := "<init>", desc := "()V" } : Jvm.MethodName)) ∈ o_tb := o_tb_of (lw_t2 (List.mem_of_getElem? (i := 161) rfl)) rfl
theorem w_2_162 : (Jvm.Cond.code ({ cls := "OddCancel$Rows", name := "<init>", desc := "()V" } : Jvm.MethodName) prog_7_method_1_code (1 : Nat) (Option.none : Option Jvm.ClassFile.FieldType)) ∈ o_tb := o_tb_of (lw_t2 (List.mem_of_getElem? (i := 162) rfl)) rfl
theorem w_2_163 : (Jvm.Cond.methodLink "OddCancel$Rows" (3 : Nat) ({ cls := "java/lang/Object", name := "<init>", desc := "()V" } : Jvm.MethodName)) ∈ o_tb := o_tb_of (lw_t2 (List.mem_of_getElem? (i := 163) rfl)) rfl
theorem w_2_164 : (Jvm.Cond.classLink "OddCancel$Rows" (9 : Nat) "OddCancel$Letters") ∈ o_tb := o_tb_of (lw_t2 (List.mem_of_getElem? (i := 164) rfl)) rfl
theorem w_2_180 : (Jvm.Cond.classLink "OddCancel" (98 : Nat) "OddCancel$Brothers") ∈ o_tb := o_tb_of (lw_t2 (List.mem_of_getElem? (i := 180) rfl)) rfl
theorem w_2_181 : (Jvm.Cond.instantiable "OddCancel$Brothers" (3 : Nat)) ∈ o_tb := o_tb_of (lw_t2 (List.mem_of_getElem? (i := 181) rfl)) rfl
theorem w_2_183 : (Jvm.Cond.instanceMethod ({ cls := "OddCancel$Brothers", name := "<init>", desc := "()V" } : Jvm.MethodName)) ∈ o_tb := o_tb_of (lw_t2 (List.mem_of_getElem? (i := 183) rfl)) rfl
theorem w_2_184 : (Jvm.Cond.code ({ cls := "OddCancel$Brothers", name := "<init>", desc := "()V" } : Jvm.MethodName) prog_2_method_1_code (1 : Nat) (Option.none : Option Jvm.ClassFile.FieldType)) ∈ o_tb := o_tb_of (lw_t2 (List.mem_of_getElem? (i := 184) rfl)) rfl
theorem w_2_185 : (Jvm.Cond.methodLink "OddCancel$Brothers" (3 : Nat) ({ cls := "java/lang/Object", name := "<init>", desc := "()V" } : Jvm.MethodName)) ∈ o_tb := o_tb_of (lw_t2 (List.mem_of_getElem? (i := 185) rfl)) rfl
theorem w_6_110 : (Jvm.Cond.code ({ cls := "OddCancelModel", name := "<init>", desc := "()V" } : Jvm.MethodName) prog_14_method_1_code (1 : Nat) (Option.none : Option Jvm.ClassFile.FieldType)) ∈ o_tb := o_tb_of (lw_t6 (List.mem_of_getElem? (i := 110) rfl)) rfl
theorem w_6_111 : (Jvm.Cond.methodLink "OddCancelModel" (1 : Nat) ({ cls := "java/lang/Object", name := "<init>", desc := "()V" } : Jvm.MethodName)) ∈ o_tb := o_tb_of (lw_t6 (List.mem_of_getElem? (i := 111) rfl)) rfl
abbrev mX0_init : o_M := (yX0_init, cX0_init, 1, none)
theorem cbX0_init : o_CB mX0_init 0 := ⟨w_2_184, w_1_12, ⟨by decide, by decide, by decide +kernel⟩, rfl, Nat.le_of_ble_eq_true rfl⟩
theorem dX0_init_0 : decode cX0_init 0 = .ok (.aload_n 0, 1) := by decide +kernel
theorem dX0_init_1 : decode cX0_init 1 = .ok (.invokespecial 3, 3) := by decide +kernel
theorem dX0_init_4 : decode cX0_init 4 = .ok (.aload_n 0, 1) := by decide +kernel
theorem dX0_init_5 : decode cX0_init 5 = .ok (.bipush 12, 2) := by decide +kernel
theorem dX0_init_7 : decode cX0_init 7 = .ok (.newarray .int, 2) := by decide +kernel
theorem dX0_init_9 : decode cX0_init 9 = .ok (.putfield 9, 3) := by decide +kernel
theorem dX0_init_12 : decode cX0_init 12 = .ok (.aload_n 0, 1) := by decide +kernel
theorem dX0_init_13 : decode cX0_init 13 = .ok (.bipush 12, 2) := by decide +kernel
theorem dX0_init_15 : decode cX0_init 15 = .ok (.newarray .int, 2) := by decide +kernel
theorem dX0_init_17 : decode cX0_init 17 = .ok (.putfield 15, 3) := by decide +kernel
theorem dX0_init_20 : decode cX0_init 20 = .ok (.return_, 1) := by decide +kernel
abbrev mX1_init : o_M := (yX1_init, cX1_init, 1, none)
theorem cbX1_init : o_CB mX1_init 0 := ⟨w_1_66, w_1_4, ⟨by decide, by decide, by decide +kernel⟩, rfl, Nat.le_of_ble_eq_true rfl⟩
theorem dX1_init_0 : decode cX1_init 0 = .ok (.aload_n 0, 1) := by decide +kernel
theorem dX1_init_1 : decode cX1_init 1 = .ok (.invokespecial 3, 3) := by decide +kernel
theorem dX1_init_4 : decode cX1_init 4 = .ok (.aload_n 0, 1) := by decide +kernel
theorem dX1_init_5 : decode cX1_init 5 = .ok (.bipush 12, 2) := by decide +kernel
theorem dX1_init_7 : decode cX1_init 7 = .ok (.newarray .int, 2) := by decide +kernel
theorem dX1_init_9 : decode cX1_init 9 = .ok (.putfield 9, 3) := by decide +kernel
theorem dX1_init_12 : decode cX1_init 12 = .ok (.aload_n 0, 1) := by decide +kernel
theorem dX1_init_13 : decode cX1_init 13 = .ok (.bipush 12, 2) := by decide +kernel
theorem dX1_init_15 : decode cX1_init 15 = .ok (.newarray .int, 2) := by decide +kernel
theorem dX1_init_17 : decode cX1_init 17 = .ok (.putfield 15, 3) := by decide +kernel
theorem dX1_init_20 : decode cX1_init 20 = .ok (.aload_n 0, 1) := by decide +kernel
theorem dX1_init_21 : decode cX1_init 21 = .ok (.bipush 12, 2) := by decide +kernel
theorem dX1_init_23 : decode cX1_init 23 = .ok (.newarray .int, 2) := by decide +kernel
theorem dX1_init_25 : decode cX1_init 25 = .ok (.putfield 18, 3) := by decide +kernel
theorem dX1_init_28 : decode cX1_init 28 = .ok (.aload_n 0, 1) := by decide +kernel
theorem dX1_init_29 : decode cX1_init 29 = .ok (.bipush 12, 2) := by decide +kernel
theorem dX1_init_31 : decode cX1_init 31 = .ok (.newarray .int, 2) := by decide +kernel
theorem dX1_init_33 : decode cX1_init 33 = .ok (.putfield 21, 3) := by decide +kernel
theorem dX1_init_36 : decode cX1_init 36 = .ok (.aload_n 0, 1) := by decide +kernel
theorem dX1_init_37 : decode cX1_init 37 = .ok (.bipush 12, 2) := by decide +kernel
theorem dX1_init_39 : decode cX1_init 39 = .ok (.newarray .int, 2) := by decide +kernel
theorem dX1_init_41 : decode cX1_init 41 = .ok (.putfield 24, 3) := by decide +kernel
theorem dX1_init_44 : decode cX1_init 44 = .ok (.return_, 1) := by decide +kernel
abbrev mX2_init : o_M := (yX2_init, cX2_init, 1, none)
theorem cbX2_init : o_CB mX2_init 0 := ⟨w_2_99, w_1_9, ⟨by decide, by decide, by decide +kernel⟩, rfl, Nat.le_of_ble_eq_true rfl⟩
theorem dX2_init_0 : decode cX2_init 0 = .ok (.aload_n 0, 1) := by decide +kernel
theorem dX2_init_1 : decode cX2_init 1 = .ok (.invokespecial 3, 3) := by decide +kernel
theorem dX2_init_4 : decode cX2_init 4 = .ok (.aload_n 0, 1) := by decide +kernel
theorem dX2_init_5 : decode cX2_init 5 = .ok (.bipush 60, 2) := by decide +kernel
theorem dX2_init_7 : decode cX2_init 7 = .ok (.newarray .int, 2) := by decide +kernel
theorem dX2_init_9 : decode cX2_init 9 = .ok (.putfield 9, 3) := by decide +kernel
theorem dX2_init_12 : decode cX2_init 12 = .ok (.return_, 1) := by decide +kernel
abbrev mX3_init : o_M := (yX3_init, cX3_init, 1, none)
theorem cbX3_init : o_CB mX3_init 0 := ⟨w_1_207, w_1_5, ⟨by decide, by decide, by decide +kernel⟩, rfl, Nat.le_of_ble_eq_true rfl⟩
theorem dX3_init_0 : decode cX3_init 0 = .ok (.aload_n 0, 1) := by decide +kernel
theorem dX3_init_1 : decode cX3_init 1 = .ok (.invokespecial 3, 3) := by decide +kernel
theorem dX3_init_4 : decode cX3_init 4 = .ok (.aload_n 0, 1) := by decide +kernel
theorem dX3_init_5 : decode cX3_init 5 = .ok (.bipush 60, 2) := by decide +kernel
theorem dX3_init_7 : decode cX3_init 7 = .ok (.newarray .int, 2) := by decide +kernel
theorem dX3_init_9 : decode cX3_init 9 = .ok (.putfield 9, 3) := by decide +kernel
theorem dX3_init_12 : decode cX3_init 12 = .ok (.aload_n 0, 1) := by decide +kernel
theorem dX3_init_13 : decode cX3_init 13 = .ok (.bipush 60, 2) := by decide +kernel
theorem dX3_init_15 : decode cX3_init 15 = .ok (.newarray .int, 2) := by decide +kernel
theorem dX3_init_17 : decode cX3_init 17 = .ok (.putfield 15, 3) := by decide +kernel
theorem dX3_init_20 : decode cX3_init 20 = .ok (.aload_n 0, 1) := by decide +kernel
theorem dX3_init_21 : decode cX3_init 21 = .ok (.bipush 60, 2) := by decide +kernel
theorem dX3_init_23 : decode cX3_init 23 = .ok (.newarray .int, 2) := by decide +kernel
theorem dX3_init_25 : decode cX3_init 25 = .ok (.putfield 18, 3) := by decide +kernel
theorem dX3_init_28 : decode cX3_init 28 = .ok (.aload_n 0, 1) := by decide +kernel
theorem dX3_init_29 : decode cX3_init 29 = .ok (.bipush 60, 2) := by decide +kernel
theorem dX3_init_31 : decode cX3_init 31 = .ok (.newarray .int, 2) := by decide +kernel
theorem dX3_init_33 : decode cX3_init 33 = .ok (.putfield 21, 3) := by decide +kernel
theorem dX3_init_36 : decode cX3_init 36 = .ok (.return_, 1) := by decide +kernel
abbrev mX4_init : o_M := (yX4_init, cX4_init, 1, none)
theorem cbX4_init : o_CB mX4_init 0 := ⟨w_2_8, w_1_6, ⟨by decide, by decide, by decide +kernel⟩, rfl, Nat.le_of_ble_eq_true rfl⟩
theorem dX4_init_0 : decode cX4_init 0 = .ok (.aload_n 0, 1) := by decide +kernel
theorem dX4_init_1 : decode cX4_init 1 = .ok (.invokespecial 3, 3) := by decide +kernel
theorem dX4_init_4 : decode cX4_init 4 = .ok (.aload_n 0, 1) := by decide +kernel
theorem dX4_init_5 : decode cX4_init 5 = .ok (.sipush 900, 3) := by decide +kernel
theorem dX4_init_8 : decode cX4_init 8 = .ok (.newarray .byte, 2) := by decide +kernel
theorem dX4_init_10 : decode cX4_init 10 = .ok (.putfield 9, 3) := by decide +kernel
theorem dX4_init_13 : decode cX4_init 13 = .ok (.aload_n 0, 1) := by decide +kernel
theorem dX4_init_14 : decode cX4_init 14 = .ok (.iconst (-1), 1) := by decide +kernel
theorem dX4_init_15 : decode cX4_init 15 = .ok (.putfield 15, 3) := by decide +kernel
theorem dX4_init_18 : decode cX4_init 18 = .ok (.aload_n 0, 1) := by decide +kernel
theorem dX4_init_19 : decode cX4_init 19 = .ok (.iconst (-1), 1) := by decide +kernel
theorem dX4_init_20 : decode cX4_init 20 = .ok (.putfield 19, 3) := by decide +kernel
theorem dX4_init_23 : decode cX4_init 23 = .ok (.return_, 1) := by decide +kernel
abbrev mX5_init : o_M := (yX5_init, cX5_init, 1, none)
theorem cbX5_init : o_CB mX5_init 0 := ⟨w_2_162, w_1_11, ⟨by decide, by decide, by decide +kernel⟩, rfl, Nat.le_of_ble_eq_true rfl⟩
theorem dX5_init_0 : decode cX5_init 0 = .ok (.aload_n 0, 1) := by decide +kernel
theorem dX5_init_1 : decode cX5_init 1 = .ok (.invokespecial 3, 3) := by decide +kernel
theorem dX5_init_4 : decode cX5_init 4 = .ok (.aload_n 0, 1) := by decide +kernel
theorem dX5_init_5 : decode cX5_init 5 = .ok (.new 9, 3) := by decide +kernel
theorem dX5_init_8 : decode cX5_init 8 = .ok (.dup, 1) := by decide +kernel
theorem dX5_init_9 : decode cX5_init 9 = .ok (.invokespecial 11, 3) := by decide +kernel
theorem dX5_init_12 : decode cX5_init 12 = .ok (.putfield 12, 3) := by decide +kernel
theorem dX5_init_15 : decode cX5_init 15 = .ok (.aload_n 0, 1) := by decide +kernel
theorem dX5_init_16 : decode cX5_init 16 = .ok (.bipush 13, 2) := by decide +kernel
theorem dX5_init_18 : decode cX5_init 18 = .ok (.newarray .long, 2) := by decide +kernel
theorem dX5_init_20 : decode cX5_init 20 = .ok (.putfield 18, 3) := by decide +kernel
theorem dX5_init_23 : decode cX5_init 23 = .ok (.return_, 1) := by decide +kernel
abbrev mX6_init : o_M := (yX6_init, cX6_init, 1, none)
theorem cbX6_init : o_CB mX6_init 0 := ⟨w_2_136, w_1_10, ⟨by decide, by decide, by decide +kernel⟩, rfl, Nat.le_of_ble_eq_true rfl⟩
theorem dX6_init_0 : decode cX6_init 0 = .ok (.aload_n 0, 1) := by decide +kernel
theorem dX6_init_1 : decode cX6_init 1 = .ok (.invokespecial 3, 3) := by decide +kernel
theorem dX6_init_4 : decode cX6_init 4 = .ok (.aload_n 0, 1) := by decide +kernel
theorem dX6_init_5 : decode cX6_init 5 = .ok (.bipush 6, 2) := by decide +kernel
theorem dX6_init_7 : decode cX6_init 7 = .ok (.newarray .int, 2) := by decide +kernel
theorem dX6_init_9 : decode cX6_init 9 = .ok (.putfield 9, 3) := by decide +kernel
theorem dX6_init_12 : decode cX6_init 12 = .ok (.aload_n 0, 1) := by decide +kernel
theorem dX6_init_13 : decode cX6_init 13 = .ok (.bipush 36, 2) := by decide +kernel
theorem dX6_init_15 : decode cX6_init 15 = .ok (.newarray .int, 2) := by decide +kernel
theorem dX6_init_17 : decode cX6_init 17 = .ok (.putfield 15, 3) := by decide +kernel
theorem dX6_init_20 : decode cX6_init 20 = .ok (.return_, 1) := by decide +kernel
abbrev mX7_init : o_M := (yX7_init, cX7_init, 1, none)
theorem cbX7_init : o_CB mX7_init 0 := ⟨w_1_35, w_1_2, ⟨by decide, by decide, by decide +kernel⟩, rfl, Nat.le_of_ble_eq_true rfl⟩
theorem dX7_init_0 : decode cX7_init 0 = .ok (.aload_n 0, 1) := by decide +kernel
theorem dX7_init_1 : decode cX7_init 1 = .ok (.invokespecial 3, 3) := by decide +kernel
theorem dX7_init_4 : decode cX7_init 4 = .ok (.aload_n 0, 1) := by decide +kernel
theorem dX7_init_5 : decode cX7_init 5 = .ok (.bipush 60, 2) := by decide +kernel
theorem dX7_init_7 : decode cX7_init 7 = .ok (.newarray .long, 2) := by decide +kernel
theorem dX7_init_9 : decode cX7_init 9 = .ok (.putfield 9, 3) := by decide +kernel
theorem dX7_init_12 : decode cX7_init 12 = .ok (.return_, 1) := by decide +kernel
abbrev mX8_init : o_M := (yX8_init, cX8_init, 1, none)
theorem cbX8_init : o_CB mX8_init 0 := ⟨w_1_60, w_1_3, ⟨by decide, by decide, by decide +kernel⟩, rfl, Nat.le_of_ble_eq_true rfl⟩
theorem dX8_init_0 : decode cX8_init 0 = .ok (.aload_n 0, 1) := by decide +kernel
theorem dX8_init_1 : decode cX8_init 1 = .ok (.invokespecial 3, 3) := by decide +kernel
theorem dX8_init_4 : decode cX8_init 4 = .ok (.aload_n 0, 1) := by decide +kernel
theorem dX8_init_5 : decode cX8_init 5 = .ok (.iconst 4, 1) := by decide +kernel
theorem dX8_init_6 : decode cX8_init 6 = .ok (.putfield 9, 3) := by decide +kernel
theorem dX8_init_9 : decode cX8_init 9 = .ok (.aload_n 0, 1) := by decide +kernel
theorem dX8_init_10 : decode cX8_init 10 = .ok (.bipush 6, 2) := by decide +kernel
theorem dX8_init_12 : decode cX8_init 12 = .ok (.newarray .int, 2) := by decide +kernel
theorem dX8_init_14 : decode cX8_init 14 = .ok (.putfield 15, 3) := by decide +kernel
theorem dX8_init_17 : decode cX8_init 17 = .ok (.aload_n 0, 1) := by decide +kernel
theorem dX8_init_18 : decode cX8_init 18 = .ok (.bipush 6, 2) := by decide +kernel
theorem dX8_init_20 : decode cX8_init 20 = .ok (.newarray .int, 2) := by decide +kernel
theorem dX8_init_22 : decode cX8_init 22 = .ok (.putfield 19, 3) := by decide +kernel
theorem dX8_init_25 : decode cX8_init 25 = .ok (.aload_n 0, 1) := by decide +kernel
theorem dX8_init_26 : decode cX8_init 26 = .ok (.bipush 6, 2) := by decide +kernel
theorem dX8_init_28 : decode cX8_init 28 = .ok (.newarray .int, 2) := by decide +kernel
theorem dX8_init_30 : decode cX8_init 30 = .ok (.putfield 22, 3) := by decide +kernel
theorem dX8_init_33 : decode cX8_init 33 = .ok (.aload_n 0, 1) := by decide +kernel
theorem dX8_init_34 : decode cX8_init 34 = .ok (.bipush 48, 2) := by decide +kernel
theorem dX8_init_36 : decode cX8_init 36 = .ok (.newarray .int, 2) := by decide +kernel
theorem dX8_init_38 : decode cX8_init 38 = .ok (.putfield 25, 3) := by decide +kernel
theorem dX8_init_41 : decode cX8_init 41 = .ok (.aload_n 0, 1) := by decide +kernel
theorem dX8_init_42 : decode cX8_init 42 = .ok (.bipush 36, 2) := by decide +kernel
theorem dX8_init_44 : decode cX8_init 44 = .ok (.newarray .int, 2) := by decide +kernel
theorem dX8_init_46 : decode cX8_init 46 = .ok (.putfield 28, 3) := by decide +kernel
theorem dX8_init_49 : decode cX8_init 49 = .ok (.aload_n 0, 1) := by decide +kernel
theorem dX8_init_50 : decode cX8_init 50 = .ok (.bipush 36, 2) := by decide +kernel
theorem dX8_init_52 : decode cX8_init 52 = .ok (.newarray .int, 2) := by decide +kernel
theorem dX8_init_54 : decode cX8_init 54 = .ok (.putfield 31, 3) := by decide +kernel
theorem dX8_init_57 : decode cX8_init 57 = .ok (.aload_n 0, 1) := by decide +kernel
theorem dX8_init_58 : decode cX8_init 58 = .ok (.new 34, 3) := by decide +kernel
theorem dX8_init_61 : decode cX8_init 61 = .ok (.dup, 1) := by decide +kernel
theorem dX8_init_62 : decode cX8_init 62 = .ok (.invokespecial 36, 3) := by decide +kernel
theorem dX8_init_65 : decode cX8_init 65 = .ok (.putfield 37, 3) := by decide +kernel
theorem dX8_init_68 : decode cX8_init 68 = .ok (.aload_n 0, 1) := by decide +kernel
theorem dX8_init_69 : decode cX8_init 69 = .ok (.new 34, 3) := by decide +kernel
theorem dX8_init_72 : decode cX8_init 72 = .ok (.dup, 1) := by decide +kernel
theorem dX8_init_73 : decode cX8_init 73 = .ok (.invokespecial 36, 3) := by decide +kernel
theorem dX8_init_76 : decode cX8_init 76 = .ok (.putfield 41, 3) := by decide +kernel
theorem dX8_init_79 : decode cX8_init 79 = .ok (.aload_n 0, 1) := by decide +kernel
theorem dX8_init_80 : decode cX8_init 80 = .ok (.bipush 18, 2) := by decide +kernel
theorem dX8_init_82 : decode cX8_init 82 = .ok (.newarray .long, 2) := by decide +kernel
theorem dX8_init_84 : decode cX8_init 84 = .ok (.putfield 44, 3) := by decide +kernel
theorem dX8_init_87 : decode cX8_init 87 = .ok (.return_, 1) := by decide +kernel
abbrev mX9_init : o_M := (yX9_init, cX9_init, 3, none)
theorem cbX9_init : o_CB mX9_init 2 := ⟨w_2_61, w_1_7, ⟨by decide, by decide, by decide +kernel⟩, rfl, Nat.le_of_ble_eq_true rfl⟩
theorem dX9_init_0 : decode cX9_init 0 = .ok (.aload_n 0, 1) := by decide +kernel
theorem dX9_init_1 : decode cX9_init 1 = .ok (.invokespecial 3, 3) := by decide +kernel
theorem dX9_init_4 : decode cX9_init 4 = .ok (.aload_n 0, 1) := by decide +kernel
theorem dX9_init_5 : decode cX9_init 5 = .ok (.aload_n 1, 1) := by decide +kernel
theorem dX9_init_6 : decode cX9_init 6 = .ok (.putfield 9, 3) := by decide +kernel
theorem dX9_init_9 : decode cX9_init 9 = .ok (.aload_n 0, 1) := by decide +kernel
theorem dX9_init_10 : decode cX9_init 10 = .ok (.aload_n 2, 1) := by decide +kernel
theorem dX9_init_11 : decode cX9_init 11 = .ok (.putfield 15, 3) := by decide +kernel
theorem dX9_init_14 : decode cX9_init 14 = .ok (.return_, 1) := by decide +kernel
abbrev mX10_init : o_M := (yX10_init, cX10_init, 4, none)
theorem cbX10_init : o_CB mX10_init 3 := ⟨w_2_77, w_1_8, ⟨by decide, by decide, by decide +kernel⟩, rfl, Nat.le_of_ble_eq_true rfl⟩
theorem dX10_init_0 : decode cX10_init 0 = .ok (.aload_n 0, 1) := by decide +kernel
theorem dX10_init_1 : decode cX10_init 1 = .ok (.invokespecial 3, 3) := by decide +kernel
theorem dX10_init_4 : decode cX10_init 4 = .ok (.aload_n 0, 1) := by decide +kernel
theorem dX10_init_5 : decode cX10_init 5 = .ok (.iconst 3, 1) := by decide +kernel
theorem dX10_init_6 : decode cX10_init 6 = .ok (.newarray .int, 2) := by decide +kernel
theorem dX10_init_8 : decode cX10_init 8 = .ok (.putfield 9, 3) := by decide +kernel
theorem dX10_init_11 : decode cX10_init 11 = .ok (.aload_n 0, 1) := by decide +kernel
theorem dX10_init_12 : decode cX10_init 12 = .ok (.aload_n 1, 1) := by decide +kernel
theorem dX10_init_13 : decode cX10_init 13 = .ok (.putfield 15, 3) := by decide +kernel
theorem dX10_init_16 : decode cX10_init 16 = .ok (.aload_n 0, 1) := by decide +kernel
theorem dX10_init_17 : decode cX10_init 17 = .ok (.aload_n 2, 1) := by decide +kernel
theorem dX10_init_18 : decode cX10_init 18 = .ok (.putfield 19, 3) := by decide +kernel
theorem dX10_init_21 : decode cX10_init 21 = .ok (.aload_n 0, 1) := by decide +kernel
theorem dX10_init_22 : decode cX10_init 22 = .ok (.aload_n 3, 1) := by decide +kernel
theorem dX10_init_23 : decode cX10_init 23 = .ok (.putfield 23, 3) := by decide +kernel
theorem dX10_init_26 : decode cX10_init 26 = .ok (.return_, 1) := by decide +kernel
abbrev mX11_init : o_M := (yX11_init, cX11_init, 2, none)
theorem cbX11_init : o_CB mX11_init 0 := ⟨w_1_26, w_1_1, ⟨by decide, by decide, by decide +kernel⟩, rfl, Nat.le_of_ble_eq_true rfl⟩
theorem dX11_init_0 : decode cX11_init 0 = .ok (.aload_n 0, 1) := by decide +kernel
theorem dX11_init_1 : decode cX11_init 1 = .ok (.invokespecial 3, 3) := by decide +kernel
theorem dX11_init_4 : decode cX11_init 4 = .ok (.aload_n 0, 1) := by decide +kernel
theorem dX11_init_5 : decode cX11_init 5 = .ok (.lconst 1, 1) := by decide +kernel
theorem dX11_init_6 : decode cX11_init 6 = .ok (.putfield 9, 3) := by decide +kernel
theorem dX11_init_9 : decode cX11_init 9 = .ok (.aload_n 0, 1) := by decide +kernel
theorem dX11_init_10 : decode cX11_init 10 = .ok (.iconst 4, 1) := by decide +kernel
theorem dX11_init_11 : decode cX11_init 11 = .ok (.anewarray 13, 3) := by decide +kernel
theorem dX11_init_14 : decode cX11_init 14 = .ok (.putfield 15, 3) := by decide +kernel
theorem dX11_init_17 : decode cX11_init 17 = .ok (.iconst 0, 1) := by decide +kernel
theorem dX11_init_18 : decode cX11_init 18 = .ok (.istore_n 1, 1) := by decide +kernel
theorem dX11_init_19 : decode cX11_init 19 = .ok (.iload_n 1, 1) := by decide +kernel
theorem dX11_init_20 : decode cX11_init 20 = .ok (.iconst 4, 1) := by decide +kernel
theorem dX11_init_21 : decode cX11_init 21 = .ok (.if_icmp .ge 22, 3) := by decide +kernel
theorem dX11_init_24 : decode cX11_init 24 = .ok (.aload_n 0, 1) := by decide +kernel
theorem dX11_init_25 : decode cX11_init 25 = .ok (.getfield 15, 3) := by decide +kernel
theorem dX11_init_28 : decode cX11_init 28 = .ok (.iload_n 1, 1) := by decide +kernel
theorem dX11_init_29 : decode cX11_init 29 = .ok (.new 13, 3) := by decide +kernel
theorem dX11_init_32 : decode cX11_init 32 = .ok (.dup, 1) := by decide +kernel
theorem dX11_init_33 : decode cX11_init 33 = .ok (.invokespecial 19, 3) := by decide +kernel
theorem dX11_init_36 : decode cX11_init 36 = .ok (.aastore, 1) := by decide +kernel
theorem dX11_init_37 : decode cX11_init 37 = .ok (.iinc 1 1, 3) := by decide +kernel
theorem dX11_init_40 : decode cX11_init 40 = .ok (.goto (-21), 3) := by decide +kernel
theorem dX11_init_43 : decode cX11_init 43 = .ok (.aload_n 0, 1) := by decide +kernel
theorem dX11_init_44 : decode cX11_init 44 = .ok (.new 20, 3) := by decide +kernel
theorem dX11_init_47 : decode cX11_init 47 = .ok (.dup, 1) := by decide +kernel
theorem dX11_init_48 : decode cX11_init 48 = .ok (.invokespecial 22, 3) := by decide +kernel
theorem dX11_init_51 : decode cX11_init 51 = .ok (.putfield 23, 3) := by decide +kernel
theorem dX11_init_54 : decode cX11_init 54 = .ok (.aload_n 0, 1) := by decide +kernel
theorem dX11_init_55 : decode cX11_init 55 = .ok (.new 20, 3) := by decide +kernel
theorem dX11_init_58 : decode cX11_init 58 = .ok (.dup, 1) := by decide +kernel
theorem dX11_init_59 : decode cX11_init 59 = .ok (.invokespecial 22, 3) := by decide +kernel
theorem dX11_init_62 : decode cX11_init 62 = .ok (.putfield 27, 3) := by decide +kernel
theorem dX11_init_65 : decode cX11_init 65 = .ok (.aload_n 0, 1) := by decide +kernel
theorem dX11_init_66 : decode cX11_init 66 = .ok (.new 30, 3) := by decide +kernel
theorem dX11_init_69 : decode cX11_init 69 = .ok (.dup, 1) := by decide +kernel
theorem dX11_init_70 : decode cX11_init 70 = .ok (.invokespecial 32, 3) := by decide +kernel
theorem dX11_init_73 : decode cX11_init 73 = .ok (.putfield 33, 3) := by decide +kernel
theorem dX11_init_76 : decode cX11_init 76 = .ok (.aload_n 0, 1) := by decide +kernel
theorem dX11_init_77 : decode cX11_init 77 = .ok (.new 30, 3) := by decide +kernel
theorem dX11_init_80 : decode cX11_init 80 = .ok (.dup, 1) := by decide +kernel
theorem dX11_init_81 : decode cX11_init 81 = .ok (.invokespecial 32, 3) := by decide +kernel
theorem dX11_init_84 : decode cX11_init 84 = .ok (.putfield 37, 3) := by decide +kernel
theorem dX11_init_87 : decode cX11_init 87 = .ok (.aload_n 0, 1) := by decide +kernel
theorem dX11_init_88 : decode cX11_init 88 = .ok (.iconst 3, 1) := by decide +kernel
theorem dX11_init_89 : decode cX11_init 89 = .ok (.anewarray 20, 3) := by decide +kernel
theorem dX11_init_92 : decode cX11_init 92 = .ok (.putfield 40, 3) := by decide +kernel
theorem dX11_init_95 : decode cX11_init 95 = .ok (.aload_n 0, 1) := by decide +kernel
theorem dX11_init_96 : decode cX11_init 96 = .ok (.iconst 3, 1) := by decide +kernel
theorem dX11_init_97 : decode cX11_init 97 = .ok (.anewarray 30, 3) := by decide +kernel
theorem dX11_init_100 : decode cX11_init 100 = .ok (.putfield 44, 3) := by decide +kernel
theorem dX11_init_103 : decode cX11_init 103 = .ok (.iconst 0, 1) := by decide +kernel
theorem dX11_init_104 : decode cX11_init 104 = .ok (.istore_n 1, 1) := by decide +kernel
theorem dX11_init_105 : decode cX11_init 105 = .ok (.iload_n 1, 1) := by decide +kernel
theorem dX11_init_106 : decode cX11_init 106 = .ok (.iconst 3, 1) := by decide +kernel
theorem dX11_init_107 : decode cX11_init 107 = .ok (.if_icmp .ge 35, 3) := by decide +kernel
theorem dX11_init_110 : decode cX11_init 110 = .ok (.aload_n 0, 1) := by decide +kernel
theorem dX11_init_111 : decode cX11_init 111 = .ok (.getfield 40, 3) := by decide +kernel
theorem dX11_init_114 : decode cX11_init 114 = .ok (.iload_n 1, 1) := by decide +kernel
theorem dX11_init_115 : decode cX11_init 115 = .ok (.new 20, 3) := by decide +kernel
theorem dX11_init_118 : decode cX11_init 118 = .ok (.dup, 1) := by decide +kernel
theorem dX11_init_119 : decode cX11_init 119 = .ok (.invokespecial 22, 3) := by decide +kernel
theorem dX11_init_122 : decode cX11_init 122 = .ok (.aastore, 1) := by decide +kernel
theorem dX11_init_123 : decode cX11_init 123 = .ok (.aload_n 0, 1) := by decide +kernel
theorem dX11_init_124 : decode cX11_init 124 = .ok (.getfield 44, 3) := by decide +kernel
theorem dX11_init_127 : decode cX11_init 127 = .ok (.iload_n 1, 1) := by decide +kernel
theorem dX11_init_128 : decode cX11_init 128 = .ok (.new 30, 3) := by decide +kernel
theorem dX11_init_131 : decode cX11_init 131 = .ok (.dup, 1) := by decide +kernel
theorem dX11_init_132 : decode cX11_init 132 = .ok (.invokespecial 32, 3) := by decide +kernel
theorem dX11_init_135 : decode cX11_init 135 = .ok (.aastore, 1) := by decide +kernel
theorem dX11_init_136 : decode cX11_init 136 = .ok (.iinc 1 1, 3) := by decide +kernel
theorem dX11_init_139 : decode cX11_init 139 = .ok (.goto (-34), 3) := by decide +kernel
theorem dX11_init_142 : decode cX11_init 142 = .ok (.aload_n 0, 1) := by decide +kernel
theorem dX11_init_143 : decode cX11_init 143 = .ok (.new 48, 3) := by decide +kernel
theorem dX11_init_146 : decode cX11_init 146 = .ok (.dup, 1) := by decide +kernel
theorem dX11_init_147 : decode cX11_init 147 = .ok (.invokespecial 50, 3) := by decide +kernel
theorem dX11_init_150 : decode cX11_init 150 = .ok (.putfield 51, 3) := by decide +kernel
theorem dX11_init_153 : decode cX11_init 153 = .ok (.aload_n 0, 1) := by decide +kernel
theorem dX11_init_154 : decode cX11_init 154 = .ok (.new 55, 3) := by decide +kernel
theorem dX11_init_157 : decode cX11_init 157 = .ok (.dup, 1) := by decide +kernel
theorem dX11_init_158 : decode cX11_init 158 = .ok (.aload_n 0, 1) := by decide +kernel
theorem dX11_init_159 : decode cX11_init 159 = .ok (.getfield 51, 3) := by decide +kernel
theorem dX11_init_162 : decode cX11_init 162 = .ok (.aload_n 0, 1) := by decide +kernel
theorem dX11_init_163 : decode cX11_init 163 = .ok (.getfield 27, 3) := by decide +kernel
theorem dX11_init_166 : decode cX11_init 166 = .ok (.invokespecial 57, 3) := by decide +kernel
theorem dX11_init_169 : decode cX11_init 169 = .ok (.putfield 60, 3) := by decide +kernel
theorem dX11_init_172 : decode cX11_init 172 = .ok (.aload_n 0, 1) := by decide +kernel
theorem dX11_init_173 : decode cX11_init 173 = .ok (.new 64, 3) := by decide +kernel
theorem dX11_init_176 : decode cX11_init 176 = .ok (.dup, 1) := by decide +kernel
theorem dX11_init_177 : decode cX11_init 177 = .ok (.aload_n 0, 1) := by decide +kernel
theorem dX11_init_178 : decode cX11_init 178 = .ok (.getfield 51, 3) := by decide +kernel
theorem dX11_init_181 : decode cX11_init 181 = .ok (.aload_n 0, 1) := by decide +kernel
theorem dX11_init_182 : decode cX11_init 182 = .ok (.getfield 23, 3) := by decide +kernel
theorem dX11_init_185 : decode cX11_init 185 = .ok (.aload_n 0, 1) := by decide +kernel
theorem dX11_init_186 : decode cX11_init 186 = .ok (.getfield 37, 3) := by decide +kernel
theorem dX11_init_189 : decode cX11_init 189 = .ok (.invokespecial 66, 3) := by decide +kernel
theorem dX11_init_192 : decode cX11_init 192 = .ok (.putfield 69, 3) := by decide +kernel
theorem dX11_init_195 : decode cX11_init 195 = .ok (.aload_n 0, 1) := by decide +kernel
theorem dX11_init_196 : decode cX11_init 196 = .ok (.new 73, 3) := by decide +kernel
theorem dX11_init_199 : decode cX11_init 199 = .ok (.dup, 1) := by decide +kernel
theorem dX11_init_200 : decode cX11_init 200 = .ok (.invokespecial 75, 3) := by decide +kernel
theorem dX11_init_203 : decode cX11_init 203 = .ok (.putfield 76, 3) := by decide +kernel
theorem dX11_init_206 : decode cX11_init 206 = .ok (.aload_n 0, 1) := by decide +kernel
theorem dX11_init_207 : decode cX11_init 207 = .ok (.iconst 5, 1) := by decide +kernel
theorem dX11_init_208 : decode cX11_init 208 = .ok (.newarray .int, 2) := by decide +kernel
theorem dX11_init_210 : decode cX11_init 210 = .ok (.putfield 80, 3) := by decide +kernel
theorem dX11_init_213 : decode cX11_init 213 = .ok (.aload_n 0, 1) := by decide +kernel
theorem dX11_init_214 : decode cX11_init 214 = .ok (.getfield 80, 3) := by decide +kernel
theorem dX11_init_217 : decode cX11_init 217 = .ok (.iconst 0, 1) := by decide +kernel
theorem dX11_init_218 : decode cX11_init 218 = .ok (.iconst (-1), 1) := by decide +kernel
theorem dX11_init_219 : decode cX11_init 219 = .ok (.iastore, 1) := by decide +kernel
theorem dX11_init_220 : decode cX11_init 220 = .ok (.aload_n 0, 1) := by decide +kernel
theorem dX11_init_221 : decode cX11_init 221 = .ok (.new 84, 3) := by decide +kernel
theorem dX11_init_224 : decode cX11_init 224 = .ok (.dup, 1) := by decide +kernel
theorem dX11_init_225 : decode cX11_init 225 = .ok (.invokespecial 86, 3) := by decide +kernel
theorem dX11_init_228 : decode cX11_init 228 = .ok (.putfield 87, 3) := by decide +kernel
theorem dX11_init_231 : decode cX11_init 231 = .ok (.aload_n 0, 1) := by decide +kernel
theorem dX11_init_232 : decode cX11_init 232 = .ok (.new 91, 3) := by decide +kernel
theorem dX11_init_235 : decode cX11_init 235 = .ok (.dup, 1) := by decide +kernel
theorem dX11_init_236 : decode cX11_init 236 = .ok (.invokespecial 93, 3) := by decide +kernel
theorem dX11_init_239 : decode cX11_init 239 = .ok (.putfield 94, 3) := by decide +kernel
theorem dX11_init_242 : decode cX11_init 242 = .ok (.aload_n 0, 1) := by decide +kernel
theorem dX11_init_243 : decode cX11_init 243 = .ok (.new 98, 3) := by decide +kernel
theorem dX11_init_246 : decode cX11_init 246 = .ok (.dup, 1) := by decide +kernel
theorem dX11_init_247 : decode cX11_init 247 = .ok (.invokespecial 100, 3) := by decide +kernel
theorem dX11_init_250 : decode cX11_init 250 = .ok (.putfield 101, 3) := by decide +kernel
theorem dX11_init_253 : decode cX11_init 253 = .ok (.return_, 1) := by decide +kernel
abbrev mX12_init : o_M := (yX12_init, cX12_init, 1, none)
theorem cbX12_init : o_CB mX12_init 0 := ⟨w_6_110, w_1_13, ⟨by decide, by decide, by decide +kernel⟩, rfl, Nat.le_of_ble_eq_true rfl⟩
theorem dX12_init_0 : decode cX12_init 0 = .ok (.aload_n 0, 1) := by decide +kernel
theorem dX12_init_1 : decode cX12_init 1 = .ok (.invokespecial 1, 3) := by decide +kernel
theorem dX12_init_4 : decode cX12_init 4 = .ok (.aload_n 0, 1) := by decide +kernel
theorem dX12_init_5 : decode cX12_init 5 = .ok (.sipush 3756, 3) := by decide +kernel
theorem dX12_init_8 : decode cX12_init 8 = .ok (.newarray .int, 2) := by decide +kernel
theorem dX12_init_10 : decode cX12_init 10 = .ok (.putfield 7, 3) := by decide +kernel
theorem dX12_init_13 : decode cX12_init 13 = .ok (.aload_n 0, 1) := by decide +kernel
theorem dX12_init_14 : decode cX12_init 14 = .ok (.bipush 96, 2) := by decide +kernel
theorem dX12_init_16 : decode cX12_init 16 = .ok (.newarray .long, 2) := by decide +kernel
theorem dX12_init_18 : decode cX12_init 18 = .ok (.putfield 13, 3) := by decide +kernel
theorem dX12_init_21 : decode cX12_init 21 = .ok (.aload_n 0, 1) := by decide +kernel
theorem dX12_init_22 : decode cX12_init 22 = .ok (.lconst 1, 1) := by decide +kernel
theorem dX12_init_23 : decode cX12_init 23 = .ok (.putfield 17, 3) := by decide +kernel
theorem dX12_init_26 : decode cX12_init 26 = .ok (.aload_n 0, 1) := by decide +kernel
theorem dX12_init_27 : decode cX12_init 27 = .ok (.iconst 4, 1) := by decide +kernel
theorem dX12_init_28 : decode cX12_init 28 = .ok (.newarray .int, 2) := by decide +kernel
theorem dX12_init_30 : decode cX12_init 30 = .ok (.putfield 21, 3) := by decide +kernel
theorem dX12_init_33 : decode cX12_init 33 = .ok (.aload_n 0, 1) := by decide +kernel
theorem dX12_init_34 : decode cX12_init 34 = .ok (.iconst 4, 1) := by decide +kernel
theorem dX12_init_35 : decode cX12_init 35 = .ok (.newarray .int, 2) := by decide +kernel
theorem dX12_init_37 : decode cX12_init 37 = .ok (.dup, 1) := by decide +kernel
theorem dX12_init_38 : decode cX12_init 38 = .ok (.iconst 0, 1) := by decide +kernel
theorem dX12_init_39 : decode cX12_init 39 = .ok (.iconst (-1), 1) := by decide +kernel
theorem dX12_init_40 : decode cX12_init 40 = .ok (.iastore, 1) := by decide +kernel
theorem dX12_init_41 : decode cX12_init 41 = .ok (.dup, 1) := by decide +kernel
theorem dX12_init_42 : decode cX12_init 42 = .ok (.iconst 1, 1) := by decide +kernel
theorem dX12_init_43 : decode cX12_init 43 = .ok (.iconst (-1), 1) := by decide +kernel
theorem dX12_init_44 : decode cX12_init 44 = .ok (.iastore, 1) := by decide +kernel
theorem dX12_init_45 : decode cX12_init 45 = .ok (.dup, 1) := by decide +kernel
theorem dX12_init_46 : decode cX12_init 46 = .ok (.iconst 2, 1) := by decide +kernel
theorem dX12_init_47 : decode cX12_init 47 = .ok (.iconst (-1), 1) := by decide +kernel
theorem dX12_init_48 : decode cX12_init 48 = .ok (.iastore, 1) := by decide +kernel
theorem dX12_init_49 : decode cX12_init 49 = .ok (.dup, 1) := by decide +kernel
theorem dX12_init_50 : decode cX12_init 50 = .ok (.iconst 3, 1) := by decide +kernel
theorem dX12_init_51 : decode cX12_init 51 = .ok (.iconst (-1), 1) := by decide +kernel
theorem dX12_init_52 : decode cX12_init 52 = .ok (.iastore, 1) := by decide +kernel
theorem dX12_init_53 : decode cX12_init 53 = .ok (.putfield 24, 3) := by decide +kernel
theorem dX12_init_56 : decode cX12_init 56 = .ok (.aload_n 0, 1) := by decide +kernel
theorem dX12_init_57 : decode cX12_init 57 = .ok (.sipush 240, 3) := by decide +kernel
theorem dX12_init_60 : decode cX12_init 60 = .ok (.newarray .long, 2) := by decide +kernel
theorem dX12_init_62 : decode cX12_init 62 = .ok (.putfield 27, 3) := by decide +kernel
theorem dX12_init_65 : decode cX12_init 65 = .ok (.aload_n 0, 1) := by decide +kernel
theorem dX12_init_66 : decode cX12_init 66 = .ok (.sipush 900, 3) := by decide +kernel
theorem dX12_init_69 : decode cX12_init 69 = .ok (.newarray .byte, 2) := by decide +kernel
theorem dX12_init_71 : decode cX12_init 71 = .ok (.putfield 30, 3) := by decide +kernel
theorem dX12_init_74 : decode cX12_init 74 = .ok (.aload_n 0, 1) := by decide +kernel
theorem dX12_init_75 : decode cX12_init 75 = .ok (.sipush 900, 3) := by decide +kernel
theorem dX12_init_78 : decode cX12_init 78 = .ok (.newarray .byte, 2) := by decide +kernel
theorem dX12_init_80 : decode cX12_init 80 = .ok (.putfield 34, 3) := by decide +kernel
theorem dX12_init_83 : decode cX12_init 83 = .ok (.aload_n 0, 1) := by decide +kernel
theorem dX12_init_84 : decode cX12_init 84 = .ok (.iconst (-1), 1) := by decide +kernel
theorem dX12_init_85 : decode cX12_init 85 = .ok (.putfield 37, 3) := by decide +kernel
theorem dX12_init_88 : decode cX12_init 88 = .ok (.aload_n 0, 1) := by decide +kernel
theorem dX12_init_89 : decode cX12_init 89 = .ok (.iconst (-1), 1) := by decide +kernel
theorem dX12_init_90 : decode cX12_init 90 = .ok (.putfield 41, 3) := by decide +kernel
theorem dX12_init_93 : decode cX12_init 93 = .ok (.aload_n 0, 1) := by decide +kernel
theorem dX12_init_94 : decode cX12_init 94 = .ok (.iconst 3, 1) := by decide +kernel
theorem dX12_init_95 : decode cX12_init 95 = .ok (.newarray .int, 2) := by decide +kernel
theorem dX12_init_97 : decode cX12_init 97 = .ok (.putfield 44, 3) := by decide +kernel
theorem dX12_init_100 : decode cX12_init 100 = .ok (.aload_n 0, 1) := by decide +kernel
theorem dX12_init_101 : decode cX12_init 101 = .ok (.bipush 6, 2) := by decide +kernel
theorem dX12_init_103 : decode cX12_init 103 = .ok (.newarray .int, 2) := by decide +kernel
theorem dX12_init_105 : decode cX12_init 105 = .ok (.putfield 47, 3) := by decide +kernel
theorem dX12_init_108 : decode cX12_init 108 = .ok (.aload_n 0, 1) := by decide +kernel
theorem dX12_init_109 : decode cX12_init 109 = .ok (.bipush 36, 2) := by decide +kernel
theorem dX12_init_111 : decode cX12_init 111 = .ok (.newarray .int, 2) := by decide +kernel
theorem dX12_init_113 : decode cX12_init 113 = .ok (.putfield 50, 3) := by decide +kernel
theorem dX12_init_116 : decode cX12_init 116 = .ok (.aload_n 0, 1) := by decide +kernel
theorem dX12_init_117 : decode cX12_init 117 = .ok (.bipush 13, 2) := by decide +kernel
theorem dX12_init_119 : decode cX12_init 119 = .ok (.newarray .long, 2) := by decide +kernel
theorem dX12_init_121 : decode cX12_init 121 = .ok (.putfield 53, 3) := by decide +kernel
theorem dX12_init_124 : decode cX12_init 124 = .ok (.aload_n 0, 1) := by decide +kernel
theorem dX12_init_125 : decode cX12_init 125 = .ok (.iconst 3, 1) := by decide +kernel
theorem dX12_init_126 : decode cX12_init 126 = .ok (.newarray .int, 2) := by decide +kernel
theorem dX12_init_128 : decode cX12_init 128 = .ok (.putfield 56, 3) := by decide +kernel
theorem dX12_init_131 : decode cX12_init 131 = .ok (.aload_n 0, 1) := by decide +kernel
theorem dX12_init_132 : decode cX12_init 132 = .ok (.iconst 4, 1) := by decide +kernel
theorem dX12_init_133 : decode cX12_init 133 = .ok (.newarray .int, 2) := by decide +kernel
theorem dX12_init_135 : decode cX12_init 135 = .ok (.putfield 59, 3) := by decide +kernel
theorem dX12_init_138 : decode cX12_init 138 = .ok (.aload_n 0, 1) := by decide +kernel
theorem dX12_init_139 : decode cX12_init 139 = .ok (.iconst 4, 1) := by decide +kernel
theorem dX12_init_140 : decode cX12_init 140 = .ok (.newarray .int, 2) := by decide +kernel
theorem dX12_init_142 : decode cX12_init 142 = .ok (.putfield 62, 3) := by decide +kernel
theorem dX12_init_145 : decode cX12_init 145 = .ok (.aload_n 0, 1) := by decide +kernel
theorem dX12_init_146 : decode cX12_init 146 = .ok (.iconst 4, 1) := by decide +kernel
theorem dX12_init_147 : decode cX12_init 147 = .ok (.newarray .int, 2) := by decide +kernel
theorem dX12_init_149 : decode cX12_init 149 = .ok (.putfield 65, 3) := by decide +kernel
theorem dX12_init_152 : decode cX12_init 152 = .ok (.aload_n 0, 1) := by decide +kernel
theorem dX12_init_153 : decode cX12_init 153 = .ok (.bipush 80, 2) := by decide +kernel
theorem dX12_init_155 : decode cX12_init 155 = .ok (.newarray .int, 2) := by decide +kernel
theorem dX12_init_157 : decode cX12_init 157 = .ok (.putfield 68, 3) := by decide +kernel
theorem dX12_init_160 : decode cX12_init 160 = .ok (.aload_n 0, 1) := by decide +kernel
theorem dX12_init_161 : decode cX12_init 161 = .ok (.iconst 5, 1) := by decide +kernel
theorem dX12_init_162 : decode cX12_init 162 = .ok (.newarray .int, 2) := by decide +kernel
theorem dX12_init_164 : decode cX12_init 164 = .ok (.putfield 71, 3) := by decide +kernel
theorem dX12_init_167 : decode cX12_init 167 = .ok (.aload_n 0, 1) := by decide +kernel
theorem dX12_init_168 : decode cX12_init 168 = .ok (.iconst 5, 1) := by decide +kernel
theorem dX12_init_169 : decode cX12_init 169 = .ok (.newarray .int, 2) := by decide +kernel
theorem dX12_init_171 : decode cX12_init 171 = .ok (.putfield 74, 3) := by decide +kernel
theorem dX12_init_174 : decode cX12_init 174 = .ok (.aload_n 0, 1) := by decide +kernel
theorem dX12_init_175 : decode cX12_init 175 = .ok (.iconst 0, 1) := by decide +kernel
theorem dX12_init_176 : decode cX12_init 176 = .ok (.invokevirtual 77, 3) := by decide +kernel
theorem dX12_init_179 : decode cX12_init 179 = .ok (.return_, 1) := by decide +kernel
theorem ffX0_9 : n_FF "OddCancel$Brothers" 9 0 1 (tyX0 1) := ⟨_, TX0, _, tyX0, rfl, Nat.le_of_ble_eq_true rfl, inX0, w_2_187, tyX0_ok, nmX0, rfl, rfl, rfl⟩
theorem ffX0_15 : n_FF "OddCancel$Brothers" 15 0 2 (tyX0 2) := ⟨_, TX0, _, tyX0, rfl, Nat.le_of_ble_eq_true rfl, inX0, w_2_188, tyX0_ok, nmX0, rfl, rfl, rfl⟩
theorem ffX1_9 : n_FF "OddCancel$Letters" 9 1 1 (tyX1 1) := ⟨_, TX1, _, tyX1, rfl, Nat.le_of_ble_eq_true rfl, inX1, w_1_74, tyX1_ok, nmX1, rfl, rfl, rfl⟩
theorem ffX1_15 : n_FF "OddCancel$Letters" 15 1 2 (tyX1 2) := ⟨_, TX1, _, tyX1, rfl, Nat.le_of_ble_eq_true rfl, inX1, w_1_78, tyX1_ok, nmX1, rfl, rfl, rfl⟩
theorem ffX1_18 : n_FF "OddCancel$Letters" 18 1 3 (tyX1 3) := ⟨_, TX1, _, tyX1, rfl, Nat.le_of_ble_eq_true rfl, inX1, w_1_82, tyX1_ok, nmX1, rfl, rfl, rfl⟩
theorem ffX1_21 : n_FF "OddCancel$Letters" 21 1 4 (tyX1 4) := ⟨_, TX1, _, tyX1, rfl, Nat.le_of_ble_eq_true rfl, inX1, w_1_86, tyX1_ok, nmX1, rfl, rfl, rfl⟩
theorem ffX1_24 : n_FF "OddCancel$Letters" 24 1 5 (tyX1 5) := ⟨_, TX1, _, tyX1, rfl, Nat.le_of_ble_eq_true rfl, inX1, w_1_90, tyX1_ok, nmX1, rfl, rfl, rfl⟩
theorem ffX2_9 : n_FF "OddCancel$Life" 9 2 7 (tyX2 7) := ⟨_, TX2, _, tyX2, rfl, Nat.le_of_ble_eq_true rfl, inX2, w_2_114, tyX2_ok, nmX2, rfl, rfl, rfl⟩
theorem ffX3_9 : n_FF "OddCancel$Plan" 9 3 3 (tyX3 3) := ⟨_, TX3, _, tyX3, rfl, Nat.le_of_ble_eq_true rfl, inX3, w_1_218, tyX3_ok, nmX3, rfl, rfl, rfl⟩
theorem ffX3_15 : n_FF "OddCancel$Plan" 15 3 4 (tyX3 4) := ⟨_, TX3, _, tyX3, rfl, Nat.le_of_ble_eq_true rfl, inX3, w_1_220, tyX3_ok, nmX3, rfl, rfl, rfl⟩
theorem ffX3_18 : n_FF "OddCancel$Plan" 18 3 5 (tyX3 5) := ⟨_, TX3, _, tyX3, rfl, Nat.le_of_ble_eq_true rfl, inX3, w_1_222, tyX3_ok, nmX3, rfl, rfl, rfl⟩
theorem ffX3_21 : n_FF "OddCancel$Plan" 21 3 6 (tyX3 6) := ⟨_, TX3, _, tyX3, rfl, Nat.le_of_ble_eq_true rfl, inX3, w_1_224, tyX3_ok, nmX3, rfl, rfl, rfl⟩
theorem ffX4_9 : n_FF "OddCancel$Reader" 9 4 0 (tyX4 0) := ⟨_, TX4, _, tyX4, rfl, Nat.le_of_ble_eq_true rfl, inX4, w_2_10, tyX4_ok, nmX4, rfl, rfl, rfl⟩
theorem fzX4_15 : o_FW "OddCancel$Reader" 15 4 2 (tyX4 2) := ⟨_, TX4, _, tyX4, rfl, Nat.le_of_ble_eq_true rfl, inX4, w_2_13, tyX4_ok, nmX4, rfl, rfl⟩
theorem fzX4_19 : o_FW "OddCancel$Reader" 19 4 3 (tyX4 3) := ⟨_, TX4, _, tyX4, rfl, Nat.le_of_ble_eq_true rfl, inX4, w_2_15, tyX4_ok, nmX4, rfl, rfl⟩
theorem ffX6_9 : n_FF "OddCancel$Trails" 9 6 0 (tyX6 0) := ⟨_, TX6, _, tyX6, rfl, Nat.le_of_ble_eq_true rfl, inX6, w_2_138, tyX6_ok, nmX6, rfl, rfl, rfl⟩
theorem ffX6_15 : n_FF "OddCancel$Trails" 15 6 4 (tyX6 4) := ⟨_, TX6, _, tyX6, rfl, Nat.le_of_ble_eq_true rfl, inX6, w_2_146, tyX6_ok, nmX6, rfl, rfl, rfl⟩
theorem ffX7_9 : n_FF "OddCancel$Tray" 9 7 3 (tyX7 3) := ⟨_, TX7, _, tyX7, rfl, Nat.le_of_ble_eq_true rfl, inX7, w_1_43, tyX7_ok, nmX7, rfl, rfl, rfl⟩
theorem nwX5_9 : n_NW "OddCancel$Rows" 9 1 6 [.int 0, .null, .null, .null, .null, .null] := ⟨_, TX1, tyX1, rfl, inX1, tyX1_ok, w_2_164, w_1_63, w_1_4, fun j hj => by rcases (show j = 0 ∨ j = 1 ∨ j = 2 ∨ j = 3 ∨ j = 4 ∨ j = 5 by omega) with rfl | rfl | rfl | rfl | rfl | rfl <;> rfl⟩
theorem ffX5_12 : n_FF "OddCancel$Rows" 12 5 0 (tyX5 0) := ⟨_, TX5, _, tyX5, rfl, Nat.le_of_ble_eq_true rfl, inX5, w_2_166, tyX5_ok, nmX5, rfl, rfl, rfl⟩
theorem ffX5_18 : n_FF "OddCancel$Rows" 18 5 1 (tyX5 1) := ⟨_, TX5, _, tyX5, rfl, Nat.le_of_ble_eq_true rfl, inX5, w_2_168, tyX5_ok, nmX5, rfl, rfl, rfl⟩
theorem fzX8_9 : o_FW "OddCancel$Valley" 9 8 4 (tyX8 4) := ⟨_, TX8, _, tyX8, rfl, Nat.le_of_ble_eq_true rfl, inX8, w_1_123, tyX8_ok, nmX8, rfl, rfl⟩
theorem ffX8_15 : n_FF "OddCancel$Valley" 15 8 9 (tyX8 9) := ⟨_, TX8, _, tyX8, rfl, Nat.le_of_ble_eq_true rfl, inX8, w_1_136, tyX8_ok, nmX8, rfl, rfl, rfl⟩
theorem ffX8_19 : n_FF "OddCancel$Valley" 19 8 10 (tyX8 10) := ⟨_, TX8, _, tyX8, rfl, Nat.le_of_ble_eq_true rfl, inX8, w_1_139, tyX8_ok, nmX8, rfl, rfl, rfl⟩
theorem ffX8_22 : n_FF "OddCancel$Valley" 22 8 11 (tyX8 11) := ⟨_, TX8, _, tyX8, rfl, Nat.le_of_ble_eq_true rfl, inX8, w_1_141, tyX8_ok, nmX8, rfl, rfl, rfl⟩
theorem ffX8_25 : n_FF "OddCancel$Valley" 25 8 12 (tyX8 12) := ⟨_, TX8, _, tyX8, rfl, Nat.le_of_ble_eq_true rfl, inX8, w_1_147, tyX8_ok, nmX8, rfl, rfl, rfl⟩
theorem ffX8_28 : n_FF "OddCancel$Valley" 28 8 13 (tyX8 13) := ⟨_, TX8, _, tyX8, rfl, Nat.le_of_ble_eq_true rfl, inX8, w_1_150, tyX8_ok, nmX8, rfl, rfl, rfl⟩
theorem ffX8_31 : n_FF "OddCancel$Valley" 31 8 14 (tyX8 14) := ⟨_, TX8, _, tyX8, rfl, Nat.le_of_ble_eq_true rfl, inX8, w_1_153, tyX8_ok, nmX8, rfl, rfl, rfl⟩
theorem nwX8_34 : n_NW "OddCancel$Valley" 34 1 6 [.int 0, .null, .null, .null, .null, .null] := ⟨_, TX1, tyX1, rfl, inX1, tyX1_ok, w_1_62, w_1_63, w_1_4, fun j hj => by rcases (show j = 0 ∨ j = 1 ∨ j = 2 ∨ j = 3 ∨ j = 4 ∨ j = 5 by omega) with rfl | rfl | rfl | rfl | rfl | rfl <;> rfl⟩
theorem ffX8_37 : n_FF "OddCancel$Valley" 37 8 15 (tyX8 15) := ⟨_, TX8, _, tyX8, rfl, Nat.le_of_ble_eq_true rfl, inX8, w_1_156, tyX8_ok, nmX8, rfl, rfl, rfl⟩
theorem ffX8_41 : n_FF "OddCancel$Valley" 41 8 16 (tyX8 16) := ⟨_, TX8, _, tyX8, rfl, Nat.le_of_ble_eq_true rfl, inX8, w_1_161, tyX8_ok, nmX8, rfl, rfl, rfl⟩
theorem ffX8_44 : n_FF "OddCancel$Valley" 44 8 17 (tyX8 17) := ⟨_, TX8, _, tyX8, rfl, Nat.le_of_ble_eq_true rfl, inX8, w_1_164, tyX8_ok, nmX8, rfl, rfl, rfl⟩
theorem ffX9_9 : n_FF "OddCancel$ValleyText" 9 9 0 (tyX9 0) := ⟨_, TX9, _, tyX9, rfl, Nat.le_of_ble_eq_true rfl, inX9, w_2_63, tyX9_ok, nmX9, rfl, rfl, rfl⟩
theorem ffX9_15 : n_FF "OddCancel$ValleyText" 15 9 1 (tyX9 1) := ⟨_, TX9, _, tyX9, rfl, Nat.le_of_ble_eq_true rfl, inX9, w_2_64, tyX9_ok, nmX9, rfl, rfl, rfl⟩
theorem ffX10_9 : n_FF "OddCancel$WeeksText" 9 10 3 (tyX10 3) := ⟨_, TX10, _, tyX10, rfl, Nat.le_of_ble_eq_true rfl, inX10, w_2_82, tyX10_ok, nmX10, rfl, rfl, rfl⟩
theorem ffX10_15 : n_FF "OddCancel$WeeksText" 15 10 0 (tyX10 0) := ⟨_, TX10, _, tyX10, rfl, Nat.le_of_ble_eq_true rfl, inX10, w_2_79, tyX10_ok, nmX10, rfl, rfl, rfl⟩
theorem ffX10_19 : n_FF "OddCancel$WeeksText" 19 10 1 (tyX10 1) := ⟨_, TX10, _, tyX10, rfl, Nat.le_of_ble_eq_true rfl, inX10, w_2_80, tyX10_ok, nmX10, rfl, rfl, rfl⟩
theorem ffX10_23 : n_FF "OddCancel$WeeksText" 23 10 2 (tyX10 2) := ⟨_, TX10, _, tyX10, rfl, Nat.le_of_ble_eq_true rfl, inX10, w_2_81, tyX10_ok, nmX10, rfl, rfl, rfl⟩
theorem fzX11_9 : o_FW "OddCancel" 9 11 2 (tyX11 2) := ⟨_, TX11, _, tyX11, rfl, Nat.le_of_ble_eq_true rfl, inX11, w_2_198, tyX11_ok, nmX11, rfl, rfl⟩
theorem ffX11_15 : n_FF "OddCancel" 15 11 3 (tyX11 3) := ⟨_, TX11, _, tyX11, rfl, Nat.le_of_ble_eq_true rfl, inX11, w_2_199, tyX11_ok, nmX11, rfl, rfl, rfl⟩
theorem fgX11_15 : o_FL "OddCancel" 15 11 3 := ⟨_, TX11, _, rfl, Nat.le_of_ble_eq_true rfl, inX11, w_2_199⟩
theorem nwX11_13 : n_NW "OddCancel" 13 7 4 [.int 0, .int 0, .int 0, .null] := ⟨_, TX7, tyX7, rfl, inX7, tyX7_ok, w_1_30, w_1_32, w_1_2, fun j hj => by rcases (show j = 0 ∨ j = 1 ∨ j = 2 ∨ j = 3 by omega) with rfl | rfl | rfl | rfl <;> rfl⟩
theorem nwX11_20 : n_NW "OddCancel" 20 8 18 [.int 0, .int 0, .int 0, .int 0, .int 0, .int 0, .int 0, .int 0, .int 0, .null, .null, .null, .null, .null, .null, .null, .null, .null] := ⟨_, TX8, tyX8, rfl, inX8, tyX8_ok, w_1_56, w_1_57, w_1_3, fun j hj => by rcases (show j = 0 ∨ j = 1 ∨ j = 2 ∨ j = 3 ∨ j = 4 ∨ j = 5 ∨ j = 6 ∨ j = 7 ∨ j = 8 ∨ j = 9 ∨ j = 10 ∨ j = 11 ∨ j = 12 ∨ j = 13 ∨ j = 14 ∨ j = 15 ∨ j = 16 ∨ j = 17 by omega) with rfl | rfl | rfl | rfl | rfl | rfl | rfl | rfl | rfl | rfl | rfl | rfl | rfl | rfl | rfl | rfl | rfl | rfl <;> rfl⟩
theorem ffX11_23 : n_FF "OddCancel" 23 11 4 (tyX11 4) := ⟨_, TX11, _, tyX11, rfl, Nat.le_of_ble_eq_true rfl, inX11, w_2_200, tyX11_ok, nmX11, rfl, rfl, rfl⟩
theorem ffX11_27 : n_FF "OddCancel" 27 11 5 (tyX11 5) := ⟨_, TX11, _, tyX11, rfl, Nat.le_of_ble_eq_true rfl, inX11, w_2_201, tyX11_ok, nmX11, rfl, rfl, rfl⟩
theorem nwX11_30 : n_NW "OddCancel" 30 3 7 [.int 0, .int 0, .int 0, .null, .null, .null, .null] := ⟨_, TX3, tyX3, rfl, inX3, tyX3_ok, w_1_203, w_1_204, w_1_5, fun j hj => by rcases (show j = 0 ∨ j = 1 ∨ j = 2 ∨ j = 3 ∨ j = 4 ∨ j = 5 ∨ j = 6 by omega) with rfl | rfl | rfl | rfl | rfl | rfl | rfl <;> rfl⟩
theorem ffX11_33 : n_FF "OddCancel" 33 11 6 (tyX11 6) := ⟨_, TX11, _, tyX11, rfl, Nat.le_of_ble_eq_true rfl, inX11, w_2_202, tyX11_ok, nmX11, rfl, rfl, rfl⟩
theorem ffX11_37 : n_FF "OddCancel" 37 11 7 (tyX11 7) := ⟨_, TX11, _, tyX11, rfl, Nat.le_of_ble_eq_true rfl, inX11, w_2_203, tyX11_ok, nmX11, rfl, rfl, rfl⟩
theorem ffX11_40 : n_FF "OddCancel" 40 11 8 (tyX11 8) := ⟨_, TX11, _, tyX11, rfl, Nat.le_of_ble_eq_true rfl, inX11, w_2_204, tyX11_ok, nmX11, rfl, rfl, rfl⟩
theorem ffX11_44 : n_FF "OddCancel" 44 11 9 (tyX11 9) := ⟨_, TX11, _, tyX11, rfl, Nat.le_of_ble_eq_true rfl, inX11, w_2_205, tyX11_ok, nmX11, rfl, rfl, rfl⟩
theorem fgX11_40 : o_FL "OddCancel" 40 11 8 := ⟨_, TX11, _, rfl, Nat.le_of_ble_eq_true rfl, inX11, w_2_204⟩
theorem fgX11_44 : o_FL "OddCancel" 44 11 9 := ⟨_, TX11, _, rfl, Nat.le_of_ble_eq_true rfl, inX11, w_2_205⟩
theorem nwX11_48 : n_NW "OddCancel" 48 4 12 [.null, .int 0, .int 0, .int 0, .int 0, .int 0, .int 0, .int 0, .int 0, .long 0, .int 0, .int 0] := ⟨_, TX4, tyX4, rfl, inX4, tyX4_ok, w_2_4, w_2_5, w_1_6, fun j hj => by rcases (show j = 0 ∨ j = 1 ∨ j = 2 ∨ j = 3 ∨ j = 4 ∨ j = 5 ∨ j = 6 ∨ j = 7 ∨ j = 8 ∨ j = 9 ∨ j = 10 ∨ j = 11 by omega) with rfl | rfl | rfl | rfl | rfl | rfl | rfl | rfl | rfl | rfl | rfl | rfl <;> rfl⟩
theorem ffX11_51 : n_FF "OddCancel" 51 11 11 (tyX11 11) := ⟨_, TX11, _, tyX11, rfl, Nat.le_of_ble_eq_true rfl, inX11, w_2_207, tyX11_ok, nmX11, rfl, rfl, rfl⟩
theorem nwX11_55 : n_NW "OddCancel" 55 9 3 [.null, .null, .int 0] := ⟨_, TX9, tyX9, rfl, inX9, tyX9_ok, w_2_57, w_2_58, w_1_7, fun j hj => by rcases (show j = 0 ∨ j = 1 ∨ j = 2 by omega) with rfl | rfl | rfl <;> rfl⟩
theorem fgX11_51 : o_FL "OddCancel" 51 11 11 := ⟨_, TX11, _, rfl, Nat.le_of_ble_eq_true rfl, inX11, w_2_207⟩
theorem fgX11_27 : o_FL "OddCancel" 27 11 5 := ⟨_, TX11, _, rfl, Nat.le_of_ble_eq_true rfl, inX11, w_2_201⟩
theorem ffX11_60 : n_FF "OddCancel" 60 11 12 (tyX11 12) := ⟨_, TX11, _, tyX11, rfl, Nat.le_of_ble_eq_true rfl, inX11, w_2_208, tyX11_ok, nmX11, rfl, rfl, rfl⟩
theorem nwX11_64 : n_NW "OddCancel" 64 10 5 [.null, .null, .null, .null, .int 0] := ⟨_, TX10, tyX10, rfl, inX10, tyX10_ok, w_2_73, w_2_74, w_1_8, fun j hj => by rcases (show j = 0 ∨ j = 1 ∨ j = 2 ∨ j = 3 ∨ j = 4 by omega) with rfl | rfl | rfl | rfl | rfl <;> rfl⟩
theorem fgX11_23 : o_FL "OddCancel" 23 11 4 := ⟨_, TX11, _, rfl, Nat.le_of_ble_eq_true rfl, inX11, w_2_200⟩
theorem fgX11_37 : o_FL "OddCancel" 37 11 7 := ⟨_, TX11, _, rfl, Nat.le_of_ble_eq_true rfl, inX11, w_2_203⟩
theorem ffX11_69 : n_FF "OddCancel" 69 11 13 (tyX11 13) := ⟨_, TX11, _, tyX11, rfl, Nat.le_of_ble_eq_true rfl, inX11, w_2_209, tyX11_ok, nmX11, rfl, rfl, rfl⟩
theorem nwX11_73 : n_NW "OddCancel" 73 2 8 [.int 0, .int 0, .int 0, .int 0, .int 0, .int 0, .int 0, .null] := ⟨_, TX2, tyX2, rfl, inX2, tyX2_ok, w_2_95, w_2_96, w_1_9, fun j hj => by rcases (show j = 0 ∨ j = 1 ∨ j = 2 ∨ j = 3 ∨ j = 4 ∨ j = 5 ∨ j = 6 ∨ j = 7 by omega) with rfl | rfl | rfl | rfl | rfl | rfl | rfl | rfl <;> rfl⟩
theorem ffX11_76 : n_FF "OddCancel" 76 11 14 (tyX11 14) := ⟨_, TX11, _, tyX11, rfl, Nat.le_of_ble_eq_true rfl, inX11, w_2_210, tyX11_ok, nmX11, rfl, rfl, rfl⟩
theorem ffX11_80 : n_FF "OddCancel" 80 11 15 (tyX11 15) := ⟨_, TX11, _, tyX11, rfl, Nat.le_of_ble_eq_true rfl, inX11, w_2_211, tyX11_ok, nmX11, rfl, rfl, rfl⟩
theorem fgX11_80 : o_FL "OddCancel" 80 11 15 := ⟨_, TX11, _, rfl, Nat.le_of_ble_eq_true rfl, inX11, w_2_211⟩
theorem nwX11_84 : n_NW "OddCancel" 84 6 5 [.null, .int 0, .int 0, .int 0, .null] := ⟨_, TX6, tyX6, rfl, inX6, tyX6_ok, w_2_132, w_2_133, w_1_10, fun j hj => by rcases (show j = 0 ∨ j = 1 ∨ j = 2 ∨ j = 3 ∨ j = 4 by omega) with rfl | rfl | rfl | rfl | rfl <;> rfl⟩
theorem ffX11_87 : n_FF "OddCancel" 87 11 16 (tyX11 16) := ⟨_, TX11, _, tyX11, rfl, Nat.le_of_ble_eq_true rfl, inX11, w_2_212, tyX11_ok, nmX11, rfl, rfl, rfl⟩
theorem nwX11_91 : n_NW "OddCancel" 91 5 4 [.null, .null, .int 0, .int 0] := ⟨_, TX5, tyX5, rfl, inX5, tyX5_ok, w_2_158, w_2_159, w_1_11, fun j hj => by rcases (show j = 0 ∨ j = 1 ∨ j = 2 ∨ j = 3 by omega) with rfl | rfl | rfl | rfl <;> rfl⟩
theorem ffX11_94 : n_FF "OddCancel" 94 11 17 (tyX11 17) := ⟨_, TX11, _, tyX11, rfl, Nat.le_of_ble_eq_true rfl, inX11, w_2_213, tyX11_ok, nmX11, rfl, rfl, rfl⟩
theorem nwX11_98 : n_NW "OddCancel" 98 0 3 [.int 0, .null, .null] := ⟨_, TX0, tyX0, rfl, inX0, tyX0_ok, w_2_180, w_2_181, w_1_12, fun j hj => by rcases (show j = 0 ∨ j = 1 ∨ j = 2 by omega) with rfl | rfl | rfl <;> rfl⟩
theorem ffX11_101 : n_FF "OddCancel" 101 11 18 (tyX11 18) := ⟨_, TX11, _, tyX11, rfl, Nat.le_of_ble_eq_true rfl, inX11, w_2_214, tyX11_ok, nmX11, rfl, rfl, rfl⟩
theorem ffX12_7 : n_FF "OddCancelModel" 7 12 0 (tyX12 0) := ⟨_, TX12, _, tyX12, rfl, Nat.le_of_ble_eq_true rfl, inX12, w_6_116, tyX12_ok, nmX12, rfl, rfl, rfl⟩
theorem ffX12_13 : n_FF "OddCancelModel" 13 12 1 (tyX12 1) := ⟨_, TX12, _, tyX12, rfl, Nat.le_of_ble_eq_true rfl, inX12, w_6_117, tyX12_ok, nmX12, rfl, rfl, rfl⟩
theorem fzX12_17 : o_FW "OddCancelModel" 17 12 4 (tyX12 4) := ⟨_, TX12, _, tyX12, rfl, Nat.le_of_ble_eq_true rfl, inX12, w_6_120, tyX12_ok, nmX12, rfl, rfl⟩
theorem ffX12_21 : n_FF "OddCancelModel" 21 12 5 (tyX12 5) := ⟨_, TX12, _, tyX12, rfl, Nat.le_of_ble_eq_true rfl, inX12, w_6_121, tyX12_ok, nmX12, rfl, rfl, rfl⟩
theorem ffX12_24 : n_FF "OddCancelModel" 24 12 6 (tyX12 6) := ⟨_, TX12, _, tyX12, rfl, Nat.le_of_ble_eq_true rfl, inX12, w_6_122, tyX12_ok, nmX12, rfl, rfl, rfl⟩
theorem ffX12_27 : n_FF "OddCancelModel" 27 12 7 (tyX12 7) := ⟨_, TX12, _, tyX12, rfl, Nat.le_of_ble_eq_true rfl, inX12, w_6_123, tyX12_ok, nmX12, rfl, rfl, rfl⟩
theorem ffX12_30 : n_FF "OddCancelModel" 30 12 8 (tyX12 8) := ⟨_, TX12, _, tyX12, rfl, Nat.le_of_ble_eq_true rfl, inX12, w_6_124, tyX12_ok, nmX12, rfl, rfl, rfl⟩
theorem ffX12_34 : n_FF "OddCancelModel" 34 12 9 (tyX12 9) := ⟨_, TX12, _, tyX12, rfl, Nat.le_of_ble_eq_true rfl, inX12, w_6_125, tyX12_ok, nmX12, rfl, rfl, rfl⟩
theorem fzX12_37 : o_FW "OddCancelModel" 37 12 16 (tyX12 16) := ⟨_, TX12, _, tyX12, rfl, Nat.le_of_ble_eq_true rfl, inX12, w_6_132, tyX12_ok, nmX12, rfl, rfl⟩
theorem fzX12_41 : o_FW "OddCancelModel" 41 12 17 (tyX12 17) := ⟨_, TX12, _, tyX12, rfl, Nat.le_of_ble_eq_true rfl, inX12, w_6_133, tyX12_ok, nmX12, rfl, rfl⟩
theorem ffX12_44 : n_FF "OddCancelModel" 44 12 21 (tyX12 21) := ⟨_, TX12, _, tyX12, rfl, Nat.le_of_ble_eq_true rfl, inX12, w_6_137, tyX12_ok, nmX12, rfl, rfl, rfl⟩
theorem ffX12_47 : n_FF "OddCancelModel" 47 12 24 (tyX12 24) := ⟨_, TX12, _, tyX12, rfl, Nat.le_of_ble_eq_true rfl, inX12, w_6_140, tyX12_ok, nmX12, rfl, rfl, rfl⟩
theorem ffX12_50 : n_FF "OddCancelModel" 50 12 25 (tyX12 25) := ⟨_, TX12, _, tyX12, rfl, Nat.le_of_ble_eq_true rfl, inX12, w_6_141, tyX12_ok, nmX12, rfl, rfl, rfl⟩
theorem ffX12_53 : n_FF "OddCancelModel" 53 12 26 (tyX12 26) := ⟨_, TX12, _, tyX12, rfl, Nat.le_of_ble_eq_true rfl, inX12, w_6_142, tyX12_ok, nmX12, rfl, rfl, rfl⟩
theorem ffX12_56 : n_FF "OddCancelModel" 56 12 27 (tyX12 27) := ⟨_, TX12, _, tyX12, rfl, Nat.le_of_ble_eq_true rfl, inX12, w_6_143, tyX12_ok, nmX12, rfl, rfl, rfl⟩
theorem ffX12_59 : n_FF "OddCancelModel" 59 12 28 (tyX12 28) := ⟨_, TX12, _, tyX12, rfl, Nat.le_of_ble_eq_true rfl, inX12, w_6_144, tyX12_ok, nmX12, rfl, rfl, rfl⟩
theorem ffX12_62 : n_FF "OddCancelModel" 62 12 29 (tyX12 29) := ⟨_, TX12, _, tyX12, rfl, Nat.le_of_ble_eq_true rfl, inX12, w_6_145, tyX12_ok, nmX12, rfl, rfl, rfl⟩
theorem ffX12_65 : n_FF "OddCancelModel" 65 12 30 (tyX12 30) := ⟨_, TX12, _, tyX12, rfl, Nat.le_of_ble_eq_true rfl, inX12, w_6_146, tyX12_ok, nmX12, rfl, rfl, rfl⟩
theorem ffX12_68 : n_FF "OddCancelModel" 68 12 34 (tyX12 34) := ⟨_, TX12, _, tyX12, rfl, Nat.le_of_ble_eq_true rfl, inX12, w_6_150, tyX12_ok, nmX12, rfl, rfl, rfl⟩
theorem ffX12_71 : n_FF "OddCancelModel" 71 12 35 (tyX12 35) := ⟨_, TX12, _, tyX12, rfl, Nat.le_of_ble_eq_true rfl, inX12, w_6_151, tyX12_ok, nmX12, rfl, rfl, rfl⟩
theorem ffX12_74 : n_FF "OddCancelModel" 74 12 36 (tyX12 36) := ⟨_, TX12, _, tyX12, rfl, Nat.le_of_ble_eq_true rfl, inX12, w_6_152, tyX12_ok, nmX12, rfl, rfl, rfl⟩
