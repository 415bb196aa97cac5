theorem dX8_copyFrom_0 : decode cX8_copyFrom 0 = .ok (.aload_n 0, 1) := by decide +kernel
theorem dX8_copyFrom_1 : decode cX8_copyFrom 1 = .ok (.aload_n 1, 1) := by decide +kernel
theorem dX8_copyFrom_2 : decode cX8_copyFrom 2 = .ok (.getfield 48, 3) := by decide +kernel
theorem dX8_copyFrom_5 : decode cX8_copyFrom 5 = .ok (.putfield 48, 3) := by decide +kernel
theorem dX8_copyFrom_8 : decode cX8_copyFrom 8 = .ok (.aload_n 0, 1) := by decide +kernel
theorem dX8_copyFrom_9 : decode cX8_copyFrom 9 = .ok (.aload_n 1, 1) := by decide +kernel
theorem dX8_copyFrom_10 : decode cX8_copyFrom 10 = .ok (.getfield 51, 3) := by decide +kernel
theorem dX8_copyFrom_13 : decode cX8_copyFrom 13 = .ok (.putfield 51, 3) := by decide +kernel
theorem dX8_copyFrom_16 : decode cX8_copyFrom 16 = .ok (.aload_n 0, 1) := by decide +kernel
theorem dX8_copyFrom_17 : decode cX8_copyFrom 17 = .ok (.aload_n 1, 1) := by decide +kernel
theorem dX8_copyFrom_18 : decode cX8_copyFrom 18 = .ok (.getfield 54, 3) := by decide +kernel
theorem dX8_copyFrom_21 : decode cX8_copyFrom 21 = .ok (.putfield 54, 3) := by decide +kernel
theorem dX8_copyFrom_24 : decode cX8_copyFrom 24 = .ok (.aload_n 0, 1) := by decide +kernel
theorem dX8_copyFrom_25 : decode cX8_copyFrom 25 = .ok (.aload_n 1, 1) := by decide +kernel
theorem dX8_copyFrom_26 : decode cX8_copyFrom 26 = .ok (.getfield 57, 3) := by decide +kernel
theorem dX8_copyFrom_29 : decode cX8_copyFrom 29 = .ok (.putfield 57, 3) := by decide +kernel
theorem dX8_copyFrom_32 : decode cX8_copyFrom 32 = .ok (.aload_n 0, 1) := by decide +kernel
theorem dX8_copyFrom_33 : decode cX8_copyFrom 33 = .ok (.aload_n 1, 1) := by decide +kernel
theorem dX8_copyFrom_34 : decode cX8_copyFrom 34 = .ok (.getfield 9, 3) := by decide +kernel
theorem dX8_copyFrom_37 : decode cX8_copyFrom 37 = .ok (.putfield 9, 3) := by decide +kernel
theorem dX8_copyFrom_40 : decode cX8_copyFrom 40 = .ok (.aload_n 0, 1) := by decide +kernel
theorem dX8_copyFrom_41 : decode cX8_copyFrom 41 = .ok (.aload_n 1, 1) := by decide +kernel
theorem dX8_copyFrom_42 : decode cX8_copyFrom 42 = .ok (.getfield 60, 3) := by decide +kernel
theorem dX8_copyFrom_45 : decode cX8_copyFrom 45 = .ok (.putfield 60, 3) := by decide +kernel
theorem dX8_copyFrom_48 : decode cX8_copyFrom 48 = .ok (.aload_n 0, 1) := by decide +kernel
theorem dX8_copyFrom_49 : decode cX8_copyFrom 49 = .ok (.aload_n 1, 1) := by decide +kernel
theorem dX8_copyFrom_50 : decode cX8_copyFrom 50 = .ok (.getfield 63, 3) := by decide +kernel
theorem dX8_copyFrom_53 : decode cX8_copyFrom 53 = .ok (.putfield 63, 3) := by decide +kernel
theorem dX8_copyFrom_56 : decode cX8_copyFrom 56 = .ok (.aload_n 0, 1) := by decide +kernel
theorem dX8_copyFrom_57 : decode cX8_copyFrom 57 = .ok (.aload_n 1, 1) := by decide +kernel
theorem dX8_copyFrom_58 : decode cX8_copyFrom 58 = .ok (.getfield 67, 3) := by decide +kernel
theorem dX8_copyFrom_61 : decode cX8_copyFrom 61 = .ok (.putfield 67, 3) := by decide +kernel
theorem dX8_copyFrom_64 : decode cX8_copyFrom 64 = .ok (.aload_n 0, 1) := by decide +kernel
theorem dX8_copyFrom_65 : decode cX8_copyFrom 65 = .ok (.aload_n 1, 1) := by decide +kernel
theorem dX8_copyFrom_66 : decode cX8_copyFrom 66 = .ok (.getfield 70, 3) := by decide +kernel
theorem dX8_copyFrom_69 : decode cX8_copyFrom 69 = .ok (.putfield 70, 3) := by decide +kernel
theorem dX8_copyFrom_72 : decode cX8_copyFrom 72 = .ok (.aload_n 1, 1) := by decide +kernel
theorem dX8_copyFrom_73 : decode cX8_copyFrom 73 = .ok (.getfield 15, 3) := by decide +kernel
theorem dX8_copyFrom_76 : decode cX8_copyFrom 76 = .ok (.iconst 0, 1) := by decide +kernel
theorem dX8_copyFrom_77 : decode cX8_copyFrom 77 = .ok (.aload_n 0, 1) := by decide +kernel
theorem dX8_copyFrom_78 : decode cX8_copyFrom 78 = .ok (.getfield 15, 3) := by decide +kernel
theorem dX8_copyFrom_81 : decode cX8_copyFrom 81 = .ok (.iconst 0, 1) := by decide +kernel
theorem dX8_copyFrom_82 : decode cX8_copyFrom 82 = .ok (.bipush 6, 2) := by decide +kernel
theorem dX8_copyFrom_84 : decode cX8_copyFrom 84 = .ok (.invokestatic 82, 3) := by decide +kernel
theorem dX8_copyFrom_87 : decode cX8_copyFrom 87 = .ok (.aload_n 1, 1) := by decide +kernel
theorem dX8_copyFrom_88 : decode cX8_copyFrom 88 = .ok (.getfield 19, 3) := by decide +kernel
theorem dX8_copyFrom_91 : decode cX8_copyFrom 91 = .ok (.iconst 0, 1) := by decide +kernel
theorem dX8_copyFrom_92 : decode cX8_copyFrom 92 = .ok (.aload_n 0, 1) := by decide +kernel
theorem dX8_copyFrom_93 : decode cX8_copyFrom 93 = .ok (.getfield 19, 3) := by decide +kernel
theorem dX8_copyFrom_96 : decode cX8_copyFrom 96 = .ok (.iconst 0, 1) := by decide +kernel
theorem dX8_copyFrom_97 : decode cX8_copyFrom 97 = .ok (.bipush 6, 2) := by decide +kernel
theorem dX8_copyFrom_99 : decode cX8_copyFrom 99 = .ok (.invokestatic 82, 3) := by decide +kernel
theorem dX8_copyFrom_102 : decode cX8_copyFrom 102 = .ok (.aload_n 1, 1) := by decide +kernel
theorem dX8_copyFrom_103 : decode cX8_copyFrom 103 = .ok (.getfield 22, 3) := by decide +kernel
theorem dX8_copyFrom_106 : decode cX8_copyFrom 106 = .ok (.iconst 0, 1) := by decide +kernel
theorem dX8_copyFrom_107 : decode cX8_copyFrom 107 = .ok (.aload_n 0, 1) := by decide +kernel
theorem dX8_copyFrom_108 : decode cX8_copyFrom 108 = .ok (.getfield 22, 3) := by decide +kernel
theorem dX8_copyFrom_111 : decode cX8_copyFrom 111 = .ok (.iconst 0, 1) := by decide +kernel
theorem dX8_copyFrom_112 : decode cX8_copyFrom 112 = .ok (.bipush 6, 2) := by decide +kernel
theorem dX8_copyFrom_114 : decode cX8_copyFrom 114 = .ok (.invokestatic 82, 3) := by decide +kernel
theorem dX8_copyFrom_117 : decode cX8_copyFrom 117 = .ok (.aload_n 1, 1) := by decide +kernel
theorem dX8_copyFrom_118 : decode cX8_copyFrom 118 = .ok (.getfield 25, 3) := by decide +kernel
theorem dX8_copyFrom_121 : decode cX8_copyFrom 121 = .ok (.iconst 0, 1) := by decide +kernel
theorem dX8_copyFrom_122 : decode cX8_copyFrom 122 = .ok (.aload_n 0, 1) := by decide +kernel
theorem dX8_copyFrom_123 : decode cX8_copyFrom 123 = .ok (.getfield 25, 3) := by decide +kernel
theorem dX8_copyFrom_126 : decode cX8_copyFrom 126 = .ok (.iconst 0, 1) := by decide +kernel
theorem dX8_copyFrom_127 : decode cX8_copyFrom 127 = .ok (.bipush 48, 2) := by decide +kernel
theorem dX8_copyFrom_129 : decode cX8_copyFrom 129 = .ok (.invokestatic 82, 3) := by decide +kernel
theorem dX8_copyFrom_132 : decode cX8_copyFrom 132 = .ok (.aload_n 1, 1) := by decide +kernel
theorem dX8_copyFrom_133 : decode cX8_copyFrom 133 = .ok (.getfield 28, 3) := by decide +kernel
theorem dX8_copyFrom_136 : decode cX8_copyFrom 136 = .ok (.iconst 0, 1) := by decide +kernel
theorem dX8_copyFrom_137 : decode cX8_copyFrom 137 = .ok (.aload_n 0, 1) := by decide +kernel
theorem dX8_copyFrom_138 : decode cX8_copyFrom 138 = .ok (.getfield 28, 3) := by decide +kernel
theorem dX8_copyFrom_141 : decode cX8_copyFrom 141 = .ok (.iconst 0, 1) := by decide +kernel
theorem dX8_copyFrom_142 : decode cX8_copyFrom 142 = .ok (.bipush 36, 2) := by decide +kernel
theorem dX8_copyFrom_144 : decode cX8_copyFrom 144 = .ok (.invokestatic 82, 3) := by decide +kernel
theorem dX8_copyFrom_147 : decode cX8_copyFrom 147 = .ok (.aload_n 1, 1) := by decide +kernel
theorem dX8_copyFrom_148 : decode cX8_copyFrom 148 = .ok (.getfield 31, 3) := by decide +kernel
theorem dX8_copyFrom_151 : decode cX8_copyFrom 151 = .ok (.iconst 0, 1) := by decide +kernel
theorem dX8_copyFrom_152 : decode cX8_copyFrom 152 = .ok (.aload_n 0, 1) := by decide +kernel
theorem dX8_copyFrom_153 : decode cX8_copyFrom 153 = .ok (.getfield 31, 3) := by decide +kernel
theorem dX8_copyFrom_156 : decode cX8_copyFrom 156 = .ok (.iconst 0, 1) := by decide +kernel
theorem dX8_copyFrom_157 : decode cX8_copyFrom 157 = .ok (.bipush 36, 2) := by decide +kernel
theorem dX8_copyFrom_159 : decode cX8_copyFrom 159 = .ok (.invokestatic 82, 3) := by decide +kernel
theorem dX8_copyFrom_162 : decode cX8_copyFrom 162 = .ok (.aload_n 0, 1) := by decide +kernel
theorem dX8_copyFrom_163 : decode cX8_copyFrom 163 = .ok (.getfield 37, 3) := by decide +kernel
theorem dX8_copyFrom_166 : decode cX8_copyFrom 166 = .ok (.aload_n 1, 1) := by decide +kernel
theorem dX8_copyFrom_167 : decode cX8_copyFrom 167 = .ok (.getfield 37, 3) := by decide +kernel
theorem dX8_copyFrom_170 : decode cX8_copyFrom 170 = .ok (.invokevirtual 88, 3) := by decide +kernel
theorem dX8_copyFrom_173 : decode cX8_copyFrom 173 = .ok (.aload_n 0, 1) := by decide +kernel
theorem dX8_copyFrom_174 : decode cX8_copyFrom 174 = .ok (.getfield 41, 3) := by decide +kernel
theorem dX8_copyFrom_177 : decode cX8_copyFrom 177 = .ok (.aload_n 1, 1) := by decide +kernel
theorem dX8_copyFrom_178 : decode cX8_copyFrom 178 = .ok (.getfield 41, 3) := by decide +kernel
theorem dX8_copyFrom_181 : decode cX8_copyFrom 181 = .ok (.invokevirtual 88, 3) := by decide +kernel
theorem dX8_copyFrom_184 : decode cX8_copyFrom 184 = .ok (.aload_n 1, 1) := by decide +kernel
theorem dX8_copyFrom_185 : decode cX8_copyFrom 185 = .ok (.getfield 44, 3) := by decide +kernel
theorem dX8_copyFrom_188 : decode cX8_copyFrom 188 = .ok (.iconst 0, 1) := by decide +kernel
theorem dX8_copyFrom_189 : decode cX8_copyFrom 189 = .ok (.aload_n 0, 1) := by decide +kernel
theorem dX8_copyFrom_190 : decode cX8_copyFrom 190 = .ok (.getfield 44, 3) := by decide +kernel
theorem dX8_copyFrom_193 : decode cX8_copyFrom 193 = .ok (.iconst 0, 1) := by decide +kernel
theorem dX8_copyFrom_194 : decode cX8_copyFrom 194 = .ok (.bipush 18, 2) := by decide +kernel
theorem dX8_copyFrom_196 : decode cX8_copyFrom 196 = .ok (.invokestatic 82, 3) := by decide +kernel
theorem dX8_copyFrom_199 : decode cX8_copyFrom 199 = .ok (.return_, 1) := by decide +kernel
noncomputable def fX8_copyFrom (rf : Nat → Nat → Nat) (a0 : Nat) (a1 : Nat) (μ0 : o_Mem) : Option (Unit × o_Mem) :=
  o_seq (o_wI μ0 a0 0 (μ0.1 a1 0)) fun μ1 =>
  o_seq (o_wI μ1 a0 1 (μ1.1 a1 1)) fun μ2 =>
  o_seq (o_wI μ2 a0 2 (μ2.1 a1 2)) fun μ3 =>
  o_seq (o_wI μ3 a0 3 (μ3.1 a1 3)) fun μ4 =>
  o_seq (o_wI μ4 a0 4 (μ4.1 a1 4)) fun μ5 =>
  o_seq (o_wI μ5 a0 5 (μ5.1 a1 5)) fun μ6 =>
  o_ck ((μ6.1 a1 6) = 0 ∨ (μ6.1 a1 6) = 1) <|
  o_seq (o_wI μ6 a0 6 (μ6.1 a1 6)) fun μ7 =>
  o_seq (o_wI μ7 a0 7 (μ7.1 a1 7)) fun μ8 =>
  o_seq (o_wI μ8 a0 8 (μ8.1 a1 8)) fun μ9 =>
  o_seq (o_sI μ9 (rf a0 9) (va_cpy (μ9.1 (rf a1 9)) (μ9.1 (rf a0 9)) 0 0 6)) fun μ10 =>
  o_seq (o_sI μ10 (rf a0 10) (va_cpy (μ10.1 (rf a1 10)) (μ10.1 (rf a0 10)) 0 0 6)) fun μ11 =>
  o_seq (o_sI μ11 (rf a0 11) (va_cpy (μ11.1 (rf a1 11)) (μ11.1 (rf a0 11)) 0 0 6)) fun μ12 =>
  o_seq (o_sI μ12 (rf a0 12) (va_cpy (μ12.1 (rf a1 12)) (μ12.1 (rf a0 12)) 0 0 48)) fun μ13 =>
  o_seq (o_sI μ13 (rf a0 13) (va_cpy (μ13.1 (rf a1 13)) (μ13.1 (rf a0 13)) 0 0 36)) fun μ14 =>
  o_seq (o_sI μ14 (rf a0 14) (va_cpy (μ14.1 (rf a1 14)) (μ14.1 (rf a0 14)) 0 0 36)) fun μ15 =>
  o_bd (fX1_copyFrom rf (rf a0 15) (rf a1 15) μ15) fun _u μ16 =>
  o_bd (fX1_copyFrom rf (rf a0 16) (rf a1 16) μ16) fun _u μ17 =>
  o_seq (o_sL μ17 (rf a0 17) (va_cpy (μ17.2 (rf a1 17)) (μ17.2 (rf a0 17)) 0 0 18)) fun μ18 =>
  some ((), μ18)
set_option maxRecDepth 20000 in
theorem dnX8_copyFrom {X : o_Cx} (hX : o_ok X) {d : Nat} {a0 : Nat} {a1 : Nat} {μ0 : o_Mem} {q : Unit → o_Mem → Prop} (h0 : o_is X a0 (.inl 8)) (h1 : o_is X a1 (.inl 8)) (h : o_Post (fX8_copyFrom (o_rf X) a0 a1 μ0) q) : o_Ev X (d + 2) mX8_copyFrom 0 [some (.ref (o_ad X a0)), some (.ref (o_ad X a1))] [] μ0 (o_QU q) := by
  unfold fX8_copyFrom at h
  refine s_aload_n (i := 0) dX8_copyFrom_0 rfl rfl ?_
  refine s_aload_n (i := 1) dX8_copyFrom_1 rfl rfl ?_
  refine s_getI h1 flX8_48 rfl dX8_copyFrom_2 ?_
  refine s_putI hX h0 fwX8_48 rfl dX8_copyFrom_5 (o_gen h (fun μ1 h => ?_))
  refine s_aload_n (i := 0) dX8_copyFrom_8 rfl rfl ?_
  refine s_aload_n (i := 1) dX8_copyFrom_9 rfl rfl ?_
  refine s_getI h1 flX8_51 rfl dX8_copyFrom_10 ?_
  refine s_putI hX h0 fwX8_51 rfl dX8_copyFrom_13 (o_gen h (fun μ2 h => ?_))
  refine s_aload_n (i := 0) dX8_copyFrom_16 rfl rfl ?_
  refine s_aload_n (i := 1) dX8_copyFrom_17 rfl rfl ?_
  refine s_getI h1 flX8_54 rfl dX8_copyFrom_18 ?_
  refine s_putI hX h0 fwX8_54 rfl dX8_copyFrom_21 (o_gen h (fun μ3 h => ?_))
  refine s_aload_n (i := 0) dX8_copyFrom_24 rfl rfl ?_
  refine s_aload_n (i := 1) dX8_copyFrom_25 rfl rfl ?_
  refine s_getI h1 flX8_57 rfl dX8_copyFrom_26 ?_
  refine s_putI hX h0 fwX8_57 rfl dX8_copyFrom_29 (o_gen h (fun μ4 h => ?_))
  refine s_aload_n (i := 0) dX8_copyFrom_32 rfl rfl ?_
  refine s_aload_n (i := 1) dX8_copyFrom_33 rfl rfl ?_
  refine s_getI h1 flX8_9 rfl dX8_copyFrom_34 ?_
  refine s_putI hX h0 fwX8_9 rfl dX8_copyFrom_37 (o_gen h (fun μ5 h => ?_))
  refine s_aload_n (i := 0) dX8_copyFrom_40 rfl rfl ?_
  refine s_aload_n (i := 1) dX8_copyFrom_41 rfl rfl ?_
  refine s_getI h1 flX8_60 rfl dX8_copyFrom_42 ?_
  refine s_putI hX h0 fwX8_60 rfl dX8_copyFrom_45 (o_gen h (fun μ6 h => ?_))
  refine s_aload_n (i := 0) dX8_copyFrom_48 rfl rfl ?_
  refine s_aload_n (i := 1) dX8_copyFrom_49 rfl rfl ?_
  refine s_getI h1 flX8_63 rfl dX8_copyFrom_50 ?_
  have hz := o_ck_c h
  have h := o_ck_k h
  refine s_putZ hX h0 fwX8_63 rfl hz dX8_copyFrom_53 (o_gen h (fun μ7 h => ?_))
  refine s_aload_n (i := 0) dX8_copyFrom_56 rfl rfl ?_
  refine s_aload_n (i := 1) dX8_copyFrom_57 rfl rfl ?_
  refine s_getI h1 flX8_67 rfl dX8_copyFrom_58 ?_
  refine s_putI hX h0 fwX8_67 rfl dX8_copyFrom_61 (o_gen h (fun μ8 h => ?_))
  refine s_aload_n (i := 0) dX8_copyFrom_64 rfl rfl ?_
  refine s_aload_n (i := 1) dX8_copyFrom_65 rfl rfl ?_
  refine s_getI h1 flX8_70 rfl dX8_copyFrom_66 ?_
  refine s_putI hX h0 fwX8_70 rfl dX8_copyFrom_69 (o_gen h (fun μ9 h => ?_))
  refine s_aload_n (i := 1) dX8_copyFrom_72 rfl rfl ?_
  refine s_getR hX h1 flX8_15 rfl dX8_copyFrom_73 (fun (g1 : o_is X (o_rf X a1 9) (.inr (0, 6))) => ?_)
  refine s_iconst dX8_copyFrom_76 kI_0 ?_
  refine s_aload_n (i := 0) dX8_copyFrom_77 rfl rfl ?_
  refine s_getR hX h0 flX8_15 rfl dX8_copyFrom_78 (fun (g2 : o_is X (o_rf X a0 9) (.inr (0, 6))) => ?_)
  refine s_iconst dX8_copyFrom_81 kI_0 ?_
  refine s_bipush dX8_copyFrom_82 kB_6 ?_
  refine s_copyIK hX g1 g2 mlX8_82 acn acs aci (by decide) (by decide) (by decide) (Nat.le_of_ble_eq_true rfl) (Nat.le_of_ble_eq_true rfl) kN_0 kN_0 kN_6 (Nat.le_of_ble_eq_true rfl) dX8_copyFrom_84 (o_gen h (fun μ10 h => ?_))
  refine s_aload_n (i := 1) dX8_copyFrom_87 rfl rfl ?_
  refine s_getR hX h1 flX8_19 rfl dX8_copyFrom_88 (fun (g3 : o_is X (o_rf X a1 10) (.inr (0, 6))) => ?_)
  refine s_iconst dX8_copyFrom_91 kI_0 ?_
  refine s_aload_n (i := 0) dX8_copyFrom_92 rfl rfl ?_
  refine s_getR hX h0 flX8_19 rfl dX8_copyFrom_93 (fun (g4 : o_is X (o_rf X a0 10) (.inr (0, 6))) => ?_)
  refine s_iconst dX8_copyFrom_96 kI_0 ?_
  refine s_bipush dX8_copyFrom_97 kB_6 ?_
  refine s_copyIK hX g3 g4 mlX8_82 acn acs aci (by decide) (by decide) (by decide) (Nat.le_of_ble_eq_true rfl) (Nat.le_of_ble_eq_true rfl) kN_0 kN_0 kN_6 (Nat.le_of_ble_eq_true rfl) dX8_copyFrom_99 (o_gen h (fun μ11 h => ?_))
  refine s_aload_n (i := 1) dX8_copyFrom_102 rfl rfl ?_
  refine s_getR hX h1 flX8_22 rfl dX8_copyFrom_103 (fun (g5 : o_is X (o_rf X a1 11) (.inr (0, 6))) => ?_)
  refine s_iconst dX8_copyFrom_106 kI_0 ?_
  refine s_aload_n (i := 0) dX8_copyFrom_107 rfl rfl ?_
  refine s_getR hX h0 flX8_22 rfl dX8_copyFrom_108 (fun (g6 : o_is X (o_rf X a0 11) (.inr (0, 6))) => ?_)
  refine s_iconst dX8_copyFrom_111 kI_0 ?_
  refine s_bipush dX8_copyFrom_112 kB_6 ?_
  refine s_copyIK hX g5 g6 mlX8_82 acn acs aci (by decide) (by decide) (by decide) (Nat.le_of_ble_eq_true rfl) (Nat.le_of_ble_eq_true rfl) kN_0 kN_0 kN_6 (Nat.le_of_ble_eq_true rfl) dX8_copyFrom_114 (o_gen h (fun μ12 h => ?_))
  refine s_aload_n (i := 1) dX8_copyFrom_117 rfl rfl ?_
  refine s_getR hX h1 flX8_25 rfl dX8_copyFrom_118 (fun (g7 : o_is X (o_rf X a1 12) (.inr (0, 48))) => ?_)
  refine s_iconst dX8_copyFrom_121 kI_0 ?_
  refine s_aload_n (i := 0) dX8_copyFrom_122 rfl rfl ?_
  refine s_getR hX h0 flX8_25 rfl dX8_copyFrom_123 (fun (g8 : o_is X (o_rf X a0 12) (.inr (0, 48))) => ?_)
  refine s_iconst dX8_copyFrom_126 kI_0 ?_
  refine s_bipush dX8_copyFrom_127 kB_48 ?_
  refine s_copyIK hX g7 g8 mlX8_82 acn acs aci (by decide) (by decide) (by decide) (Nat.le_of_ble_eq_true rfl) (Nat.le_of_ble_eq_true rfl) kN_0 kN_0 kN_48 (Nat.le_of_ble_eq_true rfl) dX8_copyFrom_129 (o_gen h (fun μ13 h => ?_))
  refine s_aload_n (i := 1) dX8_copyFrom_132 rfl rfl ?_
  refine s_getR hX h1 flX8_28 rfl dX8_copyFrom_133 (fun (g9 : o_is X (o_rf X a1 13) (.inr (0, 36))) => ?_)
  refine s_iconst dX8_copyFrom_136 kI_0 ?_
  refine s_aload_n (i := 0) dX8_copyFrom_137 rfl rfl ?_
  refine s_getR hX h0 flX8_28 rfl dX8_copyFrom_138 (fun (g10 : o_is X (o_rf X a0 13) (.inr (0, 36))) => ?_)
  refine s_iconst dX8_copyFrom_141 kI_0 ?_
  refine s_bipush dX8_copyFrom_142 kB_36 ?_
  refine s_copyIK hX g9 g10 mlX8_82 acn acs aci (by decide) (by decide) (by decide) (Nat.le_of_ble_eq_true rfl) (Nat.le_of_ble_eq_true rfl) kN_0 kN_0 kN_36 (Nat.le_of_ble_eq_true rfl) dX8_copyFrom_144 (o_gen h (fun μ14 h => ?_))
  refine s_aload_n (i := 1) dX8_copyFrom_147 rfl rfl ?_
  refine s_getR hX h1 flX8_31 rfl dX8_copyFrom_148 (fun (g11 : o_is X (o_rf X a1 14) (.inr (0, 36))) => ?_)
  refine s_iconst dX8_copyFrom_151 kI_0 ?_
  refine s_aload_n (i := 0) dX8_copyFrom_152 rfl rfl ?_
  refine s_getR hX h0 flX8_31 rfl dX8_copyFrom_153 (fun (g12 : o_is X (o_rf X a0 14) (.inr (0, 36))) => ?_)
  refine s_iconst dX8_copyFrom_156 kI_0 ?_
  refine s_bipush dX8_copyFrom_157 kB_36 ?_
  refine s_copyIK hX g11 g12 mlX8_82 acn acs aci (by decide) (by decide) (by decide) (Nat.le_of_ble_eq_true rfl) (Nat.le_of_ble_eq_true rfl) kN_0 kN_0 kN_36 (Nat.le_of_ble_eq_true rfl) dX8_copyFrom_159 (o_gen h (fun μ15 h => ?_))
  refine s_aload_n (i := 0) dX8_copyFrom_162 rfl rfl ?_
  refine s_getR hX h0 flX8_37 rfl dX8_copyFrom_163 (fun (g13 : o_is X (o_rf X a0 15) (.inl 1)) => ?_)
  refine s_aload_n (i := 1) dX8_copyFrom_166 rfl rfl ?_
  refine s_getR hX h1 flX8_37 rfl dX8_copyFrom_167 (fun (g14 : o_is X (o_rf X a1 15) (.inl 1)) => ?_)
  refine s_callVu (C := mX1_copyFrom) (As := [.ref (o_ad X (o_rf X a1 15))]) (rest := []) (L0 := [some (.ref (o_ad X (o_rf X a0 15))), some (.ref (o_ad X (o_rf X a1 15)))]) hX g13 clX8_88 dX8_copyFrom_170 rfl rfl (Nat.le_of_ble_eq_true rfl) (Nat.le_of_ble_eq_true rfl) (dnX1_copyFrom hX g13 g14 (o_bdp h)) (fun _u μ16 h => ?_)
  refine s_aload_n (i := 0) dX8_copyFrom_173 rfl rfl ?_
  refine s_getR hX h0 flX8_41 rfl dX8_copyFrom_174 (fun (g15 : o_is X (o_rf X a0 16) (.inl 1)) => ?_)
  refine s_aload_n (i := 1) dX8_copyFrom_177 rfl rfl ?_
  refine s_getR hX h1 flX8_41 rfl dX8_copyFrom_178 (fun (g16 : o_is X (o_rf X a1 16) (.inl 1)) => ?_)
  refine s_callVu (C := mX1_copyFrom) (As := [.ref (o_ad X (o_rf X a1 16))]) (rest := []) (L0 := [some (.ref (o_ad X (o_rf X a0 16))), some (.ref (o_ad X (o_rf X a1 16)))]) hX g15 clX8_88 dX8_copyFrom_181 rfl rfl (Nat.le_of_ble_eq_true rfl) (Nat.le_of_ble_eq_true rfl) (dnX1_copyFrom hX g15 g16 (o_bdp h)) (fun _u μ17 h => ?_)
  refine s_aload_n (i := 1) dX8_copyFrom_184 rfl rfl ?_
  refine s_getR hX h1 flX8_44 rfl dX8_copyFrom_185 (fun (g17 : o_is X (o_rf X a1 17) (.inr (2, 18))) => ?_)
  refine s_iconst dX8_copyFrom_188 kI_0 ?_
  refine s_aload_n (i := 0) dX8_copyFrom_189 rfl rfl ?_
  refine s_getR hX h0 flX8_44 rfl dX8_copyFrom_190 (fun (g18 : o_is X (o_rf X a0 17) (.inr (2, 18))) => ?_)
  refine s_iconst dX8_copyFrom_193 kI_0 ?_
  refine s_bipush dX8_copyFrom_194 kB_18 ?_
  refine s_copyLK hX g17 g18 mlX8_82 acn acs aci (by decide) (by decide) (by decide) (Nat.le_of_ble_eq_true rfl) (Nat.le_of_ble_eq_true rfl) kN_0 kN_0 kN_18 (Nat.le_of_ble_eq_true rfl) dX8_copyFrom_196 (o_gen h (fun μ18 h => ?_))
  exact s_return rfl dX8_copyFrom_199 ⟨rfl, o_ret h⟩
theorem dX8_isStrike_0 : decode cX8_isStrike 0 = .ok (.lload_n 1, 1) := by decide +kernel
theorem dX8_isStrike_1 : decode cX8_isStrike 1 = .ok (.lconst 0, 1) := by decide +kernel
theorem dX8_isStrike_2 : decode cX8_isStrike 2 = .ok (.lcmp, 1) := by decide +kernel
theorem dX8_isStrike_3 : decode cX8_isStrike 3 = .ok (.ifCond .lt 17, 3) := by decide +kernel
theorem dX8_isStrike_6 : decode cX8_isStrike 6 = .ok (.lload_n 1, 1) := by decide +kernel
theorem dX8_isStrike_7 : decode cX8_isStrike 7 = .ok (.aload_n 0, 1) := by decide +kernel
theorem dX8_isStrike_8 : decode cX8_isStrike 8 = .ok (.getfield 48, 3) := by decide +kernel
theorem dX8_isStrike_11 : decode cX8_isStrike 11 = .ok (.i2l, 1) := by decide +kernel
theorem dX8_isStrike_12 : decode cX8_isStrike 12 = .ok (.lcmp, 1) := by decide +kernel
theorem dX8_isStrike_13 : decode cX8_isStrike 13 = .ok (.ifCond .ge 7, 3) := by decide +kernel
theorem dX8_isStrike_16 : decode cX8_isStrike 16 = .ok (.iconst 1, 1) := by decide +kernel
theorem dX8_isStrike_17 : decode cX8_isStrike 17 = .ok (.goto 4, 3) := by decide +kernel
theorem dX8_isStrike_20 : decode cX8_isStrike 20 = .ok (.iconst 0, 1) := by decide +kernel
theorem dX8_isStrike_21 : decode cX8_isStrike 21 = .ok (.ireturn, 1) := by decide +kernel
noncomputable def fX8_isStrike (rf : Nat → Nat → Nat) (a0 : Nat) (x1 : Int64) (μ0 : o_Mem) : Option (Int32 × o_Mem) :=
  if x1 < (0 : Int64) then (
    some (0, μ0))
  else (
    if (μ0.1 a0 0).toInt64 ≤ x1 then (
      some (0, μ0))
    else (
      some (1, μ0)))
set_option maxRecDepth 20000 in
theorem dnX8_isStrike {X : o_Cx} (hX : o_ok X) {d : Nat} {a0 : Nat} {x1 : Int64} {μ0 : o_Mem} {q : Int32 → o_Mem → Prop} (h0 : o_is X a0 (.inl 8)) (h : o_Post (fX8_isStrike (o_rf X) a0 x1 μ0) q) : o_Ev X (d + 0) mX8_isStrike 0 [some (.ref (o_ad X a0)), some (.long x1), none] [] μ0 (o_QZ q) := by
  unfold fX8_isStrike at h
  refine s_lload_n (i := 1) dX8_isStrike_0 rfl rfl ?_
  refine s_lconst (v := 0) dX8_isStrike_1 rfl ?_
  refine s_lif_lt (tgt := 20) dX8_isStrike_2 dX8_isStrike_3 rfl (fun c1 => ?_) (fun c1 => ?_)
  · have h := o_if_t c1 h
    refine s_iconst dX8_isStrike_20 kI_0 ?_
    exact s_zreturn rfl (Or.inl rfl) dX8_isStrike_21 ⟨_, rfl, (Or.inl rfl), o_ret h⟩
  · have h := o_if_f c1 h
    refine s_lload_n (i := 1) dX8_isStrike_6 rfl rfl ?_
    refine s_aload_n (i := 0) dX8_isStrike_7 rfl rfl ?_
    refine s_getI h0 flX8_48 rfl dX8_isStrike_8 ?_
    refine s_i2l dX8_isStrike_11 ?_
    refine s_lif_ge (tgt := 20) dX8_isStrike_12 dX8_isStrike_13 rfl (fun c1 => ?_) (fun c1 => ?_)
    · have h := o_if_t c1 h
      refine s_iconst dX8_isStrike_20 kI_0 ?_
      exact s_zreturn rfl (Or.inl rfl) dX8_isStrike_21 ⟨_, rfl, (Or.inl rfl), o_ret h⟩
    · have h := o_if_f c1 h
      refine s_iconst dX8_isStrike_16 kI_1 ?_
      refine s_goto (tgt := 21) dX8_isStrike_17 rfl ?_
      exact s_zreturn rfl (Or.inr rfl) dX8_isStrike_21 ⟨_, rfl, (Or.inr rfl), o_ret h⟩
theorem dX8_isHand_0 : decode cX8_isHand 0 = .ok (.iload_n 1, 1) := by decide +kernel
theorem dX8_isHand_1 : decode cX8_isHand 1 = .ok (.ifCond .lt 15, 3) := by decide +kernel
theorem dX8_isHand_4 : decode cX8_isHand 4 = .ok (.iload_n 1, 1) := by decide +kernel
theorem dX8_isHand_5 : decode cX8_isHand 5 = .ok (.aload_n 0, 1) := by decide +kernel
theorem dX8_isHand_6 : decode cX8_isHand 6 = .ok (.getfield 51, 3) := by decide +kernel
theorem dX8_isHand_9 : decode cX8_isHand 9 = .ok (.if_icmp .ge 7, 3) := by decide +kernel
theorem dX8_isHand_12 : decode cX8_isHand 12 = .ok (.iconst 1, 1) := by decide +kernel
theorem dX8_isHand_13 : decode cX8_isHand 13 = .ok (.goto 4, 3) := by decide +kernel
theorem dX8_isHand_16 : decode cX8_isHand 16 = .ok (.iconst 0, 1) := by decide +kernel
theorem dX8_isHand_17 : decode cX8_isHand 17 = .ok (.ireturn, 1) := by decide +kernel
noncomputable def fX8_isHand (rf : Nat → Nat → Nat) (a0 : Nat) (x1 : Int32) (μ0 : o_Mem) : Option (Int32 × o_Mem) :=
  if x1 < 0 then (
    some (0, μ0))
  else (
    if (μ0.1 a0 1) ≤ x1 then (
      some (0, μ0))
    else (
      some (1, μ0)))
set_option maxRecDepth 20000 in
theorem dnX8_isHand {X : o_Cx} (hX : o_ok X) {d : Nat} {a0 : Nat} {x1 : Int32} {μ0 : o_Mem} {q : Int32 → o_Mem → Prop} (h0 : o_is X a0 (.inl 8)) (h : o_Post (fX8_isHand (o_rf X) a0 x1 μ0) q) : o_Ev X (d + 0) mX8_isHand 0 [some (.ref (o_ad X a0)), some (.int x1)] [] μ0 (o_QZ q) := by
  unfold fX8_isHand at h
  refine s_iload_n (i := 1) dX8_isHand_0 rfl rfl ?_
  refine s_if_lt (tgt := 16) dX8_isHand_1 rfl (fun c1 => ?_) (fun c1 => ?_)
  · have h := o_if_t c1 h
    refine s_iconst dX8_isHand_16 kI_0 ?_
    exact s_zreturn rfl (Or.inl rfl) dX8_isHand_17 ⟨_, rfl, (Or.inl rfl), o_ret h⟩
  · have h := o_if_f c1 h
    refine s_iload_n (i := 1) dX8_isHand_4 rfl rfl ?_
    refine s_aload_n (i := 0) dX8_isHand_5 rfl rfl ?_
    refine s_getI h0 flX8_51 rfl dX8_isHand_6 ?_
    refine s_icmp_ge (tgt := 16) dX8_isHand_9 rfl (fun c1 => ?_) (fun c1 => ?_)
    · have h := o_if_t c1 h
      refine s_iconst dX8_isHand_16 kI_0 ?_
      exact s_zreturn rfl (Or.inl rfl) dX8_isHand_17 ⟨_, rfl, (Or.inl rfl), o_ret h⟩
    · have h := o_if_f c1 h
      refine s_iconst dX8_isHand_12 kI_1 ?_
      refine s_goto (tgt := 17) dX8_isHand_13 rfl ?_
      exact s_zreturn rfl (Or.inr rfl) dX8_isHand_17 ⟨_, rfl, (Or.inr rfl), o_ret h⟩
theorem dX8_isPerson_0 : decode cX8_isPerson 0 = .ok (.iload_n 1, 1) := by decide +kernel
theorem dX8_isPerson_1 : decode cX8_isPerson 1 = .ok (.ifCond .lt 15, 3) := by decide +kernel
theorem dX8_isPerson_4 : decode cX8_isPerson 4 = .ok (.iload_n 1, 1) := by decide +kernel
theorem dX8_isPerson_5 : decode cX8_isPerson 5 = .ok (.aload_n 0, 1) := by decide +kernel
theorem dX8_isPerson_6 : decode cX8_isPerson 6 = .ok (.getfield 54, 3) := by decide +kernel
theorem dX8_isPerson_9 : decode cX8_isPerson 9 = .ok (.if_icmp .ge 7, 3) := by decide +kernel
theorem dX8_isPerson_12 : decode cX8_isPerson 12 = .ok (.iconst 1, 1) := by decide +kernel
theorem dX8_isPerson_13 : decode cX8_isPerson 13 = .ok (.goto 4, 3) := by decide +kernel
theorem dX8_isPerson_16 : decode cX8_isPerson 16 = .ok (.iconst 0, 1) := by decide +kernel
theorem dX8_isPerson_17 : decode cX8_isPerson 17 = .ok (.ireturn, 1) := by decide +kernel
noncomputable def fX8_isPerson (rf : Nat → Nat → Nat) (a0 : Nat) (x1 : Int32) (μ0 : o_Mem) : Option (Int32 × o_Mem) :=
  if x1 < 0 then (
    some (0, μ0))
  else (
    if (μ0.1 a0 2) ≤ x1 then (
      some (0, μ0))
    else (
      some (1, μ0)))
set_option maxRecDepth 20000 in
theorem dnX8_isPerson {X : o_Cx} (hX : o_ok X) {d : Nat} {a0 : Nat} {x1 : Int32} {μ0 : o_Mem} {q : Int32 → o_Mem → Prop} (h0 : o_is X a0 (.inl 8)) (h : o_Post (fX8_isPerson (o_rf X) a0 x1 μ0) q) : o_Ev X (d + 0) mX8_isPerson 0 [some (.ref (o_ad X a0)), some (.int x1)] [] μ0 (o_QZ q) := by
  unfold fX8_isPerson at h
  refine s_iload_n (i := 1) dX8_isPerson_0 rfl rfl ?_
  refine s_if_lt (tgt := 16) dX8_isPerson_1 rfl (fun c1 => ?_) (fun c1 => ?_)
  · have h := o_if_t c1 h
    refine s_iconst dX8_isPerson_16 kI_0 ?_
    exact s_zreturn rfl (Or.inl rfl) dX8_isPerson_17 ⟨_, rfl, (Or.inl rfl), o_ret h⟩
  · have h := o_if_f c1 h
    refine s_iload_n (i := 1) dX8_isPerson_4 rfl rfl ?_
    refine s_aload_n (i := 0) dX8_isPerson_5 rfl rfl ?_
    refine s_getI h0 flX8_54 rfl dX8_isPerson_6 ?_
    refine s_icmp_ge (tgt := 16) dX8_isPerson_9 rfl (fun c1 => ?_) (fun c1 => ?_)
    · have h := o_if_t c1 h
      refine s_iconst dX8_isPerson_16 kI_0 ?_
      exact s_zreturn rfl (Or.inl rfl) dX8_isPerson_17 ⟨_, rfl, (Or.inl rfl), o_ret h⟩
    · have h := o_if_f c1 h
      refine s_iconst dX8_isPerson_12 kI_1 ?_
      refine s_goto (tgt := 17) dX8_isPerson_13 rfl ?_
      exact s_zreturn rfl (Or.inr rfl) dX8_isPerson_17 ⟨_, rfl, (Or.inr rfl), o_ret h⟩
theorem dX8_isCouple_0 : decode cX8_isCouple 0 = .ok (.aload_n 0, 1) := by decide +kernel
theorem dX8_isCouple_1 : decode cX8_isCouple 1 = .ok (.iload_n 1, 1) := by decide +kernel
theorem dX8_isCouple_2 : decode cX8_isCouple 2 = .ok (.invokevirtual 92, 3) := by decide +kernel
theorem dX8_isCouple_5 : decode cX8_isCouple 5 = .ok (.ifCond .eq 16, 3) := by decide +kernel
theorem dX8_isCouple_8 : decode cX8_isCouple 8 = .ok (.aload_n 0, 1) := by decide +kernel
theorem dX8_isCouple_9 : decode cX8_isCouple 9 = .ok (.iload_n 2, 1) := by decide +kernel
theorem dX8_isCouple_10 : decode cX8_isCouple 10 = .ok (.i2l, 1) := by decide +kernel
theorem dX8_isCouple_11 : decode cX8_isCouple 11 = .ok (.invokevirtual 96, 3) := by decide +kernel
theorem dX8_isCouple_14 : decode cX8_isCouple 14 = .ok (.ifCond .eq 7, 3) := by decide +kernel
theorem dX8_isCouple_17 : decode cX8_isCouple 17 = .ok (.iconst 1, 1) := by decide +kernel
theorem dX8_isCouple_18 : decode cX8_isCouple 18 = .ok (.goto 4, 3) := by decide +kernel
theorem dX8_isCouple_21 : decode cX8_isCouple 21 = .ok (.iconst 0, 1) := by decide +kernel
theorem dX8_isCouple_22 : decode cX8_isCouple 22 = .ok (.ireturn, 1) := by decide +kernel
noncomputable def fX8_isCouple (rf : Nat → Nat → Nat) (a0 : Nat) (x1 : Int32) (x2 : Int32) (μ0 : o_Mem) : Option (Int32 × o_Mem) :=
  o_bd (fX8_isPerson rf a0 x1 μ0) fun r1 μ1 =>
  if r1 = 0 then (
    some (0, μ1))
  else (
    o_bd (fX8_isStrike rf a0 x2.toInt64 μ1) fun r2 μ2 =>
    if r2 = 0 then (
      some (0, μ2))
    else (
      some (1, μ2)))
set_option maxRecDepth 20000 in
theorem dnX8_isCouple {X : o_Cx} (hX : o_ok X) {d : Nat} {a0 : Nat} {x1 : Int32} {x2 : Int32} {μ0 : o_Mem} {q : Int32 → o_Mem → Prop} (h0 : o_is X a0 (.inl 8)) (h : o_Post (fX8_isCouple (o_rf X) a0 x1 x2 μ0) q) : o_Ev X (d + 1) mX8_isCouple 0 [some (.ref (o_ad X a0)), some (.int x1), some (.int x2)] [] μ0 (o_QZ q) := by
  unfold fX8_isCouple at h
  refine s_aload_n (i := 0) dX8_isCouple_0 rfl rfl ?_
  refine s_iload_n (i := 1) dX8_isCouple_1 rfl rfl ?_
  refine s_callVz (C := mX8_isPerson) (As := [.int x1]) (rest := []) (L0 := [some (.ref (o_ad X a0)), some (.int x1)]) hX h0 clX8_92 dX8_isCouple_2 rfl rfl (Nat.le_of_ble_eq_true rfl) (Nat.le_of_ble_eq_true rfl) (dnX8_isPerson hX h0 (o_bdp h)) (fun r1 μ1 zr1 h => ?_)
  refine s_if_eq (tgt := 21) dX8_isCouple_5 rfl (fun c1 => ?_) (fun c1 => ?_)
  · have h := o_if_t c1 h
    refine s_iconst dX8_isCouple_21 kI_0 ?_
    exact s_zreturn rfl (Or.inl rfl) dX8_isCouple_22 ⟨_, rfl, (Or.inl rfl), o_ret h⟩
  · have h := o_if_f c1 h
    refine s_aload_n (i := 0) dX8_isCouple_8 rfl rfl ?_
    refine s_iload_n (i := 2) dX8_isCouple_9 rfl rfl ?_
    refine s_i2l dX8_isCouple_10 ?_
    refine s_callVz (C := mX8_isStrike) (As := [.long x2.toInt64]) (rest := []) (L0 := [some (.ref (o_ad X a0)), some (.long x2.toInt64), none]) hX h0 clX8_96 dX8_isCouple_11 rfl rfl (Nat.le_of_ble_eq_true rfl) (Nat.le_of_ble_eq_true rfl) (dnX8_isStrike hX h0 (o_bdp h)) (fun r2 μ2 zr2 h => ?_)
    refine s_if_eq (tgt := 21) dX8_isCouple_14 rfl (fun c1 => ?_) (fun c1 => ?_)
    · have h := o_if_t c1 h
      refine s_iconst dX8_isCouple_21 kI_0 ?_
      exact s_zreturn rfl (Or.inl rfl) dX8_isCouple_22 ⟨_, rfl, (Or.inl rfl), o_ret h⟩
    · have h := o_if_f c1 h
      refine s_iconst dX8_isCouple_17 kI_1 ?_
      refine s_goto (tgt := 22) dX8_isCouple_18 rfl ?_
      exact s_zreturn rfl (Or.inr rfl) dX8_isCouple_22 ⟨_, rfl, (Or.inr rfl), o_ret h⟩
theorem dX11_within_0 : decode cX11_within 0 = .ok (.lload_n 0, 1) := by decide +kernel
theorem dX11_within_1 : decode cX11_within 1 = .ok (.lload_n 2, 1) := by decide +kernel
theorem dX11_within_2 : decode cX11_within 2 = .ok (.lcmp, 1) := by decide +kernel
theorem dX11_within_3 : decode cX11_within 3 = .ok (.ifCond .lt 14, 3) := by decide +kernel
theorem dX11_within_6 : decode cX11_within 6 = .ok (.lload_n 0, 1) := by decide +kernel
theorem dX11_within_7 : decode cX11_within 7 = .ok (.lload 4, 2) := by decide +kernel
theorem dX11_within_9 : decode cX11_within 9 = .ok (.lcmp, 1) := by decide +kernel
theorem dX11_within_10 : decode cX11_within 10 = .ok (.ifCond .gt 7, 3) := by decide +kernel
theorem dX11_within_13 : decode cX11_within 13 = .ok (.iconst 1, 1) := by decide +kernel
theorem dX11_within_14 : decode cX11_within 14 = .ok (.goto 4, 3) := by decide +kernel
theorem dX11_within_17 : decode cX11_within 17 = .ok (.iconst 0, 1) := by decide +kernel
theorem dX11_within_18 : decode cX11_within 18 = .ok (.ireturn, 1) := by decide +kernel
noncomputable def fX11_within (rf : Nat → Nat → Nat) (x0 : Int64) (x2 : Int64) (x4 : Int64) (μ0 : o_Mem) : Option (Int32 × o_Mem) :=
  if x0 < x2 then (
    some (0, μ0))
  else (
    if x4 < x0 then (
      some (0, μ0))
    else (
      some (1, μ0)))
set_option maxRecDepth 20000 in
theorem dnX11_within {X : o_Cx} (hX : o_ok X) {d : Nat} {x0 : Int64} {x2 : Int64} {x4 : Int64} {μ0 : o_Mem} {q : Int32 → o_Mem → Prop}  (h : o_Post (fX11_within (o_rf X) x0 x2 x4 μ0) q) : o_Ev X (d + 0) mX11_within 0 [some (.long x0), none, some (.long x2), none, some (.long x4), none] [] μ0 (o_QZ q) := by
  unfold fX11_within at h
  refine s_lload_n (i := 0) dX11_within_0 rfl rfl ?_
  refine s_lload_n (i := 2) dX11_within_1 rfl rfl ?_
  refine s_lif_lt (tgt := 17) dX11_within_2 dX11_within_3 rfl (fun c1 => ?_) (fun c1 => ?_)
  · have h := o_if_t c1 h
    refine s_iconst dX11_within_17 kI_0 ?_
    exact s_zreturn rfl (Or.inl rfl) dX11_within_18 ⟨_, rfl, (Or.inl rfl), o_ret h⟩
  · have h := o_if_f c1 h
    refine s_lload_n (i := 0) dX11_within_6 rfl rfl ?_
    refine s_lload dX11_within_7 rfl ?_
    refine s_lif_gt (tgt := 17) dX11_within_9 dX11_within_10 rfl (fun c1 => ?_) (fun c1 => ?_)
    · have h := o_if_t c1 h
      refine s_iconst dX11_within_17 kI_0 ?_
      exact s_zreturn rfl (Or.inl rfl) dX11_within_18 ⟨_, rfl, (Or.inl rfl), o_ret h⟩
    · have h := o_if_f c1 h
      refine s_iconst dX11_within_13 kI_1 ?_
      refine s_goto (tgt := 18) dX11_within_14 rfl ?_
      exact s_zreturn rfl (Or.inr rfl) dX11_within_18 ⟨_, rfl, (Or.inr rfl), o_ret h⟩
theorem dX8_isLetter_0 : decode cX8_isLetter 0 = .ok (.aload_n 0, 1) := by decide +kernel
theorem dX8_isLetter_1 : decode cX8_isLetter 1 = .ok (.iload_n 1, 1) := by decide +kernel
theorem dX8_isLetter_2 : decode cX8_isLetter 2 = .ok (.invokevirtual 92, 3) := by decide +kernel
theorem dX8_isLetter_5 : decode cX8_isLetter 5 = .ok (.ifCond .eq 41, 3) := by decide +kernel
theorem dX8_isLetter_8 : decode cX8_isLetter 8 = .ok (.aload_n 0, 1) := by decide +kernel
theorem dX8_isLetter_9 : decode cX8_isLetter 9 = .ok (.iload_n 2, 1) := by decide +kernel
theorem dX8_isLetter_10 : decode cX8_isLetter 10 = .ok (.invokevirtual 92, 3) := by decide +kernel
theorem dX8_isLetter_13 : decode cX8_isLetter 13 = .ok (.ifCond .eq 33, 3) := by decide +kernel
theorem dX8_isLetter_16 : decode cX8_isLetter 16 = .ok (.iload_n 1, 1) := by decide +kernel
theorem dX8_isLetter_17 : decode cX8_isLetter 17 = .ok (.iload_n 2, 1) := by decide +kernel
theorem dX8_isLetter_18 : decode cX8_isLetter 18 = .ok (.if_icmp .eq 28, 3) := by decide +kernel
theorem dX8_isLetter_21 : decode cX8_isLetter 21 = .ok (.iload_n 3, 1) := by decide +kernel
theorem dX8_isLetter_22 : decode cX8_isLetter 22 = .ok (.i2l, 1) := by decide +kernel
theorem dX8_isLetter_23 : decode cX8_isLetter 23 = .ok (.lconst 1, 1) := by decide +kernel
theorem dX8_isLetter_24 : decode cX8_isLetter 24 = .ok (.ldc2_w 100, 3) := by decide +kernel
theorem dX8_isLetter_27 : decode cX8_isLetter 27 = .ok (.invokestatic 102, 3) := by decide +kernel
theorem dX8_isLetter_30 : decode cX8_isLetter 30 = .ok (.ifCond .eq 16, 3) := by decide +kernel
theorem dX8_isLetter_33 : decode cX8_isLetter 33 = .ok (.aload_n 0, 1) := by decide +kernel
theorem dX8_isLetter_34 : decode cX8_isLetter 34 = .ok (.iload 4, 2) := by decide +kernel
theorem dX8_isLetter_36 : decode cX8_isLetter 36 = .ok (.invokevirtual 106, 3) := by decide +kernel
theorem dX8_isLetter_39 : decode cX8_isLetter 39 = .ok (.ifCond .eq 7, 3) := by decide +kernel
theorem dX8_isLetter_42 : decode cX8_isLetter 42 = .ok (.iconst 1, 1) := by decide +kernel
theorem dX8_isLetter_43 : decode cX8_isLetter 43 = .ok (.goto 4, 3) := by decide +kernel
theorem dX8_isLetter_46 : decode cX8_isLetter 46 = .ok (.iconst 0, 1) := by decide +kernel
theorem dX8_isLetter_47 : decode cX8_isLetter 47 = .ok (.ireturn, 1) := by decide +kernel
noncomputable def fX8_isLetter (rf : Nat → Nat → Nat) (a0 : Nat) (x1 : Int32) (x2 : Int32) (x3 : Int32) (x4 : Int32) (μ0 : o_Mem) : Option (Int32 × o_Mem) :=
  o_bd (fX8_isPerson rf a0 x1 μ0) fun r1 μ1 =>
  if r1 = 0 then (
    some (0, μ1))
  else (
    o_bd (fX8_isPerson rf a0 x2 μ1) fun r2 μ2 =>
    if r2 = 0 then (
      some (0, μ2))
    else (
      if x1 = x2 then (
        some (0, μ2))
      else (
        o_bd (fX11_within rf x3.toInt64 (1 : Int64) (99 : Int64) μ2) fun r3 μ3 =>
        if r3 = 0 then (
          some (0, μ3))
        else (
          o_bd (fX8_isHand rf a0 x4 μ3) fun r4 μ4 =>
          if r4 = 0 then (
            some (0, μ4))
          else (
            some (1, μ4))))))
set_option maxRecDepth 20000 in
theorem dnX8_isLetter {X : o_Cx} (hX : o_ok X) {d : Nat} {a0 : Nat} {x1 : Int32} {x2 : Int32} {x3 : Int32} {x4 : Int32} {μ0 : o_Mem} {q : Int32 → o_Mem → Prop} (h0 : o_is X a0 (.inl 8)) (h : o_Post (fX8_isLetter (o_rf X) a0 x1 x2 x3 x4 μ0) q) : o_Ev X (d + 1) mX8_isLetter 0 [some (.ref (o_ad X a0)), some (.int x1), some (.int x2), some (.int x3), some (.int x4)] [] μ0 (o_QZ q) := by
  unfold fX8_isLetter at h
  refine s_aload_n (i := 0) dX8_isLetter_0 rfl rfl ?_
  refine s_iload_n (i := 1) dX8_isLetter_1 rfl rfl ?_
  refine s_callVz (C := mX8_isPerson) (As := [.int x1]) (rest := []) (L0 := [some (.ref (o_ad X a0)), some (.int x1)]) hX h0 clX8_92 dX8_isLetter_2 rfl rfl (Nat.le_of_ble_eq_true rfl) (Nat.le_of_ble_eq_true rfl) (dnX8_isPerson hX h0 (o_bdp h)) (fun r1 μ1 zr1 h => ?_)
  refine s_if_eq (tgt := 46) dX8_isLetter_5 rfl (fun c1 => ?_) (fun c1 => ?_)
  · have h := o_if_t c1 h
    refine s_iconst dX8_isLetter_46 kI_0 ?_
    exact s_zreturn rfl (Or.inl rfl) dX8_isLetter_47 ⟨_, rfl, (Or.inl rfl), o_ret h⟩
  · have h := o_if_f c1 h
    refine s_aload_n (i := 0) dX8_isLetter_8 rfl rfl ?_
    refine s_iload_n (i := 2) dX8_isLetter_9 rfl rfl ?_
    refine s_callVz (C := mX8_isPerson) (As := [.int x2]) (rest := []) (L0 := [some (.ref (o_ad X a0)), some (.int x2)]) hX h0 clX8_92 dX8_isLetter_10 rfl rfl (Nat.le_of_ble_eq_true rfl) (Nat.le_of_ble_eq_true rfl) (dnX8_isPerson hX h0 (o_bdp h)) (fun r2 μ2 zr2 h => ?_)
    refine s_if_eq (tgt := 46) dX8_isLetter_13 rfl (fun c1 => ?_) (fun c1 => ?_)
    · have h := o_if_t c1 h
      refine s_iconst dX8_isLetter_46 kI_0 ?_
      exact s_zreturn rfl (Or.inl rfl) dX8_isLetter_47 ⟨_, rfl, (Or.inl rfl), o_ret h⟩
    · have h := o_if_f c1 h
      refine s_iload_n (i := 1) dX8_isLetter_16 rfl rfl ?_
      refine s_iload_n (i := 2) dX8_isLetter_17 rfl rfl ?_
      refine s_icmp_eq (tgt := 46) dX8_isLetter_18 rfl (fun c1 => ?_) (fun c1 => ?_)
      · have h := o_if_t c1 h
        refine s_iconst dX8_isLetter_46 kI_0 ?_
        exact s_zreturn rfl (Or.inl rfl) dX8_isLetter_47 ⟨_, rfl, (Or.inl rfl), o_ret h⟩
      · have h := o_if_f c1 h
        refine s_iload_n (i := 3) dX8_isLetter_21 rfl rfl ?_
        refine s_i2l dX8_isLetter_22 ?_
        refine s_lconst (v := 1) dX8_isLetter_23 rfl ?_
        refine s_ldc2 (v := 99) w_4_174 dX8_isLetter_24 ?_
        refine s_callNz (C := mX11_within) (As := [.long x3.toInt64, .long (1 : Int64), .long (99 : Int64)]) (rest := []) (L0 := [some (.long x3.toInt64), none, some (.long (1 : Int64)), none, some (.long (99 : Int64)), none]) rfl rfl rfl cbX11_within cstX11_within dX8_isLetter_27 rfl rfl (Nat.le_of_ble_eq_true rfl) (Nat.le_of_ble_eq_true rfl) (dnX11_within hX  (o_bdp h)) (fun r3 μ3 zr3 h => ?_)
        refine s_if_eq (tgt := 46) dX8_isLetter_30 rfl (fun c1 => ?_) (fun c1 => ?_)
        · have h := o_if_t c1 h
          refine s_iconst dX8_isLetter_46 kI_0 ?_
          exact s_zreturn rfl (Or.inl rfl) dX8_isLetter_47 ⟨_, rfl, (Or.inl rfl), o_ret h⟩
        · have h := o_if_f c1 h
          refine s_aload_n (i := 0) dX8_isLetter_33 rfl rfl ?_
          refine s_iload dX8_isLetter_34 rfl ?_
          refine s_callVz (C := mX8_isHand) (As := [.int x4]) (rest := []) (L0 := [some (.ref (o_ad X a0)), some (.int x4)]) hX h0 clX8_106 dX8_isLetter_36 rfl rfl (Nat.le_of_ble_eq_true rfl) (Nat.le_of_ble_eq_true rfl) (dnX8_isHand hX h0 (o_bdp h)) (fun r4 μ4 zr4 h => ?_)
          refine s_if_eq (tgt := 46) dX8_isLetter_39 rfl (fun c1 => ?_) (fun c1 => ?_)
          · have h := o_if_t c1 h
            refine s_iconst dX8_isLetter_46 kI_0 ?_
            exact s_zreturn rfl (Or.inl rfl) dX8_isLetter_47 ⟨_, rfl, (Or.inl rfl), o_ret h⟩
          · have h := o_if_f c1 h
            refine s_iconst dX8_isLetter_42 kI_1 ?_
            refine s_goto (tgt := 47) dX8_isLetter_43 rfl ?_
            exact s_zreturn rfl (Or.inr rfl) dX8_isLetter_47 ⟨_, rfl, (Or.inr rfl), o_ret h⟩
theorem dX8_isTaken_0 : decode cX8_isTaken 0 = .ok (.aload_n 0, 1) := by decide +kernel
theorem dX8_isTaken_1 : decode cX8_isTaken 1 = .ok (.iconst 0, 1) := by decide +kernel
theorem dX8_isTaken_2 : decode cX8_isTaken 2 = .ok (.lload_n 1, 1) := by decide +kernel
theorem dX8_isTaken_3 : decode cX8_isTaken 3 = .ok (.invokevirtual 113, 3) := by decide +kernel
theorem dX8_isTaken_6 : decode cX8_isTaken 6 = .ok (.iconst (-1), 1) := by decide +kernel
theorem dX8_isTaken_7 : decode cX8_isTaken 7 = .ok (.if_icmp .ne 23, 3) := by decide +kernel
theorem dX8_isTaken_10 : decode cX8_isTaken 10 = .ok (.aload_n 0, 1) := by decide +kernel
theorem dX8_isTaken_11 : decode cX8_isTaken 11 = .ok (.iconst 1, 1) := by decide +kernel
theorem dX8_isTaken_12 : decode cX8_isTaken 12 = .ok (.lload_n 1, 1) := by decide +kernel
theorem dX8_isTaken_13 : decode cX8_isTaken 13 = .ok (.invokevirtual 113, 3) := by decide +kernel
theorem dX8_isTaken_16 : decode cX8_isTaken 16 = .ok (.iconst (-1), 1) := by decide +kernel
theorem dX8_isTaken_17 : decode cX8_isTaken 17 = .ok (.if_icmp .ne 13, 3) := by decide +kernel
theorem dX8_isTaken_20 : decode cX8_isTaken 20 = .ok (.aload_n 0, 1) := by decide +kernel
theorem dX8_isTaken_21 : decode cX8_isTaken 21 = .ok (.iconst 2, 1) := by decide +kernel
theorem dX8_isTaken_22 : decode cX8_isTaken 22 = .ok (.lload_n 1, 1) := by decide +kernel
theorem dX8_isTaken_23 : decode cX8_isTaken 23 = .ok (.invokevirtual 113, 3) := by decide +kernel
theorem dX8_isTaken_26 : decode cX8_isTaken 26 = .ok (.iconst (-1), 1) := by decide +kernel
theorem dX8_isTaken_27 : decode cX8_isTaken 27 = .ok (.if_icmp .eq 7, 3) := by decide +kernel
theorem dX8_isTaken_30 : decode cX8_isTaken 30 = .ok (.iconst 1, 1) := by decide +kernel
theorem dX8_isTaken_31 : decode cX8_isTaken 31 = .ok (.goto 4, 3) := by decide +kernel
theorem dX8_isTaken_34 : decode cX8_isTaken 34 = .ok (.iconst 0, 1) := by decide +kernel
theorem dX8_isTaken_35 : decode cX8_isTaken 35 = .ok (.ireturn, 1) := by decide +kernel
noncomputable def fX8_isTaken (rf : Nat → Nat → Nat) (a0 : Nat) (x1 : Int64) (μ0 : o_Mem) : Option (Int32 × o_Mem) :=
  o_bd (fX8_numberOf rf a0 0 x1 μ0) fun r1 μ1 =>
  if r1 = (-1) then (
    o_bd (fX8_numberOf rf a0 1 x1 μ1) fun r2 μ2 =>
    if r2 = (-1) then (
      o_bd (fX8_numberOf rf a0 2 x1 μ2) fun r3 μ3 =>
      if r3 = (-1) then (
        some (0, μ3))
      else (
        some (1, μ3)))
    else (
      some (1, μ2)))
  else (
    some (1, μ1))
set_option maxRecDepth 20000 in
theorem dnX8_isTaken {X : o_Cx} (hX : o_ok X) {d : Nat} {a0 : Nat} {x1 : Int64} {μ0 : o_Mem} {q : Int32 → o_Mem → Prop} (h0 : o_is X a0 (.inl 8)) (h : o_Post (fX8_isTaken (o_rf X) a0 x1 μ0) q) : o_Ev X (d + 2) mX8_isTaken 0 [some (.ref (o_ad X a0)), some (.long x1), none] [] μ0 (o_QZ q) := by
  unfold fX8_isTaken at h
  refine s_aload_n (i := 0) dX8_isTaken_0 rfl rfl ?_
  refine s_iconst dX8_isTaken_1 kI_0 ?_
  refine s_lload_n (i := 1) dX8_isTaken_2 rfl rfl ?_
  refine s_callVi (C := mX8_numberOf) (As := [.int 0, .long x1]) (rest := []) (L0 := [some (.ref (o_ad X a0)), some (.int 0), some (.long x1), none, none]) hX h0 clX8_113 dX8_isTaken_3 rfl rfl (Nat.le_of_ble_eq_true rfl) (Nat.le_of_ble_eq_true rfl) (dnX8_numberOf hX h0 (o_bdp h)) (fun r1 μ1 h => ?_)
  refine s_iconst dX8_isTaken_6 kI_m1 ?_
  refine s_icmp_ne (tgt := 30) dX8_isTaken_7 rfl (fun c1 => ?_) (fun c1 => ?_)
  · have h := o_if_f c1 h
    refine s_iconst dX8_isTaken_30 kI_1 ?_
    refine s_goto (tgt := 35) dX8_isTaken_31 rfl ?_
    exact s_zreturn rfl (Or.inr rfl) dX8_isTaken_35 ⟨_, rfl, (Or.inr rfl), o_ret h⟩
  · have h := o_if_t c1 h
    refine s_aload_n (i := 0) dX8_isTaken_10 rfl rfl ?_
    refine s_iconst dX8_isTaken_11 kI_1 ?_
    refine s_lload_n (i := 1) dX8_isTaken_12 rfl rfl ?_
    refine s_callVi (C := mX8_numberOf) (As := [.int 1, .long x1]) (rest := []) (L0 := [some (.ref (o_ad X a0)), some (.int 1), some (.long x1), none, none]) hX h0 clX8_113 dX8_isTaken_13 rfl rfl (Nat.le_of_ble_eq_true rfl) (Nat.le_of_ble_eq_true rfl) (dnX8_numberOf hX h0 (o_bdp h)) (fun r2 μ2 h => ?_)
    refine s_iconst dX8_isTaken_16 kI_m1 ?_
    refine s_icmp_ne (tgt := 30) dX8_isTaken_17 rfl (fun c1 => ?_) (fun c1 => ?_)
    · have h := o_if_f c1 h
      refine s_iconst dX8_isTaken_30 kI_1 ?_
      refine s_goto (tgt := 35) dX8_isTaken_31 rfl ?_
      exact s_zreturn rfl (Or.inr rfl) dX8_isTaken_35 ⟨_, rfl, (Or.inr rfl), o_ret h⟩
    · have h := o_if_t c1 h
      refine s_aload_n (i := 0) dX8_isTaken_20 rfl rfl ?_
      refine s_iconst dX8_isTaken_21 kI_2 ?_
      refine s_lload_n (i := 1) dX8_isTaken_22 rfl rfl ?_
      refine s_callVi (C := mX8_numberOf) (As := [.int 2, .long x1]) (rest := []) (L0 := [some (.ref (o_ad X a0)), some (.int 2), some (.long x1), none, none]) hX h0 clX8_113 dX8_isTaken_23 rfl rfl (Nat.le_of_ble_eq_true rfl) (Nat.le_of_ble_eq_true rfl) (dnX8_numberOf hX h0 (o_bdp h)) (fun r3 μ3 h => ?_)
      refine s_iconst dX8_isTaken_26 kI_m1 ?_
      refine s_icmp_eq (tgt := 34) dX8_isTaken_27 rfl (fun c1 => ?_) (fun c1 => ?_)
      · have h := o_if_t c1 h
        refine s_iconst dX8_isTaken_34 kI_0 ?_
        exact s_zreturn rfl (Or.inl rfl) dX8_isTaken_35 ⟨_, rfl, (Or.inl rfl), o_ret h⟩
      · have h := o_if_f c1 h
        refine s_iconst dX8_isTaken_30 kI_1 ?_
        refine s_goto (tgt := 35) dX8_isTaken_31 rfl ?_
        exact s_zreturn rfl (Or.inr rfl) dX8_isTaken_35 ⟨_, rfl, (Or.inr rfl), o_ret h⟩
theorem dX8_setActs_0 : decode cX8_setActs 0 = .ok (.aload_n 0, 1) := by decide +kernel
theorem dX8_setActs_1 : decode cX8_setActs 1 = .ok (.getfield 28, 3) := by decide +kernel
theorem dX8_setActs_4 : decode cX8_setActs 4 = .ok (.iload_n 1, 1) := by decide +kernel
theorem dX8_setActs_5 : decode cX8_setActs 5 = .ok (.bipush 6, 2) := by decide +kernel
theorem dX8_setActs_7 : decode cX8_setActs 7 = .ok (.imul, 1) := by decide +kernel
theorem dX8_setActs_8 : decode cX8_setActs 8 = .ok (.iload_n 2, 1) := by decide +kernel
theorem dX8_setActs_9 : decode cX8_setActs 9 = .ok (.iadd, 1) := by decide +kernel
theorem dX8_setActs_10 : decode cX8_setActs 10 = .ok (.iload_n 3, 1) := by decide +kernel
theorem dX8_setActs_11 : decode cX8_setActs 11 = .ok (.iastore, 1) := by decide +kernel
theorem dX8_setActs_12 : decode cX8_setActs 12 = .ok (.aload_n 0, 1) := by decide +kernel
theorem dX8_setActs_13 : decode cX8_setActs 13 = .ok (.getfield 31, 3) := by decide +kernel
theorem dX8_setActs_16 : decode cX8_setActs 16 = .ok (.iload_n 1, 1) := by decide +kernel
theorem dX8_setActs_17 : decode cX8_setActs 17 = .ok (.bipush 6, 2) := by decide +kernel
theorem dX8_setActs_19 : decode cX8_setActs 19 = .ok (.imul, 1) := by decide +kernel
theorem dX8_setActs_20 : decode cX8_setActs 20 = .ok (.iload_n 2, 1) := by decide +kernel
theorem dX8_setActs_21 : decode cX8_setActs 21 = .ok (.iadd, 1) := by decide +kernel
theorem dX8_setActs_22 : decode cX8_setActs 22 = .ok (.iload 4, 2) := by decide +kernel
theorem dX8_setActs_24 : decode cX8_setActs 24 = .ok (.iastore, 1) := by decide +kernel
theorem dX8_setActs_25 : decode cX8_setActs 25 = .ok (.return_, 1) := by decide +kernel
noncomputable def fX8_setActs (rf : Nat → Nat → Nat) (a0 : Nat) (x1 : Int32) (x2 : Int32) (x3 : Int32) (x4 : Int32) (μ0 : o_Mem) : Option (Unit × o_Mem) :=
  o_ck (0 ≤ (((x1 * 6) + x2)).toInt ∧ (((x1 * 6) + x2)).toInt < 36) <|
  o_seq (o_wI μ0 (rf a0 13) ((((x1 * 6) + x2)).toNatClampNeg) x3) fun μ1 =>
  o_ck (0 ≤ (((x1 * 6) + x2)).toInt ∧ (((x1 * 6) + x2)).toInt < 36) <|
  o_seq (o_wI μ1 (rf a0 14) ((((x1 * 6) + x2)).toNatClampNeg) x4) fun μ2 =>
  some ((), μ2)
set_option maxRecDepth 20000 in
theorem dnX8_setActs {X : o_Cx} (hX : o_ok X) {d : Nat} {a0 : Nat} {x1 : Int32} {x2 : Int32} {x3 : Int32} {x4 : Int32} {μ0 : o_Mem} {q : Unit → o_Mem → Prop} (h0 : o_is X a0 (.inl 8)) (h : o_Post (fX8_setActs (o_rf X) a0 x1 x2 x3 x4 μ0) q) : o_Ev X (d + 0) mX8_setActs 0 [some (.ref (o_ad X a0)), some (.int x1), some (.int x2), some (.int x3), some (.int x4)] [] μ0 (o_QU q) := by
  unfold fX8_setActs at h
  refine s_aload_n (i := 0) dX8_setActs_0 rfl rfl ?_
  refine s_getR hX h0 flX8_28 rfl dX8_setActs_1 (fun (g1 : o_is X (o_rf X a0 13) (.inr (0, 36))) => ?_)
  refine s_iload_n (i := 1) dX8_setActs_4 rfl rfl ?_
  refine s_bipush dX8_setActs_5 kB_6 ?_
  refine s_imul dX8_setActs_7 ?_
  refine s_iload_n (i := 2) dX8_setActs_8 rfl rfl ?_
  refine s_iadd dX8_setActs_9 ?_
  refine s_iload_n (i := 3) dX8_setActs_10 rfl rfl ?_
  have hc := o_ck_c h
  have h := o_ck_k h
  refine s_iastK hX g1 hc rfl dX8_setActs_11 (o_gen h (fun μ1 h => ?_))
  refine s_aload_n (i := 0) dX8_setActs_12 rfl rfl ?_
  refine s_getR hX h0 flX8_31 rfl dX8_setActs_13 (fun (g2 : o_is X (o_rf X a0 14) (.inr (0, 36))) => ?_)
  refine s_iload_n (i := 1) dX8_setActs_16 rfl rfl ?_
  refine s_bipush dX8_setActs_17 kB_6 ?_
  refine s_imul dX8_setActs_19 ?_
  refine s_iload_n (i := 2) dX8_setActs_20 rfl rfl ?_
  refine s_iadd dX8_setActs_21 ?_
  refine s_iload dX8_setActs_22 rfl ?_
  have hc := o_ck_c h
  have h := o_ck_k h
  refine s_iastK hX g2 hc rfl dX8_setActs_24 (o_gen h (fun μ2 h => ?_))
  exact s_return rfl dX8_setActs_25 ⟨rfl, o_ret h⟩
theorem dX8_swapLaws_0 : decode cX8_swapLaws 0 = .ok (.iconst 0, 1) := by decide +kernel
theorem dX8_swapLaws_1 : decode cX8_swapLaws 1 = .ok (.istore_n 3, 1) := by decide +kernel
theorem dX8_swapLaws_2 : decode cX8_swapLaws 2 = .ok (.iload_n 3, 1) := by decide +kernel
theorem dX8_swapLaws_3 : decode cX8_swapLaws 3 = .ok (.bipush 6, 2) := by decide +kernel
theorem dX8_swapLaws_5 : decode cX8_swapLaws 5 = .ok (.if_icmp .ge 57, 3) := by decide +kernel
theorem dX8_swapLaws_8 : decode cX8_swapLaws 8 = .ok (.aload_n 0, 1) := by decide +kernel
theorem dX8_swapLaws_9 : decode cX8_swapLaws 9 = .ok (.getfield 25, 3) := by decide +kernel
theorem dX8_swapLaws_12 : decode cX8_swapLaws 12 = .ok (.iload_n 1, 1) := by decide +kernel
theorem dX8_swapLaws_13 : decode cX8_swapLaws 13 = .ok (.bipush 6, 2) := by decide +kernel
theorem dX8_swapLaws_15 : decode cX8_swapLaws 15 = .ok (.imul, 1) := by decide +kernel
theorem dX8_swapLaws_16 : decode cX8_swapLaws 16 = .ok (.iload_n 3, 1) := by decide +kernel
theorem dX8_swapLaws_17 : decode cX8_swapLaws 17 = .ok (.iadd, 1) := by decide +kernel
theorem dX8_swapLaws_18 : decode cX8_swapLaws 18 = .ok (.iaload, 1) := by decide +kernel
theorem dX8_swapLaws_19 : decode cX8_swapLaws 19 = .ok (.istore 4, 2) := by decide +kernel
theorem dX8_swapLaws_21 : decode cX8_swapLaws 21 = .ok (.aload_n 0, 1) := by decide +kernel
theorem dX8_swapLaws_22 : decode cX8_swapLaws 22 = .ok (.getfield 25, 3) := by decide +kernel
theorem dX8_swapLaws_25 : decode cX8_swapLaws 25 = .ok (.iload_n 1, 1) := by decide +kernel
theorem dX8_swapLaws_26 : decode cX8_swapLaws 26 = .ok (.bipush 6, 2) := by decide +kernel
theorem dX8_swapLaws_28 : decode cX8_swapLaws 28 = .ok (.imul, 1) := by decide +kernel
theorem dX8_swapLaws_29 : decode cX8_swapLaws 29 = .ok (.iload_n 3, 1) := by decide +kernel
theorem dX8_swapLaws_30 : decode cX8_swapLaws 30 = .ok (.iadd, 1) := by decide +kernel
theorem dX8_swapLaws_31 : decode cX8_swapLaws 31 = .ok (.aload_n 0, 1) := by decide +kernel
theorem dX8_swapLaws_32 : decode cX8_swapLaws 32 = .ok (.getfield 25, 3) := by decide +kernel
theorem dX8_swapLaws_35 : decode cX8_swapLaws 35 = .ok (.iload_n 2, 1) := by decide +kernel
theorem dX8_swapLaws_36 : decode cX8_swapLaws 36 = .ok (.bipush 6, 2) := by decide +kernel
theorem dX8_swapLaws_38 : decode cX8_swapLaws 38 = .ok (.imul, 1) := by decide +kernel
theorem dX8_swapLaws_39 : decode cX8_swapLaws 39 = .ok (.iload_n 3, 1) := by decide +kernel
theorem dX8_swapLaws_40 : decode cX8_swapLaws 40 = .ok (.iadd, 1) := by decide +kernel
theorem dX8_swapLaws_41 : decode cX8_swapLaws 41 = .ok (.iaload, 1) := by decide +kernel
theorem dX8_swapLaws_42 : decode cX8_swapLaws 42 = .ok (.iastore, 1) := by decide +kernel
theorem dX8_swapLaws_43 : decode cX8_swapLaws 43 = .ok (.aload_n 0, 1) := by decide +kernel
theorem dX8_swapLaws_44 : decode cX8_swapLaws 44 = .ok (.getfield 25, 3) := by decide +kernel
theorem dX8_swapLaws_47 : decode cX8_swapLaws 47 = .ok (.iload_n 2, 1) := by decide +kernel
theorem dX8_swapLaws_48 : decode cX8_swapLaws 48 = .ok (.bipush 6, 2) := by decide +kernel
theorem dX8_swapLaws_50 : decode cX8_swapLaws 50 = .ok (.imul, 1) := by decide +kernel
theorem dX8_swapLaws_51 : decode cX8_swapLaws 51 = .ok (.iload_n 3, 1) := by decide +kernel
theorem dX8_swapLaws_52 : decode cX8_swapLaws 52 = .ok (.iadd, 1) := by decide +kernel
theorem dX8_swapLaws_53 : decode cX8_swapLaws 53 = .ok (.iload 4, 2) := by decide +kernel
theorem dX8_swapLaws_55 : decode cX8_swapLaws 55 = .ok (.iastore, 1) := by decide +kernel
theorem dX8_swapLaws_56 : decode cX8_swapLaws 56 = .ok (.iinc 3 1, 3) := by decide +kernel
theorem dX8_swapLaws_59 : decode cX8_swapLaws 59 = .ok (.goto (-57), 3) := by decide +kernel
theorem dX8_swapLaws_62 : decode cX8_swapLaws 62 = .ok (.return_, 1) := by decide +kernel
noncomputable def fX8_swapLaws_s2 (rf : Nat → Nat → Nat) (a0 : Nat) (x1 : Int32) (x2 : Int32) (τ2 : Int32) (μ0 : o_Mem) : Option ((Nat × (Int32)) × o_Mem) :=
  if 6 ≤ τ2 then (
    some ((62, 0), μ0))
  else (
    o_ck (0 ≤ (((x1 * 6) + τ2)).toInt ∧ (((x1 * 6) + τ2)).toInt < 48) <|
    o_ck (0 ≤ (((x2 * 6) + τ2)).toInt ∧ (((x2 * 6) + τ2)).toInt < 48) <|
    o_ck (0 ≤ (((x1 * 6) + τ2)).toInt ∧ (((x1 * 6) + τ2)).toInt < 48) <|
    o_seq (o_wI μ0 (rf a0 12) ((((x1 * 6) + τ2)).toNatClampNeg) (μ0.1 (rf a0 12) (((x2 * 6) + τ2)).toNatClampNeg)) fun μ1 =>
    o_ck (0 ≤ (((x2 * 6) + τ2)).toInt ∧ (((x2 * 6) + τ2)).toInt < 48) <|
    o_seq (o_wI μ1 (rf a0 12) ((((x2 * 6) + τ2)).toNatClampNeg) (μ0.1 (rf a0 12) (((x1 * 6) + τ2)).toNatClampNeg)) fun μ2 =>
    some ((2, (τ2 + 1)), μ2))
noncomputable def fX8_swapLaws (rf : Nat → Nat → Nat) (a0 : Nat) (x1 : Int32) (x2 : Int32) (μ0 : o_Mem) : Option (Unit × o_Mem) :=
  o_bd (o_lp 2 (fX8_swapLaws_s2 rf a0 x1 x2) o_fuel (0 : Int32) μ0) fun ex1 μ1 =>
  if ex1.1 = 62 then (
    some ((), μ1))
  else
    none
set_option maxRecDepth 20000 in
theorem dnX8_swapLaws_s2 {X : o_Cx} (hX : o_ok X) {d : Nat} {a0 : Nat} {x1 : Int32} {x2 : Int32} {τ2 : Int32} {μ0 : o_Mem} {K : (Nat × (Int32)) → o_Mem → Prop} {Q : Option Value → o_Mem → Prop} (h0 : o_is X a0 (.inl 8)) (h : o_Post (fX8_swapLaws_s2 (o_rf X) a0 x1 x2 τ2 μ0) K) (kh : ∀ (τ2 : Int32) (μ : o_Mem), K (2, τ2) μ → o_Ev X (d + 0) mX8_swapLaws 2 [some (.ref (o_ad X a0)), some (.int x1), some (.int x2), some (.int τ2), none] [] μ Q) (k62 : ∀ (τ2 : Int32) (μ : o_Mem), K (62, τ2) μ → o_Ev X (d + 0) mX8_swapLaws 62 [none, none, none, none, none] [] μ Q) : o_Ev X (d + 0) mX8_swapLaws 2 [some (.ref (o_ad X a0)), some (.int x1), some (.int x2), some (.int τ2), none] [] μ0 Q := by
  unfold fX8_swapLaws_s2 at h
  refine s_iload_n (i := 3) dX8_swapLaws_2 rfl rfl ?_
  refine s_bipush dX8_swapLaws_3 kB_6 ?_
  refine s_icmp_ge (tgt := 62) dX8_swapLaws_5 rfl (fun c1 => ?_) (fun c1 => ?_)
  · have h := o_if_t c1 h
    refine s_mask [false, false, false, false, false] (L' := [none, none, none, none, none]) rfl ?_
    exact k62 0 _ (o_ret h)
  · have h := o_if_f c1 h
    refine s_aload_n (i := 0) dX8_swapLaws_8 rfl rfl ?_
    refine s_getR hX h0 flX8_25 rfl dX8_swapLaws_9 (fun (g1 : o_is X (o_rf X a0 12) (.inr (0, 48))) => ?_)
    refine s_iload_n (i := 1) dX8_swapLaws_12 rfl rfl ?_
    refine s_bipush dX8_swapLaws_13 kB_6 ?_
    refine s_imul dX8_swapLaws_15 ?_
    refine s_iload_n (i := 3) dX8_swapLaws_16 rfl rfl ?_
    refine s_iadd dX8_swapLaws_17 ?_
    have hc := o_ck_c h
    have h := o_ck_k h
    refine s_ialdK g1 hc rfl dX8_swapLaws_18 ?_
    refine s_istore dX8_swapLaws_19 (Nat.le_of_ble_eq_true rfl) rfl ?_
    refine s_aload_n (i := 0) dX8_swapLaws_21 rfl rfl ?_
    refine s_getR hX h0 flX8_25 rfl dX8_swapLaws_22 (fun (g2 : o_is X (o_rf X a0 12) (.inr (0, 48))) => ?_)
    refine s_iload_n (i := 1) dX8_swapLaws_25 rfl rfl ?_
    refine s_bipush dX8_swapLaws_26 kB_6 ?_
    refine s_imul dX8_swapLaws_28 ?_
    refine s_iload_n (i := 3) dX8_swapLaws_29 rfl rfl ?_
    refine s_iadd dX8_swapLaws_30 ?_
    refine s_aload_n (i := 0) dX8_swapLaws_31 rfl rfl ?_
    refine s_getR hX h0 flX8_25 rfl dX8_swapLaws_32 (fun (g3 : o_is X (o_rf X a0 12) (.inr (0, 48))) => ?_)
    refine s_iload_n (i := 2) dX8_swapLaws_35 rfl rfl ?_
    refine s_bipush dX8_swapLaws_36 kB_6 ?_
    refine s_imul dX8_swapLaws_38 ?_
    refine s_iload_n (i := 3) dX8_swapLaws_39 rfl rfl ?_
    refine s_iadd dX8_swapLaws_40 ?_
    have hc := o_ck_c h
    have h := o_ck_k h
    refine s_ialdK g3 hc rfl dX8_swapLaws_41 ?_
    have hc := o_ck_c h
    have h := o_ck_k h
    refine s_iastK hX g2 hc rfl dX8_swapLaws_42 (o_gen h (fun μ1 h => ?_))
    refine s_aload_n (i := 0) dX8_swapLaws_43 rfl rfl ?_
    refine s_getR hX h0 flX8_25 rfl dX8_swapLaws_44 (fun (g4 : o_is X (o_rf X a0 12) (.inr (0, 48))) => ?_)
    refine s_iload_n (i := 2) dX8_swapLaws_47 rfl rfl ?_
    refine s_bipush dX8_swapLaws_48 kB_6 ?_
    refine s_imul dX8_swapLaws_50 ?_
    refine s_iload_n (i := 3) dX8_swapLaws_51 rfl rfl ?_
    refine s_iadd dX8_swapLaws_52 ?_
    refine s_iload dX8_swapLaws_53 rfl ?_
    have hc := o_ck_c h
    have h := o_ck_k h
    refine s_iastK hX g4 hc rfl dX8_swapLaws_55 (o_gen h (fun μ2 h => ?_))
    refine s_iinc (v := (τ2 + 1)) dX8_swapLaws_56 rfl rfl (Nat.le_of_ble_eq_true rfl) rfl ?_
    refine s_goto (tgt := 2) dX8_swapLaws_59 rfl ?_
    refine s_mask [true, true, true, true, false] (L' := [some (.ref (o_ad X a0)), some (.int x1), some (.int x2), some (.int (τ2 + 1)), none]) rfl ?_
    exact kh (τ2 + 1) _ (o_ret h)
set_option maxRecDepth 20000 in
theorem dnX8_swapLaws {X : o_Cx} (hX : o_ok X) {d : Nat} {a0 : Nat} {x1 : Int32} {x2 : Int32} {μ0 : o_Mem} {q : Unit → o_Mem → Prop} (h0 : o_is X a0 (.inl 8)) (h : o_Post (fX8_swapLaws (o_rf X) a0 x1 x2 μ0) q) : o_Ev X (d + 0) mX8_swapLaws 0 [some (.ref (o_ad X a0)), some (.int x1), some (.int x2), none, none] [] μ0 (o_QU q) := by
  unfold fX8_swapLaws at h
  refine s_iconst dX8_swapLaws_0 kI_0 ?_
  refine s_istore_n (i := 3) dX8_swapLaws_1 rfl (Nat.le_of_ble_eq_true rfl) rfl ?_
  refine s_mask [true, true, true, true, false] (L' := [some (.ref (o_ad X a0)), some (.int x1), some (.int x2), some (.int 0), none]) rfl ?_
  refine o_lp_ev (fun τ2 => [some (.ref (o_ad X a0)), some (.int x1), some (.int x2), some (.int τ2), none]) (fun τ2 μ _K h kv ke2 => dnX8_swapLaws_s2 hX h0 h kv (fun τ2 μ1 h => ?_)) o_fuel 0 μ0 (o_bdp h)
  · have h := o_if_t rfl (ke2 (62, τ2) μ1 (o_ne rfl) h)
    exact s_return rfl dX8_swapLaws_62 ⟨rfl, o_ret h⟩
theorem dX8_worthOfAll_0 : decode cX8_worthOfAll 0 = .ok (.iconst 0, 1) := by decide +kernel
theorem dX8_worthOfAll_1 : decode cX8_worthOfAll 1 = .ok (.istore_n 1, 1) := by decide +kernel
theorem dX8_worthOfAll_2 : decode cX8_worthOfAll 2 = .ok (.iconst 0, 1) := by decide +kernel
theorem dX8_worthOfAll_3 : decode cX8_worthOfAll 3 = .ok (.istore_n 2, 1) := by decide +kernel
theorem dX8_worthOfAll_4 : decode cX8_worthOfAll 4 = .ok (.iload_n 2, 1) := by decide +kernel
theorem dX8_worthOfAll_5 : decode cX8_worthOfAll 5 = .ok (.aload_n 0, 1) := by decide +kernel
theorem dX8_worthOfAll_6 : decode cX8_worthOfAll 6 = .ok (.getfield 48, 3) := by decide +kernel
theorem dX8_worthOfAll_9 : decode cX8_worthOfAll 9 = .ok (.if_icmp .ge 25, 3) := by decide +kernel
theorem dX8_worthOfAll_12 : decode cX8_worthOfAll 12 = .ok (.iload_n 1, 1) := by decide +kernel
theorem dX8_worthOfAll_13 : decode cX8_worthOfAll 13 = .ok (.aload_n 0, 1) := by decide +kernel
theorem dX8_worthOfAll_14 : decode cX8_worthOfAll 14 = .ok (.getfield 19, 3) := by decide +kernel
theorem dX8_worthOfAll_17 : decode cX8_worthOfAll 17 = .ok (.iload_n 2, 1) := by decide +kernel
theorem dX8_worthOfAll_18 : decode cX8_worthOfAll 18 = .ok (.iaload, 1) := by decide +kernel
theorem dX8_worthOfAll_19 : decode cX8_worthOfAll 19 = .ok (.aload_n 0, 1) := by decide +kernel
theorem dX8_worthOfAll_20 : decode cX8_worthOfAll 20 = .ok (.getfield 15, 3) := by decide +kernel
theorem dX8_worthOfAll_23 : decode cX8_worthOfAll 23 = .ok (.iload_n 2, 1) := by decide +kernel
theorem dX8_worthOfAll_24 : decode cX8_worthOfAll 24 = .ok (.iaload, 1) := by decide +kernel
theorem dX8_worthOfAll_25 : decode cX8_worthOfAll 25 = .ok (.imul, 1) := by decide +kernel
theorem dX8_worthOfAll_26 : decode cX8_worthOfAll 26 = .ok (.iadd, 1) := by decide +kernel
theorem dX8_worthOfAll_27 : decode cX8_worthOfAll 27 = .ok (.istore_n 1, 1) := by decide +kernel
theorem dX8_worthOfAll_28 : decode cX8_worthOfAll 28 = .ok (.iinc 2 1, 3) := by decide +kernel
theorem dX8_worthOfAll_31 : decode cX8_worthOfAll 31 = .ok (.goto (-27), 3) := by decide +kernel
theorem dX8_worthOfAll_34 : decode cX8_worthOfAll 34 = .ok (.iload_n 1, 1) := by decide +kernel
theorem dX8_worthOfAll_35 : decode cX8_worthOfAll 35 = .ok (.ireturn, 1) := by decide +kernel
noncomputable def fX8_worthOfAll_s4 (rf : Nat → Nat → Nat) (a0 : Nat) (τ4 : Int32 × Int32) (μ0 : o_Mem) : Option ((Nat × (Int32 × Int32)) × o_Mem) :=
  if (μ0.1 a0 0) ≤ τ4.2 then (
    some ((34, (τ4.1, 0)), μ0))
  else (
    o_ck (0 ≤ (τ4.2).toInt ∧ (τ4.2).toInt < 6) <|
    o_ck (0 ≤ (τ4.2).toInt ∧ (τ4.2).toInt < 6) <|
    some ((4, ((τ4.1 + ((μ0.1 (rf a0 10) (τ4.2).toNatClampNeg) * (μ0.1 (rf a0 9) (τ4.2).toNatClampNeg))), (τ4.2 + 1))), μ0))
noncomputable def fX8_worthOfAll (rf : Nat → Nat → Nat) (a0 : Nat) (μ0 : o_Mem) : Option (Int32 × o_Mem) :=
  o_bd (o_lp 4 (fX8_worthOfAll_s4 rf a0) o_fuel (0, 0) μ0) fun ex1 μ1 =>
  if ex1.1 = 34 then (
    some (ex1.2.1, μ1))
  else
    none
set_option maxRecDepth 20000 in
theorem dnX8_worthOfAll_s4 {X : o_Cx} (hX : o_ok X) {d : Nat} {a0 : Nat} {τ4 : Int32 × Int32} {μ0 : o_Mem} {K : (Nat × (Int32 × Int32)) → o_Mem → Prop} {Q : Option Value → o_Mem → Prop} (h0 : o_is X a0 (.inl 8)) (h : o_Post (fX8_worthOfAll_s4 (o_rf X) a0 τ4 μ0) K) (kh : ∀ (τ4 : Int32 × Int32) (μ : o_Mem), K (4, τ4) μ → o_Ev X (d + 0) mX8_worthOfAll 4 [some (.ref (o_ad X a0)), some (.int τ4.1), some (.int τ4.2)] [] μ Q) (k34 : ∀ (τ4 : Int32 × Int32) (μ : o_Mem), K (34, τ4) μ → o_Ev X (d + 0) mX8_worthOfAll 34 [none, some (.int τ4.1), none] [] μ Q) : o_Ev X (d + 0) mX8_worthOfAll 4 [some (.ref (o_ad X a0)), some (.int τ4.1), some (.int τ4.2)] [] μ0 Q := by
  unfold fX8_worthOfAll_s4 at h
  refine s_iload_n (i := 2) dX8_worthOfAll_4 rfl rfl ?_
  refine s_aload_n (i := 0) dX8_worthOfAll_5 rfl rfl ?_
  refine s_getI h0 flX8_48 rfl dX8_worthOfAll_6 ?_
  refine s_icmp_ge (tgt := 34) dX8_worthOfAll_9 rfl (fun c1 => ?_) (fun c1 => ?_)
  · have h := o_if_t c1 h
    refine s_mask [false, true, false] (L' := [none, some (.int τ4.1), none]) rfl ?_
    exact k34 (τ4.1, 0) _ (o_ret h)
  · have h := o_if_f c1 h
    refine s_iload_n (i := 1) dX8_worthOfAll_12 rfl rfl ?_
    refine s_aload_n (i := 0) dX8_worthOfAll_13 rfl rfl ?_
    refine s_getR hX h0 flX8_19 rfl dX8_worthOfAll_14 (fun (g1 : o_is X (o_rf X a0 10) (.inr (0, 6))) => ?_)
    refine s_iload_n (i := 2) dX8_worthOfAll_17 rfl rfl ?_
    have hc := o_ck_c h
    have h := o_ck_k h
    refine s_ialdK g1 hc rfl dX8_worthOfAll_18 ?_
    refine s_aload_n (i := 0) dX8_worthOfAll_19 rfl rfl ?_
    refine s_getR hX h0 flX8_15 rfl dX8_worthOfAll_20 (fun (g2 : o_is X (o_rf X a0 9) (.inr (0, 6))) => ?_)
    refine s_iload_n (i := 2) dX8_worthOfAll_23 rfl rfl ?_
    have hc := o_ck_c h
    have h := o_ck_k h
    refine s_ialdK g2 hc rfl dX8_worthOfAll_24 ?_
    refine s_imul dX8_worthOfAll_25 ?_
    refine s_iadd dX8_worthOfAll_26 ?_
    refine s_istore_n (i := 1) dX8_worthOfAll_27 rfl (Nat.le_of_ble_eq_true rfl) rfl ?_
    refine s_iinc (v := (τ4.2 + 1)) dX8_worthOfAll_28 rfl rfl (Nat.le_of_ble_eq_true rfl) rfl ?_
    refine s_goto (tgt := 4) dX8_worthOfAll_31 rfl ?_
    refine s_mask [true, true, true] (L' := [some (.ref (o_ad X a0)), some (.int (τ4.1 + ((μ0.1 (o_rf X a0 10) (τ4.2).toNatClampNeg) * (μ0.1 (o_rf X a0 9) (τ4.2).toNatClampNeg)))), some (.int (τ4.2 + 1))]) rfl ?_
    exact kh ((τ4.1 + ((μ0.1 (o_rf X a0 10) (τ4.2).toNatClampNeg) * (μ0.1 (o_rf X a0 9) (τ4.2).toNatClampNeg))), (τ4.2 + 1)) _ (o_ret h)
set_option maxRecDepth 20000 in
theorem dnX8_worthOfAll {X : o_Cx} (hX : o_ok X) {d : Nat} {a0 : Nat} {μ0 : o_Mem} {q : Int32 → o_Mem → Prop} (h0 : o_is X a0 (.inl 8)) (h : o_Post (fX8_worthOfAll (o_rf X) a0 μ0) q) : o_Ev X (d + 0) mX8_worthOfAll 0 [some (.ref (o_ad X a0)), none, none] [] μ0 (o_QI q) := by
  unfold fX8_worthOfAll at h
  refine s_iconst dX8_worthOfAll_0 kI_0 ?_
  refine s_istore_n (i := 1) dX8_worthOfAll_1 rfl (Nat.le_of_ble_eq_true rfl) rfl ?_
  refine s_iconst dX8_worthOfAll_2 kI_0 ?_
  refine s_istore_n (i := 2) dX8_worthOfAll_3 rfl (Nat.le_of_ble_eq_true rfl) rfl ?_
  refine s_mask [true, true, true] (L' := [some (.ref (o_ad X a0)), some (.int 0), some (.int 0)]) rfl ?_
  refine o_lp_ev (fun τ4 => [some (.ref (o_ad X a0)), some (.int τ4.1), some (.int τ4.2)]) (fun τ4 μ _K h kv ke4 => dnX8_worthOfAll_s4 hX h0 h kv (fun τ4 μ1 h => ?_)) o_fuel (0, 0) μ0 (o_bdp h)
  · have h := o_if_t rfl (ke4 (34, τ4) μ1 (o_ne rfl) h)
    refine s_iload_n (i := 1) dX8_worthOfAll_34 rfl rfl ?_
    exact s_ireturn rfl dX8_worthOfAll_35 ⟨_, rfl, o_ret h⟩
theorem dX8_heaviest_0 : decode cX8_heaviest 0 = .ok (.bipush 99, 2) := by decide +kernel
theorem dX8_heaviest_2 : decode cX8_heaviest 2 = .ok (.istore 5, 2) := by decide +kernel
theorem dX8_heaviest_4 : decode cX8_heaviest 4 = .ok (.iload 5, 2) := by decide +kernel
theorem dX8_heaviest_6 : decode cX8_heaviest 6 = .ok (.iconst 1, 1) := by decide +kernel
theorem dX8_heaviest_7 : decode cX8_heaviest 7 = .ok (.if_icmp .lt 26, 3) := by decide +kernel
theorem dX8_heaviest_10 : decode cX8_heaviest 10 = .ok (.aload_n 0, 1) := by decide +kernel
theorem dX8_heaviest_11 : decode cX8_heaviest 11 = .ok (.iload_n 1, 1) := by decide +kernel
theorem dX8_heaviest_12 : decode cX8_heaviest 12 = .ok (.iload_n 2, 1) := by decide +kernel
theorem dX8_heaviest_13 : decode cX8_heaviest 13 = .ok (.iload 5, 2) := by decide +kernel
theorem dX8_heaviest_15 : decode cX8_heaviest 15 = .ok (.iload_n 3, 1) := by decide +kernel
theorem dX8_heaviest_16 : decode cX8_heaviest 16 = .ok (.invokevirtual 128, 3) := by decide +kernel
theorem dX8_heaviest_19 : decode cX8_heaviest 19 = .ok (.iload 4, 2) := by decide +kernel
theorem dX8_heaviest_21 : decode cX8_heaviest 21 = .ok (.if_icmp .ne 6, 3) := by decide +kernel
theorem dX8_heaviest_24 : decode cX8_heaviest 24 = .ok (.iload 5, 2) := by decide +kernel
theorem dX8_heaviest_26 : decode cX8_heaviest 26 = .ok (.ireturn, 1) := by decide +kernel
theorem dX8_heaviest_27 : decode cX8_heaviest 27 = .ok (.iinc 5 (-1), 3) := by decide +kernel
theorem dX8_heaviest_30 : decode cX8_heaviest 30 = .ok (.goto (-26), 3) := by decide +kernel
theorem dX8_heaviest_33 : decode cX8_heaviest 33 = .ok (.iconst (-1), 1) := by decide +kernel
theorem dX8_heaviest_34 : decode cX8_heaviest 34 = .ok (.ireturn, 1) := by decide +kernel
noncomputable def fX8_heaviest_s4 (rf : Nat → Nat → Nat) (a0 : Nat) (x1 : Int32) (x2 : Int32) (x3 : Int32) (x4 : Int32) (τ4 : Int32) (μ0 : o_Mem) : Option ((Nat × (Int32)) × o_Mem) :=
  if τ4 < 1 then (
    some ((33, 0), μ0))
  else (
    o_bd (fX8_soberStrike rf a0 x1 x2 τ4 x3 μ0) fun r1 μ1 =>
    if r1 = x4 then (
      some ((24, τ4), μ1))
    else (
      some ((4, (τ4 + (-1))), μ1)))
noncomputable def fX8_heaviest (rf : Nat → Nat → Nat) (a0 : Nat) (x1 : Int32) (x2 : Int32) (x3 : Int32) (x4 : Int32) (μ0 : o_Mem) : Option (Int32 × o_Mem) :=
  o_bd (o_lp 4 (fX8_heaviest_s4 rf a0 x1 x2 x3 x4) o_fuel (99 : Int32) μ0) fun ex1 μ1 =>
  if ex1.1 = 24 then (
    some (ex1.2, μ1))
  else
  if ex1.1 = 33 then (
    some ((-1), μ1))
  else
    none
set_option maxRecDepth 20000 in
theorem dnX8_heaviest_s4 {X : o_Cx} (hX : o_ok X) {d : Nat} {a0 : Nat} {x1 : Int32} {x2 : Int32} {x3 : Int32} {x4 : Int32} {τ4 : Int32} {μ0 : o_Mem} {K : (Nat × (Int32)) → o_Mem → Prop} {Q : Option Value → o_Mem → Prop} (h0 : o_is X a0 (.inl 8)) (h : o_Post (fX8_heaviest_s4 (o_rf X) a0 x1 x2 x3 x4 τ4 μ0) K) (kh : ∀ (τ4 : Int32) (μ : o_Mem), K (4, τ4) μ → o_Ev X (d + 3) mX8_heaviest 4 [some (.ref (o_ad X a0)), some (.int x1), some (.int x2), some (.int x3), some (.int x4), some (.int τ4)] [] μ Q) (k24 : ∀ (τ4 : Int32) (μ : o_Mem), K (24, τ4) μ → o_Ev X (d + 3) mX8_heaviest 24 [none, none, none, none, none, some (.int τ4)] [] μ Q) (k33 : ∀ (τ4 : Int32) (μ : o_Mem), K (33, τ4) μ → o_Ev X (d + 3) mX8_heaviest 33 [none, none, none, none, none, none] [] μ Q) : o_Ev X (d + 3) mX8_heaviest 4 [some (.ref (o_ad X a0)), some (.int x1), some (.int x2), some (.int x3), some (.int x4), some (.int τ4)] [] μ0 Q := by
  unfold fX8_heaviest_s4 at h
  refine s_iload dX8_heaviest_4 rfl ?_
  refine s_iconst dX8_heaviest_6 kI_1 ?_
  refine s_icmp_lt (tgt := 33) dX8_heaviest_7 rfl (fun c1 => ?_) (fun c1 => ?_)
  · have h := o_if_t c1 h
    refine s_mask [false, false, false, false, false, false] (L' := [none, none, none, none, none, none]) rfl ?_
    exact k33 0 _ (o_ret h)
  · have h := o_if_f c1 h
    refine s_aload_n (i := 0) dX8_heaviest_10 rfl rfl ?_
    refine s_iload_n (i := 1) dX8_heaviest_11 rfl rfl ?_
    refine s_iload_n (i := 2) dX8_heaviest_12 rfl rfl ?_
    refine s_iload dX8_heaviest_13 rfl ?_
    refine s_iload_n (i := 3) dX8_heaviest_15 rfl rfl ?_
    refine s_callVi (C := mX8_soberStrike) (As := [.int x1, .int x2, .int τ4, .int x3]) (rest := []) (L0 := [some (.ref (o_ad X a0)), some (.int x1), some (.int x2), some (.int τ4), some (.int x3)]) hX h0 clX8_128 dX8_heaviest_16 rfl rfl (Nat.le_of_ble_eq_true rfl) (Nat.le_of_ble_eq_true rfl) (dnX8_soberStrike hX h0 (o_bdp h)) (fun r1 μ1 h => ?_)
    refine s_iload dX8_heaviest_19 rfl ?_
    refine s_icmp_ne (tgt := 27) dX8_heaviest_21 rfl (fun c1 => ?_) (fun c1 => ?_)
    · have h := o_if_f c1 h
      refine s_iinc (v := (τ4 + (-1))) dX8_heaviest_27 rfl rfl (Nat.le_of_ble_eq_true rfl) rfl ?_
      refine s_goto (tgt := 4) dX8_heaviest_30 rfl ?_
      refine s_mask [true, true, true, true, true, true] (L' := [some (.ref (o_ad X a0)), some (.int x1), some (.int x2), some (.int x3), some (.int x4), some (.int (τ4 + (-1)))]) rfl ?_
      exact kh (τ4 + (-1)) _ (o_ret h)
    · have h := o_if_t c1 h
      refine s_mask [false, false, false, false, false, true] (L' := [none, none, none, none, none, some (.int τ4)]) rfl ?_
      exact k24 τ4 _ (o_ret h)
set_option maxRecDepth 20000 in
theorem dnX8_heaviest {X : o_Cx} (hX : o_ok X) {d : Nat} {a0 : Nat} {x1 : Int32} {x2 : Int32} {x3 : Int32} {x4 : Int32} {μ0 : o_Mem} {q : Int32 → o_Mem → Prop} (h0 : o_is X a0 (.inl 8)) (h : o_Post (fX8_heaviest (o_rf X) a0 x1 x2 x3 x4 μ0) q) : o_Ev X (d + 3) mX8_heaviest 0 [some (.ref (o_ad X a0)), some (.int x1), some (.int x2), some (.int x3), some (.int x4), none] [] μ0 (o_QI q) := by
  unfold fX8_heaviest at h
  refine s_bipush dX8_heaviest_0 kB_99 ?_
  refine s_istore dX8_heaviest_2 (Nat.le_of_ble_eq_true rfl) rfl ?_
  refine s_mask [true, true, true, true, true, true] (L' := [some (.ref (o_ad X a0)), some (.int x1), some (.int x2), some (.int x3), some (.int x4), some (.int 99)]) rfl ?_
  refine o_lp_ev (fun τ4 => [some (.ref (o_ad X a0)), some (.int x1), some (.int x2), some (.int x3), some (.int x4), some (.int τ4)]) (fun τ4 μ _K h kv ke4 => dnX8_heaviest_s4 hX h0 h kv (fun τ4 μ1 h => ?_) (fun τ4 μ1 h => ?_)) o_fuel 99 μ0 (o_bdp h)
  · have h := o_if_t rfl (ke4 (24, τ4) μ1 (o_ne rfl) h)
    refine s_iload dX8_heaviest_24 rfl ?_
    exact s_ireturn rfl dX8_heaviest_26 ⟨_, rfl, o_ret h⟩
  · have h := o_if_t rfl (o_if_f (o_ne rfl) (ke4 (33, τ4) μ1 (o_ne rfl) h))
    refine s_iconst dX8_heaviest_33 kI_m1 ?_
    exact s_ireturn rfl dX8_heaviest_34 ⟨_, rfl, o_ret h⟩
theorem dX8_lawsFirstBetween_0 : decode cX8_lawsFirstBetween 0 = .ok (.iconst 0, 1) := by decide +kernel
theorem dX8_lawsFirstBetween_1 : decode cX8_lawsFirstBetween 1 = .ok (.istore_n 3, 1) := by decide +kernel
theorem dX8_lawsFirstBetween_2 : decode cX8_lawsFirstBetween 2 = .ok (.iconst 0, 1) := by decide +kernel
theorem dX8_lawsFirstBetween_3 : decode cX8_lawsFirstBetween 3 = .ok (.istore 4, 2) := by decide +kernel
theorem dX8_lawsFirstBetween_5 : decode cX8_lawsFirstBetween 5 = .ok (.iload 4, 2) := by decide +kernel
theorem dX8_lawsFirstBetween_7 : decode cX8_lawsFirstBetween 7 = .ok (.aload_n 0, 1) := by decide +kernel
theorem dX8_lawsFirstBetween_8 : decode cX8_lawsFirstBetween 8 = .ok (.getfield 51, 3) := by decide +kernel
theorem dX8_lawsFirstBetween_11 : decode cX8_lawsFirstBetween 11 = .ok (.if_icmp .ge 50, 3) := by decide +kernel
theorem dX8_lawsFirstBetween_14 : decode cX8_lawsFirstBetween 14 = .ok (.iconst 1, 1) := by decide +kernel
theorem dX8_lawsFirstBetween_15 : decode cX8_lawsFirstBetween 15 = .ok (.istore 5, 2) := by decide +kernel
theorem dX8_lawsFirstBetween_17 : decode cX8_lawsFirstBetween 17 = .ok (.iload 5, 2) := by decide +kernel
theorem dX8_lawsFirstBetween_19 : decode cX8_lawsFirstBetween 19 = .ok (.bipush 99, 2) := by decide +kernel
theorem dX8_lawsFirstBetween_21 : decode cX8_lawsFirstBetween 21 = .ok (.if_icmp .gt 34, 3) := by decide +kernel
theorem dX8_lawsFirstBetween_24 : decode cX8_lawsFirstBetween 24 = .ok (.aload_n 0, 1) := by decide +kernel
theorem dX8_lawsFirstBetween_25 : decode cX8_lawsFirstBetween 25 = .ok (.iload_n 1, 1) := by decide +kernel
theorem dX8_lawsFirstBetween_26 : decode cX8_lawsFirstBetween 26 = .ok (.iload_n 2, 1) := by decide +kernel
theorem dX8_lawsFirstBetween_27 : decode cX8_lawsFirstBetween 27 = .ok (.iload 5, 2) := by decide +kernel
theorem dX8_lawsFirstBetween_29 : decode cX8_lawsFirstBetween 29 = .ok (.iload 4, 2) := by decide +kernel
theorem dX8_lawsFirstBetween_31 : decode cX8_lawsFirstBetween 31 = .ok (.invokevirtual 121, 3) := by decide +kernel
theorem dX8_lawsFirstBetween_34 : decode cX8_lawsFirstBetween 34 = .ok (.istore 6, 2) := by decide +kernel
theorem dX8_lawsFirstBetween_36 : decode cX8_lawsFirstBetween 36 = .ok (.iload 6, 2) := by decide +kernel
theorem dX8_lawsFirstBetween_38 : decode cX8_lawsFirstBetween 38 = .ok (.iconst (-1), 1) := by decide +kernel
theorem dX8_lawsFirstBetween_39 : decode cX8_lawsFirstBetween 39 = .ok (.if_icmp .eq 10, 3) := by decide +kernel
theorem dX8_lawsFirstBetween_42 : decode cX8_lawsFirstBetween 42 = .ok (.iload_n 3, 1) := by decide +kernel
theorem dX8_lawsFirstBetween_43 : decode cX8_lawsFirstBetween 43 = .ok (.iconst 1, 1) := by decide +kernel
theorem dX8_lawsFirstBetween_44 : decode cX8_lawsFirstBetween 44 = .ok (.iload 6, 2) := by decide +kernel
theorem dX8_lawsFirstBetween_46 : decode cX8_lawsFirstBetween 46 = .ok (.ishl, 1) := by decide +kernel
theorem dX8_lawsFirstBetween_47 : decode cX8_lawsFirstBetween 47 = .ok (.ior, 1) := by decide +kernel
theorem dX8_lawsFirstBetween_48 : decode cX8_lawsFirstBetween 48 = .ok (.istore_n 3, 1) := by decide +kernel
theorem dX8_lawsFirstBetween_49 : decode cX8_lawsFirstBetween 49 = .ok (.iinc 5 1, 3) := by decide +kernel
theorem dX8_lawsFirstBetween_52 : decode cX8_lawsFirstBetween 52 = .ok (.goto (-35), 3) := by decide +kernel
theorem dX8_lawsFirstBetween_55 : decode cX8_lawsFirstBetween 55 = .ok (.iinc 4 1, 3) := by decide +kernel
theorem dX8_lawsFirstBetween_58 : decode cX8_lawsFirstBetween 58 = .ok (.goto (-53), 3) := by decide +kernel
theorem dX8_lawsFirstBetween_61 : decode cX8_lawsFirstBetween 61 = .ok (.iload_n 3, 1) := by decide +kernel
theorem dX8_lawsFirstBetween_62 : decode cX8_lawsFirstBetween 62 = .ok (.ireturn, 1) := by decide +kernel
noncomputable def fX8_lawsFirstBetween_s17 (rf : Nat → Nat → Nat) (a0 : Nat) (x1 : Int32) (x2 : Int32) (x4 : Int32) (τ17 : Int32 × Int32) (μ0 : o_Mem) : Option ((Nat × (Int32 × Int32)) × o_Mem) :=
  if 99 < τ17.2 then (
    some ((55, (τ17.1, 0)), μ0))
  else (
    o_bd (fX8_firstFit rf a0 x1 x2 τ17.2 x4 μ0) fun r1 μ1 =>
    if r1 = (-1) then (
      some ((17, (τ17.1, (τ17.2 + 1))), μ1))
    else (
      some ((17, ((τ17.1 ||| (1 <<< (r1 &&& 31))), (τ17.2 + 1))), μ1)))
noncomputable def fX8_lawsFirstBetween_s5 (rf : Nat → Nat → Nat) (a0 : Nat) (x1 : Int32) (x2 : Int32) (τ5 : Int32 × Int32) (μ0 : o_Mem) : Option ((Nat × (Int32 × Int32)) × o_Mem) :=
  if (μ0.1 a0 1) ≤ τ5.2 then (
    some ((61, (τ5.1, 0)), μ0))
  else (
    o_bd (o_lp 17 (fX8_lawsFirstBetween_s17 rf a0 x1 x2 τ5.2) o_fuel (τ5.1, 1) μ0) fun ex1 μ1 =>
    if ex1.1 = 55 then (
      some ((5, (ex1.2.1, (τ5.2 + 1))), μ1))
    else
      none)
noncomputable def fX8_lawsFirstBetween (rf : Nat → Nat → Nat) (a0 : Nat) (x1 : Int32) (x2 : Int32) (μ0 : o_Mem) : Option (Int32 × o_Mem) :=
  o_bd (o_lp 5 (fX8_lawsFirstBetween_s5 rf a0 x1 x2) o_fuel (0, 0) μ0) fun ex1 μ1 =>
  if ex1.1 = 61 then (
    some (ex1.2.1, μ1))
  else
    none
set_option maxRecDepth 20000 in
theorem dnX8_lawsFirstBetween_s17 {X : o_Cx} (hX : o_ok X) {d : Nat} {a0 : Nat} {x1 : Int32} {x2 : Int32} {x4 : Int32} {τ17 : Int32 × Int32} {μ0 : o_Mem} {K : (Nat × (Int32 × Int32)) → o_Mem → Prop} {Q : Option Value → o_Mem → Prop} (h0 : o_is X a0 (.inl 8)) (h : o_Post (fX8_lawsFirstBetween_s17 (o_rf X) a0 x1 x2 x4 τ17 μ0) K) (kh : ∀ (τ17 : Int32 × Int32) (μ : o_Mem), K (17, τ17) μ → o_Ev X (d + 2) mX8_lawsFirstBetween 17 [some (.ref (o_ad X a0)), some (.int x1), some (.int x2), some (.int τ17.1), some (.int x4), some (.int τ17.2), none] [] μ Q) (k55 : ∀ (τ17 : Int32 × Int32) (μ : o_Mem), K (55, τ17) μ → o_Ev X (d + 2) mX8_lawsFirstBetween 55 [some (.ref (o_ad X a0)), some (.int x1), some (.int x2), some (.int τ17.1), some (.int x4), none, none] [] μ Q) : o_Ev X (d + 2) mX8_lawsFirstBetween 17 [some (.ref (o_ad X a0)), some (.int x1), some (.int x2), some (.int τ17.1), some (.int x4), some (.int τ17.2), none] [] μ0 Q := by
  unfold fX8_lawsFirstBetween_s17 at h
  refine s_iload dX8_lawsFirstBetween_17 rfl ?_
  refine s_bipush dX8_lawsFirstBetween_19 kB_99 ?_
  refine s_icmp_gt (tgt := 55) dX8_lawsFirstBetween_21 rfl (fun c1 => ?_) (fun c1 => ?_)
  · have h := o_if_t c1 h
    refine s_mask [true, true, true, true, true, false, false] (L' := [some (.ref (o_ad X a0)), some (.int x1), some (.int x2), some (.int τ17.1), some (.int x4), none, none]) rfl ?_
    exact k55 (τ17.1, 0) _ (o_ret h)
  · have h := o_if_f c1 h
    refine s_aload_n (i := 0) dX8_lawsFirstBetween_24 rfl rfl ?_
    refine s_iload_n (i := 1) dX8_lawsFirstBetween_25 rfl rfl ?_
    refine s_iload_n (i := 2) dX8_lawsFirstBetween_26 rfl rfl ?_
    refine s_iload dX8_lawsFirstBetween_27 rfl ?_
    refine s_iload dX8_lawsFirstBetween_29 rfl ?_
    refine s_callVi (C := mX8_firstFit) (As := [.int x1, .int x2, .int τ17.2, .int x4]) (rest := []) (L0 := [some (.ref (o_ad X a0)), some (.int x1), some (.int x2), some (.int τ17.2), some (.int x4), none]) hX h0 clX8_121 dX8_lawsFirstBetween_31 rfl rfl (Nat.le_of_ble_eq_true rfl) (Nat.le_of_ble_eq_true rfl) (dnX8_firstFit hX h0 (o_bdp h)) (fun r1 μ1 h => ?_)
    refine s_istore dX8_lawsFirstBetween_34 (Nat.le_of_ble_eq_true rfl) rfl ?_
    refine s_iload dX8_lawsFirstBetween_36 rfl ?_
    refine s_iconst dX8_lawsFirstBetween_38 kI_m1 ?_
    refine s_icmp_eq (tgt := 49) dX8_lawsFirstBetween_39 rfl (fun c1 => ?_) (fun c1 => ?_)
    · have h := o_if_t c1 h
      refine s_iinc (v := (τ17.2 + 1)) dX8_lawsFirstBetween_49 rfl rfl (Nat.le_of_ble_eq_true rfl) rfl ?_
      refine s_goto (tgt := 17) dX8_lawsFirstBetween_52 rfl ?_
      refine s_mask [true, true, true, true, true, true, false] (L' := [some (.ref (o_ad X a0)), some (.int x1), some (.int x2), some (.int τ17.1), some (.int x4), some (.int (τ17.2 + 1)), none]) rfl ?_
      exact kh (τ17.1, (τ17.2 + 1)) _ (o_ret h)
    · have h := o_if_f c1 h
      refine s_iload_n (i := 3) dX8_lawsFirstBetween_42 rfl rfl ?_
      refine s_iconst dX8_lawsFirstBetween_43 kI_1 ?_
      refine s_iload dX8_lawsFirstBetween_44 rfl ?_
      refine s_ishl dX8_lawsFirstBetween_46 ?_
      refine s_ior dX8_lawsFirstBetween_47 ?_
      refine s_istore_n (i := 3) dX8_lawsFirstBetween_48 rfl (Nat.le_of_ble_eq_true rfl) rfl ?_
      refine s_iinc (v := (τ17.2 + 1)) dX8_lawsFirstBetween_49 rfl rfl (Nat.le_of_ble_eq_true rfl) rfl ?_
      refine s_goto (tgt := 17) dX8_lawsFirstBetween_52 rfl ?_
      refine s_mask [true, true, true, true, true, true, false] (L' := [some (.ref (o_ad X a0)), some (.int x1), some (.int x2), some (.int (τ17.1 ||| (1 <<< (r1 &&& 31)))), some (.int x4), some (.int (τ17.2 + 1)), none]) rfl ?_
      exact kh ((τ17.1 ||| (1 <<< (r1 &&& 31))), (τ17.2 + 1)) _ (o_ret h)
set_option maxRecDepth 20000 in
theorem dnX8_lawsFirstBetween_s5 {X : o_Cx} (hX : o_ok X) {d : Nat} {a0 : Nat} {x1 : Int32} {x2 : Int32} {τ5 : Int32 × Int32} {μ0 : o_Mem} {K : (Nat × (Int32 × Int32)) → o_Mem → Prop} {Q : Option Value → o_Mem → Prop} (h0 : o_is X a0 (.inl 8)) (h : o_Post (fX8_lawsFirstBetween_s5 (o_rf X) a0 x1 x2 τ5 μ0) K) (kh : ∀ (τ5 : Int32 × Int32) (μ : o_Mem), K (5, τ5) μ → o_Ev X (d + 2) mX8_lawsFirstBetween 5 [some (.ref (o_ad X a0)), some (.int x1), some (.int x2), some (.int τ5.1), some (.int τ5.2), none, none] [] μ Q) (k61 : ∀ (τ5 : Int32 × Int32) (μ : o_Mem), K (61, τ5) μ → o_Ev X (d + 2) mX8_lawsFirstBetween 61 [none, none, none, some (.int τ5.1), none, none, none] [] μ Q) : o_Ev X (d + 2) mX8_lawsFirstBetween 5 [some (.ref (o_ad X a0)), some (.int x1), some (.int x2), some (.int τ5.1), some (.int τ5.2), none, none] [] μ0 Q := by
  unfold fX8_lawsFirstBetween_s5 at h
  refine s_iload dX8_lawsFirstBetween_5 rfl ?_
  refine s_aload_n (i := 0) dX8_lawsFirstBetween_7 rfl rfl ?_
  refine s_getI h0 flX8_51 rfl dX8_lawsFirstBetween_8 ?_
  refine s_icmp_ge (tgt := 61) dX8_lawsFirstBetween_11 rfl (fun c1 => ?_) (fun c1 => ?_)
  · have h := o_if_t c1 h
    refine s_mask [false, false, false, true, false, false, false] (L' := [none, none, none, some (.int τ5.1), none, none, none]) rfl ?_
    exact k61 (τ5.1, 0) _ (o_ret h)
  · have h := o_if_f c1 h
    refine s_iconst dX8_lawsFirstBetween_14 kI_1 ?_
    refine s_istore dX8_lawsFirstBetween_15 (Nat.le_of_ble_eq_true rfl) rfl ?_
    refine s_mask [true, true, true, true, true, true, false] (L' := [some (.ref (o_ad X a0)), some (.int x1), some (.int x2), some (.int τ5.1), some (.int τ5.2), some (.int 1), none]) rfl ?_
    refine o_lp_ev (fun τ17 => [some (.ref (o_ad X a0)), some (.int x1), some (.int x2), some (.int τ17.1), some (.int τ5.2), some (.int τ17.2), none]) (fun τ17 μ _K h kv ke17 => dnX8_lawsFirstBetween_s17 hX h0 h kv (fun τ17 μ1 h => ?_)) o_fuel (τ5.1, 1) μ0 (o_bdp h)
    · have h := o_if_t rfl (ke17 (55, τ17) μ1 (o_ne rfl) h)
      refine s_iinc (v := (τ5.2 + 1)) dX8_lawsFirstBetween_55 rfl rfl (Nat.le_of_ble_eq_true rfl) rfl ?_
      refine s_goto (tgt := 5) dX8_lawsFirstBetween_58 rfl ?_
      refine s_mask [true, true, true, true, true, false, false] (L' := [some (.ref (o_ad X a0)), some (.int x1), some (.int x2), some (.int τ17.1), some (.int (τ5.2 + 1)), none, none]) rfl ?_
      exact kh (τ17.1, (τ5.2 + 1)) _ (o_ret h)
set_option maxRecDepth 20000 in
theorem dnX8_lawsFirstBetween {X : o_Cx} (hX : o_ok X) {d : Nat} {a0 : Nat} {x1 : Int32} {x2 : Int32} {μ0 : o_Mem} {q : Int32 → o_Mem → Prop} (h0 : o_is X a0 (.inl 8)) (h : o_Post (fX8_lawsFirstBetween (o_rf X) a0 x1 x2 μ0) q) : o_Ev X (d + 2) mX8_lawsFirstBetween 0 [some (.ref (o_ad X a0)), some (.int x1), some (.int x2), none, none, none, none] [] μ0 (o_QI q) := by
  unfold fX8_lawsFirstBetween at h
  refine s_iconst dX8_lawsFirstBetween_0 kI_0 ?_
  refine s_istore_n (i := 3) dX8_lawsFirstBetween_1 rfl (Nat.le_of_ble_eq_true rfl) rfl ?_
  refine s_iconst dX8_lawsFirstBetween_2 kI_0 ?_
  refine s_istore dX8_lawsFirstBetween_3 (Nat.le_of_ble_eq_true rfl) rfl ?_
  refine s_mask [true, true, true, true, true, false, false] (L' := [some (.ref (o_ad X a0)), some (.int x1), some (.int x2), some (.int 0), some (.int 0), none, none]) rfl ?_
  refine o_lp_ev (fun τ5 => [some (.ref (o_ad X a0)), some (.int x1), some (.int x2), some (.int τ5.1), some (.int τ5.2), none, none]) (fun τ5 μ _K h kv ke5 => dnX8_lawsFirstBetween_s5 hX h0 h kv (fun τ5 μ1 h => ?_)) o_fuel (0, 0) μ0 (o_bdp h)
  · have h := o_if_t rfl (ke5 (61, τ5) μ1 (o_ne rfl) h)
    refine s_iload_n (i := 3) dX8_lawsFirstBetween_61 rfl rfl ?_
    exact s_ireturn rfl dX8_lawsFirstBetween_62 ⟨_, rfl, o_ret h⟩
theorem dX9_wantNew_0 : decode cX9_wantNew 0 = .ok (.aload_n 0, 1) := by decide +kernel
theorem dX9_wantNew_1 : decode cX9_wantNew 1 = .ok (.getfield 9, 3) := by decide +kernel
theorem dX9_wantNew_4 : decode cX9_wantNew 4 = .ok (.invokevirtual 67, 3) := by decide +kernel
theorem dX9_wantNew_7 : decode cX9_wantNew 7 = .ok (.ifCond .ne 12, 3) := by decide +kernel
theorem dX9_wantNew_10 : decode cX9_wantNew 10 = .ok (.aload_n 0, 1) := by decide +kernel
theorem dX9_wantNew_11 : decode cX9_wantNew 11 = .ok (.getfield 9, 3) := by decide +kernel
theorem dX9_wantNew_14 : decode cX9_wantNew 14 = .ok (.iconst 2, 1) := by decide +kernel
theorem dX9_wantNew_15 : decode cX9_wantNew 15 = .ok (.invokevirtual 63, 3) := by decide +kernel
theorem dX9_wantNew_18 : decode cX9_wantNew 18 = .ok (.ireturn, 1) := by decide +kernel
theorem dX9_wantNew_19 : decode cX9_wantNew 19 = .ok (.aload_n 0, 1) := by decide +kernel
theorem dX9_wantNew_20 : decode cX9_wantNew 20 = .ok (.getfield 15, 3) := by decide +kernel
theorem dX9_wantNew_23 : decode cX9_wantNew 23 = .ok (.aload_n 0, 1) := by decide +kernel
theorem dX9_wantNew_24 : decode cX9_wantNew 24 = .ok (.getfield 9, 3) := by decide +kernel
theorem dX9_wantNew_27 : decode cX9_wantNew 27 = .ok (.getfield 70, 3) := by decide +kernel
theorem dX9_wantNew_30 : decode cX9_wantNew 30 = .ok (.invokevirtual 74, 3) := by decide +kernel
theorem dX9_wantNew_33 : decode cX9_wantNew 33 = .ok (.ifCond .eq 12, 3) := by decide +kernel
theorem dX9_wantNew_36 : decode cX9_wantNew 36 = .ok (.aload_n 0, 1) := by decide +kernel
theorem dX9_wantNew_37 : decode cX9_wantNew 37 = .ok (.getfield 9, 3) := by decide +kernel
theorem dX9_wantNew_40 : decode cX9_wantNew 40 = .ok (.iconst 3, 1) := by decide +kernel
theorem dX9_wantNew_41 : decode cX9_wantNew 41 = .ok (.invokevirtual 63, 3) := by decide +kernel
theorem dX9_wantNew_44 : decode cX9_wantNew 44 = .ok (.ireturn, 1) := by decide +kernel
theorem dX9_wantNew_45 : decode cX9_wantNew 45 = .ok (.aload_n 0, 1) := by decide +kernel
theorem dX9_wantNew_46 : decode cX9_wantNew 46 = .ok (.getfield 15, 3) := by decide +kernel
theorem dX9_wantNew_49 : decode cX9_wantNew 49 = .ok (.getfield 78, 3) := by decide +kernel
theorem dX9_wantNew_52 : decode cX9_wantNew 52 = .ok (.iload_n 1, 1) := by decide +kernel
theorem dX9_wantNew_53 : decode cX9_wantNew 53 = .ok (.bipush 6, 2) := by decide +kernel
theorem dX9_wantNew_55 : decode cX9_wantNew 55 = .ok (.imul, 1) := by decide +kernel
theorem dX9_wantNew_56 : decode cX9_wantNew 56 = .ok (.aload_n 0, 1) := by decide +kernel
theorem dX9_wantNew_57 : decode cX9_wantNew 57 = .ok (.getfield 15, 3) := by decide +kernel
theorem dX9_wantNew_60 : decode cX9_wantNew 60 = .ok (.iload_n 1, 1) := by decide +kernel
theorem dX9_wantNew_61 : decode cX9_wantNew 61 = .ok (.invokevirtual 82, 3) := by decide +kernel
theorem dX9_wantNew_64 : decode cX9_wantNew 64 = .ok (.iadd, 1) := by decide +kernel
theorem dX9_wantNew_65 : decode cX9_wantNew 65 = .ok (.aload_n 0, 1) := by decide +kernel
theorem dX9_wantNew_66 : decode cX9_wantNew 66 = .ok (.getfield 9, 3) := by decide +kernel
theorem dX9_wantNew_69 : decode cX9_wantNew 69 = .ok (.getfield 70, 3) := by decide +kernel
theorem dX9_wantNew_72 : decode cX9_wantNew 72 = .ok (.lastore, 1) := by decide +kernel
theorem dX9_wantNew_73 : decode cX9_wantNew 73 = .ok (.aload_n 0, 1) := by decide +kernel
theorem dX9_wantNew_74 : decode cX9_wantNew 74 = .ok (.getfield 9, 3) := by decide +kernel
theorem dX9_wantNew_77 : decode cX9_wantNew 77 = .ok (.invokevirtual 86, 3) := by decide +kernel
theorem dX9_wantNew_80 : decode cX9_wantNew 80 = .ok (.iconst 1, 1) := by decide +kernel
theorem dX9_wantNew_81 : decode cX9_wantNew 81 = .ok (.ireturn, 1) := by decide +kernel
noncomputable def fX9_wantNew (rf : Nat → Nat → Nat) (a0 : Nat) (x1 : Int32) (μ0 : o_Mem) : Option (Int32 × o_Mem) :=
  o_bd (fX4_isName rf (rf a0 0) μ0) fun r1 μ1 =>
  if r1 = 0 then (
    o_bd (fX4_fail rf (rf a0 0) 2 μ1) fun r5 μ7 =>
    some (r5, μ7))
  else (
    o_bd (fX8_isTaken rf (rf a0 1) (μ1.2 (rf a0 0) 9) μ1) fun r2 μ2 =>
    if r2 = 0 then (
      o_bd (fX8_manyOf rf (rf a0 1) x1 μ2) fun r3 μ3 =>
      o_ck (0 ≤ (((x1 * 6) + r3)).toInt ∧ (((x1 * 6) + r3)).toInt < 18) <|
      o_seq (o_wL μ3 (rf (rf a0 1) 17) ((((x1 * 6) + r3)).toNatClampNeg) (μ3.2 (rf a0 0) 9)) fun μ4 =>
      o_bd (fX4_next rf (rf a0 0) μ4) fun _u μ5 =>
      some (1, μ5))
    else (
      o_bd (fX4_fail rf (rf a0 0) 3 μ2) fun r4 μ6 =>
      some (r4, μ6)))
set_option maxRecDepth 20000 in
theorem dnX9_wantNew {X : o_Cx} (hX : o_ok X) {d : Nat} {a0 : Nat} {x1 : Int32} {μ0 : o_Mem} {q : Int32 → o_Mem → Prop} (h0 : o_is X a0 (.inl 9)) (h : o_Post (fX9_wantNew (o_rf X) a0 x1 μ0) q) : o_Ev X (d + 6) mX9_wantNew 0 [some (.ref (o_ad X a0)), some (.int x1)] [] μ0 (o_QZ q) := by
  unfold fX9_wantNew at h
  refine s_aload_n (i := 0) dX9_wantNew_0 rfl rfl ?_
  refine s_getR hX h0 flX9_9 rfl dX9_wantNew_1 (fun (g1 : o_is X (o_rf X a0 0) (.inl 4)) => ?_)
  refine s_callVz (C := mX4_isName) (As := []) (rest := []) (L0 := [some (.ref (o_ad X (o_rf X a0 0)))]) hX g1 clX9_67 dX9_wantNew_4 rfl rfl (Nat.le_of_ble_eq_true rfl) (Nat.le_of_ble_eq_true rfl) (dnX4_isName hX g1 (o_bdp h)) (fun r1 μ1 zr1 h => ?_)
  refine s_if_ne (tgt := 19) dX9_wantNew_7 rfl (fun c1 => ?_) (fun c1 => ?_)
  · have h := o_if_f c1 h
    refine s_aload_n (i := 0) dX9_wantNew_19 rfl rfl ?_
    refine s_getR hX h0 flX9_15 rfl dX9_wantNew_20 (fun (g2 : o_is X (o_rf X a0 1) (.inl 8)) => ?_)
    refine s_aload_n (i := 0) dX9_wantNew_23 rfl rfl ?_
    refine s_getR hX h0 flX9_9 rfl dX9_wantNew_24 (fun (g3 : o_is X (o_rf X a0 0) (.inl 4)) => ?_)
    refine s_getL g3 flX9_70 rfl dX9_wantNew_27 ?_
    refine s_callVz (C := mX8_isTaken) (As := [.long (μ1.2 (o_rf X a0 0) 9)]) (rest := []) (L0 := [some (.ref (o_ad X (o_rf X a0 1))), some (.long (μ1.2 (o_rf X a0 0) 9)), none]) hX g2 clX9_74 dX9_wantNew_30 rfl rfl (Nat.le_of_ble_eq_true rfl) (Nat.le_of_ble_eq_true rfl) (dnX8_isTaken hX g2 (o_bdp h)) (fun r2 μ2 zr2 h => ?_)
    refine s_if_eq (tgt := 45) dX9_wantNew_33 rfl (fun c1 => ?_) (fun c1 => ?_)
    · have h := o_if_t c1 h
      refine s_aload_n (i := 0) dX9_wantNew_45 rfl rfl ?_
      refine s_getR hX h0 flX9_15 rfl dX9_wantNew_46 (fun (g4 : o_is X (o_rf X a0 1) (.inl 8)) => ?_)
      refine s_getR hX g4 flX9_78 rfl dX9_wantNew_49 (fun (g5 : o_is X (o_rf X (o_rf X a0 1) 17) (.inr (2, 18))) => ?_)
      refine s_iload_n (i := 1) dX9_wantNew_52 rfl rfl ?_
      refine s_bipush dX9_wantNew_53 kB_6 ?_
      refine s_imul dX9_wantNew_55 ?_
      refine s_aload_n (i := 0) dX9_wantNew_56 rfl rfl ?_
      refine s_getR hX h0 flX9_15 rfl dX9_wantNew_57 (fun (g6 : o_is X (o_rf X a0 1) (.inl 8)) => ?_)
      refine s_iload_n (i := 1) dX9_wantNew_60 rfl rfl ?_
      refine s_callVi (C := mX8_manyOf) (As := [.int x1]) (rest := [.int (x1 * 6), .ref (o_ad X (o_rf X (o_rf X a0 1) 17))]) (L0 := [some (.ref (o_ad X (o_rf X a0 1))), some (.int x1)]) hX g6 clX9_82 dX9_wantNew_61 rfl rfl (Nat.le_of_ble_eq_true rfl) (Nat.le_of_ble_eq_true rfl) (dnX8_manyOf hX g6 (o_bdp h)) (fun r3 μ3 h => ?_)
      refine s_iadd dX9_wantNew_64 ?_
      refine s_aload_n (i := 0) dX9_wantNew_65 rfl rfl ?_
      refine s_getR hX h0 flX9_9 rfl dX9_wantNew_66 (fun (g7 : o_is X (o_rf X a0 0) (.inl 4)) => ?_)
      refine s_getL g7 flX9_70 rfl dX9_wantNew_69 ?_
      have hc := o_ck_c h
      have h := o_ck_k h
      refine s_lastK hX g5 hc rfl dX9_wantNew_72 (o_gen h (fun μ4 h => ?_))
      refine s_aload_n (i := 0) dX9_wantNew_73 rfl rfl ?_
      refine s_getR hX h0 flX9_9 rfl dX9_wantNew_74 (fun (g8 : o_is X (o_rf X a0 0) (.inl 4)) => ?_)
      refine s_callVu (C := mX4_next) (As := []) (rest := []) (L0 := [some (.ref (o_ad X (o_rf X a0 0)))]) hX g8 clX9_86 dX9_wantNew_77 rfl rfl (Nat.le_of_ble_eq_true rfl) (Nat.le_of_ble_eq_true rfl) (dnX4_next hX g8 (o_bdp h)) (fun _u μ5 h => ?_)
      refine s_iconst dX9_wantNew_80 kI_1 ?_
      exact s_zreturn rfl (Or.inr rfl) dX9_wantNew_81 ⟨_, rfl, (Or.inr rfl), o_ret h⟩
    · have h := o_if_f c1 h
      refine s_aload_n (i := 0) dX9_wantNew_36 rfl rfl ?_
      refine s_getR hX h0 flX9_9 rfl dX9_wantNew_37 (fun (g9 : o_is X (o_rf X a0 0) (.inl 4)) => ?_)
      refine s_iconst dX9_wantNew_40 kI_3 ?_
      refine s_callVz (C := mX4_fail) (As := [.int 3]) (rest := []) (L0 := [some (.ref (o_ad X (o_rf X a0 0))), some (.int 3)]) hX g9 clX9_63 dX9_wantNew_41 rfl rfl (Nat.le_of_ble_eq_true rfl) (Nat.le_of_ble_eq_true rfl) (dnX4_fail hX g9 (o_bdp h)) (fun r4 μ6 zr4 h => ?_)
      exact s_zreturn rfl zr4 dX9_wantNew_44 ⟨_, rfl, zr4, o_ret h⟩
  · have h := o_if_t c1 h
    refine s_aload_n (i := 0) dX9_wantNew_10 rfl rfl ?_
    refine s_getR hX h0 flX9_9 rfl dX9_wantNew_11 (fun (g10 : o_is X (o_rf X a0 0) (.inl 4)) => ?_)
    refine s_iconst dX9_wantNew_14 kI_2 ?_
    refine s_callVz (C := mX4_fail) (As := [.int 2]) (rest := []) (L0 := [some (.ref (o_ad X (o_rf X a0 0))), some (.int 2)]) hX g10 clX9_63 dX9_wantNew_15 rfl rfl (Nat.le_of_ble_eq_true rfl) (Nat.le_of_ble_eq_true rfl) (dnX4_fail hX g10 (o_bdp h)) (fun r5 μ7 zr5 h => ?_)
    exact s_zreturn rfl zr5 dX9_wantNew_18 ⟨_, rfl, zr5, o_ret h⟩
