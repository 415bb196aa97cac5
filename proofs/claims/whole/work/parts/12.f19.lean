theorem dX12_valleyPart_0 : decode cX12_valleyPart 0 = .ok (.aload_n 0, 1) := by decide +kernel
theorem dX12_valleyPart_1 : decode cX12_valleyPart 1 = .ok (.ldc 180, 2) := by decide +kernel
theorem dX12_valleyPart_3 : decode cX12_valleyPart 3 = .ok (.invokevirtual 172, 3) := by decide +kernel
theorem dX12_valleyPart_6 : decode cX12_valleyPart 6 = .ok (.tableswitch 150 0 6 #[42, 50, 82, 90, 98, 106, 114], 42) := by decide +kernel
theorem dX12_valleyPart_48 : decode cX12_valleyPart 48 = .ok (.aload_n 0, 1) := by decide +kernel
theorem dX12_valleyPart_49 : decode cX12_valleyPart 49 = .ok (.invokevirtual 219, 3) := by decide +kernel
theorem dX12_valleyPart_52 : decode cX12_valleyPart 52 = .ok (.istore_n 1, 1) := by decide +kernel
theorem dX12_valleyPart_53 : decode cX12_valleyPart 53 = .ok (.goto 109, 3) := by decide +kernel
theorem dX12_valleyPart_56 : decode cX12_valleyPart 56 = .ok (.aload_n 0, 1) := by decide +kernel
theorem dX12_valleyPart_57 : decode cX12_valleyPart 57 = .ok (.iconst 1, 1) := by decide +kernel
theorem dX12_valleyPart_58 : decode cX12_valleyPart 58 = .ok (.iconst 4, 1) := by decide +kernel
theorem dX12_valleyPart_59 : decode cX12_valleyPart 59 = .ok (.bipush 6, 2) := by decide +kernel
theorem dX12_valleyPart_61 : decode cX12_valleyPart 61 = .ok (.invokevirtual 196, 3) := by decide +kernel
theorem dX12_valleyPart_64 : decode cX12_valleyPart 64 = .ok (.istore_n 1, 1) := by decide +kernel
theorem dX12_valleyPart_65 : decode cX12_valleyPart 65 = .ok (.aload_n 0, 1) := by decide +kernel
theorem dX12_valleyPart_66 : decode cX12_valleyPart 66 = .ok (.getfield 7, 3) := by decide +kernel
theorem dX12_valleyPart_69 : decode cX12_valleyPart 69 = .ok (.sipush 2505, 3) := by decide +kernel
theorem dX12_valleyPart_72 : decode cX12_valleyPart 72 = .ok (.dup2, 1) := by decide +kernel
theorem dX12_valleyPart_73 : decode cX12_valleyPart 73 = .ok (.iaload, 1) := by decide +kernel
theorem dX12_valleyPart_74 : decode cX12_valleyPart 74 = .ok (.iload_n 1, 1) := by decide +kernel
theorem dX12_valleyPart_75 : decode cX12_valleyPart 75 = .ok (.ifCond .eq 7, 3) := by decide +kernel
theorem dX12_valleyPart_78 : decode cX12_valleyPart 78 = .ok (.iconst 1, 1) := by decide +kernel
theorem dX12_valleyPart_79 : decode cX12_valleyPart 79 = .ok (.goto 4, 3) := by decide +kernel
theorem dX12_valleyPart_82 : decode cX12_valleyPart 82 = .ok (.iconst 0, 1) := by decide +kernel
theorem dX12_valleyPart_83 : decode cX12_valleyPart 83 = .ok (.iadd, 1) := by decide +kernel
theorem dX12_valleyPart_84 : decode cX12_valleyPart 84 = .ok (.iastore, 1) := by decide +kernel
theorem dX12_valleyPart_85 : decode cX12_valleyPart 85 = .ok (.goto 77, 3) := by decide +kernel
theorem dX12_valleyPart_88 : decode cX12_valleyPart 88 = .ok (.aload_n 0, 1) := by decide +kernel
theorem dX12_valleyPart_89 : decode cX12_valleyPart 89 = .ok (.invokevirtual 223, 3) := by decide +kernel
theorem dX12_valleyPart_92 : decode cX12_valleyPart 92 = .ok (.istore_n 1, 1) := by decide +kernel
theorem dX12_valleyPart_93 : decode cX12_valleyPart 93 = .ok (.goto 69, 3) := by decide +kernel
theorem dX12_valleyPart_96 : decode cX12_valleyPart 96 = .ok (.aload_n 0, 1) := by decide +kernel
theorem dX12_valleyPart_97 : decode cX12_valleyPart 97 = .ok (.invokevirtual 226, 3) := by decide +kernel
theorem dX12_valleyPart_100 : decode cX12_valleyPart 100 = .ok (.istore_n 1, 1) := by decide +kernel
theorem dX12_valleyPart_101 : decode cX12_valleyPart 101 = .ok (.goto 61, 3) := by decide +kernel
theorem dX12_valleyPart_104 : decode cX12_valleyPart 104 = .ok (.aload_n 0, 1) := by decide +kernel
theorem dX12_valleyPart_105 : decode cX12_valleyPart 105 = .ok (.invokevirtual 229, 3) := by decide +kernel
theorem dX12_valleyPart_108 : decode cX12_valleyPart 108 = .ok (.istore_n 1, 1) := by decide +kernel
theorem dX12_valleyPart_109 : decode cX12_valleyPart 109 = .ok (.goto 53, 3) := by decide +kernel
theorem dX12_valleyPart_112 : decode cX12_valleyPart 112 = .ok (.aload_n 0, 1) := by decide +kernel
theorem dX12_valleyPart_113 : decode cX12_valleyPart 113 = .ok (.invokevirtual 232, 3) := by decide +kernel
theorem dX12_valleyPart_116 : decode cX12_valleyPart 116 = .ok (.istore_n 1, 1) := by decide +kernel
theorem dX12_valleyPart_117 : decode cX12_valleyPart 117 = .ok (.goto 45, 3) := by decide +kernel
theorem dX12_valleyPart_120 : decode cX12_valleyPart 120 = .ok (.aload_n 0, 1) := by decide +kernel
theorem dX12_valleyPart_121 : decode cX12_valleyPart 121 = .ok (.getfield 235, 3) := by decide +kernel
theorem dX12_valleyPart_124 : decode cX12_valleyPart 124 = .ok (.ifCond .eq 9, 3) := by decide +kernel
theorem dX12_valleyPart_127 : decode cX12_valleyPart 127 = .ok (.aload_n 0, 1) := by decide +kernel
theorem dX12_valleyPart_128 : decode cX12_valleyPart 128 = .ok (.iconst 5, 1) := by decide +kernel
theorem dX12_valleyPart_129 : decode cX12_valleyPart 129 = .ok (.invokevirtual 169, 3) := by decide +kernel
theorem dX12_valleyPart_132 : decode cX12_valleyPart 132 = .ok (.ireturn, 1) := by decide +kernel
theorem dX12_valleyPart_133 : decode cX12_valleyPart 133 = .ok (.aload_n 0, 1) := by decide +kernel
theorem dX12_valleyPart_134 : decode cX12_valleyPart 134 = .ok (.iconst 1, 1) := by decide +kernel
theorem dX12_valleyPart_135 : decode cX12_valleyPart 135 = .ok (.putfield 235, 3) := by decide +kernel
theorem dX12_valleyPart_138 : decode cX12_valleyPart 138 = .ok (.aload_n 0, 1) := by decide +kernel
theorem dX12_valleyPart_139 : decode cX12_valleyPart 139 = .ok (.invokevirtual 163, 3) := by decide +kernel
theorem dX12_valleyPart_142 : decode cX12_valleyPart 142 = .ok (.aload_n 0, 1) := by decide +kernel
theorem dX12_valleyPart_143 : decode cX12_valleyPart 143 = .ok (.sipush 2510, 3) := by decide +kernel
theorem dX12_valleyPart_146 : decode cX12_valleyPart 146 = .ok (.iconst 0, 1) := by decide +kernel
theorem dX12_valleyPart_147 : decode cX12_valleyPart 147 = .ok (.bipush 16, 2) := by decide +kernel
theorem dX12_valleyPart_149 : decode cX12_valleyPart 149 = .ok (.invokevirtual 202, 3) := by decide +kernel
theorem dX12_valleyPart_152 : decode cX12_valleyPart 152 = .ok (.istore_n 1, 1) := by decide +kernel
theorem dX12_valleyPart_153 : decode cX12_valleyPart 153 = .ok (.goto 9, 3) := by decide +kernel
theorem dX12_valleyPart_156 : decode cX12_valleyPart 156 = .ok (.aload_n 0, 1) := by decide +kernel
theorem dX12_valleyPart_157 : decode cX12_valleyPart 157 = .ok (.iconst 2, 1) := by decide +kernel
theorem dX12_valleyPart_158 : decode cX12_valleyPart 158 = .ok (.invokevirtual 169, 3) := by decide +kernel
theorem dX12_valleyPart_161 : decode cX12_valleyPart 161 = .ok (.ireturn, 1) := by decide +kernel
theorem dX12_valleyPart_162 : decode cX12_valleyPart 162 = .ok (.iload_n 1, 1) := by decide +kernel
theorem dX12_valleyPart_163 : decode cX12_valleyPart 163 = .ok (.ifCond .eq 16, 3) := by decide +kernel
theorem dX12_valleyPart_166 : decode cX12_valleyPart 166 = .ok (.aload_n 0, 1) := by decide +kernel
theorem dX12_valleyPart_167 : decode cX12_valleyPart 167 = .ok (.bipush 59, 2) := by decide +kernel
theorem dX12_valleyPart_169 : decode cX12_valleyPart 169 = .ok (.invokevirtual 239, 3) := by decide +kernel
theorem dX12_valleyPart_172 : decode cX12_valleyPart 172 = .ok (.ifCond .eq 7, 3) := by decide +kernel
theorem dX12_valleyPart_175 : decode cX12_valleyPart 175 = .ok (.iconst 1, 1) := by decide +kernel
theorem dX12_valleyPart_176 : decode cX12_valleyPart 176 = .ok (.goto 4, 3) := by decide +kernel
theorem dX12_valleyPart_179 : decode cX12_valleyPart 179 = .ok (.iconst 0, 1) := by decide +kernel
theorem dX12_valleyPart_180 : decode cX12_valleyPart 180 = .ok (.ireturn, 1) := by decide +kernel
noncomputable def fX12_valleyPart_j162 (rf : Nat → Nat → Nat) (a0 : Nat) (x1 : Int32) (μ0 : o_Mem) : Option (Int32 × o_Mem) :=
  if x1 = 0 then (
    some (0, μ0))
  else (
    o_bd (fX12_wantSign rf a0 59 μ0) fun r1 μ1 =>
    if r1 = 0 then (
      some (0, μ1))
    else (
      some (1, μ1)))
noncomputable def fX12_valleyPart_j83 (rf : Nat → Nat → Nat) (a0 : Nat) (x1 : Int32) (b0 : Nat) (y1 : Int32) (y2 : Int32) (y3 : Int32) (μ0 : o_Mem) : Option (Int32 × o_Mem) :=
  o_ck (0 ≤ (y1).toInt ∧ (y1).toInt < 3756) <|
  o_seq (o_wI μ0 b0 y1.toNatClampNeg (y2 + y3)) fun μ1 =>
  fX12_valleyPart_j162 rf a0 x1 μ1
noncomputable def fX12_valleyPart (rf : Nat → Nat → Nat) (a0 : Nat) (μ0 : o_Mem) : Option (Int32 × o_Mem) :=
  o_bd (fX12_inWords rf a0 μ0) fun r1 μ1 =>
  if r1 = 0 then (
    o_bd (fX12_aStrike rf a0 μ1) fun r2 μ2 =>
    fX12_valleyPart_j162 rf a0 r2 μ2)
  else
  if r1 = 1 then (
    o_bd (fX12_newOne rf a0 1 4 6 μ1) fun r3 μ3 =>
    if r3 = 0 then (
      fX12_valleyPart_j83 rf a0 r3 (rf a0 0) 2505 (μ3.1 (rf a0 0) 2505) 0 μ3)
    else (
      fX12_valleyPart_j83 rf a0 r3 (rf a0 0) 2505 (μ3.1 (rf a0 0) 2505) 1 μ3))
  else
  if r1 = 2 then (
    o_bd (fX12_aPerson rf a0 μ1) fun r4 μ4 =>
    fX12_valleyPart_j162 rf a0 r4 μ4)
  else
  if r1 = 3 then (
    o_bd (fX12_aLaw rf a0 μ1) fun r5 μ5 =>
    fX12_valleyPart_j162 rf a0 r5 μ5)
  else
  if r1 = 4 then (
    o_bd (fX12_anAct rf a0 μ1) fun r6 μ6 =>
    fX12_valleyPart_j162 rf a0 r6 μ6)
  else
  if r1 = 5 then (
    o_bd (fX12_aLetter rf a0 μ1) fun r7 μ7 =>
    fX12_valleyPart_j162 rf a0 r7 μ7)
  else
  if r1 = 6 then (
    if (μ1.1 a0 20) = 0 then (
      o_seq (o_wI μ1 a0 20 1) fun μ8 =>
      o_bd (fX12_ahead rf a0 μ8) fun _u μ9 =>
      o_bd (fX12_number rf a0 2510 0 16 μ9) fun r8 μ10 =>
      fX12_valleyPart_j162 rf a0 r8 μ10)
    else (
      o_bd (fX12_fails rf a0 5 μ1) fun r9 μ11 =>
      some (r9, μ11)))
  else
    o_bd (fX12_fails rf a0 2 μ1) fun r10 μ12 =>
    some (r10, μ12)
set_option maxRecDepth 20000 in
theorem dnX12_valleyPart_j162 {X : o_Cx} (hX : o_ok X) {d : Nat} {a0 : Nat} {x1 : Int32} {μ0 : o_Mem} {q : Int32 → o_Mem → Prop} (h0 : o_is X a0 (.inl 12)) (h : o_Post (fX12_valleyPart_j162 (o_rf X) a0 x1 μ0) q) : o_Ev X (d + 10) mX12_valleyPart 162 [some (.ref (o_ad X a0)), some (.int x1)] [] μ0 (o_QZ q) := by
  unfold fX12_valleyPart_j162 at h
  refine s_iload_n (i := 1) dX12_valleyPart_162 rfl rfl ?_
  refine s_if_eq (tgt := 179) dX12_valleyPart_163 rfl (fun c1 => ?_) (fun c1 => ?_)
  · have h := o_if_t c1 h
    refine s_iconst dX12_valleyPart_179 kI_0 ?_
    exact s_zreturn rfl (Or.inl rfl) dX12_valleyPart_180 ⟨_, rfl, (Or.inl rfl), o_ret h⟩
  · have h := o_if_f c1 h
    refine s_aload_n (i := 0) dX12_valleyPart_166 rfl rfl ?_
    refine s_bipush dX12_valleyPart_167 kB_59 ?_
    refine s_callVz (C := mX12_wantSign) (As := [.int 59]) (rest := []) (L0 := [some (.ref (o_ad X a0)), some (.int 59)]) hX h0 clX12_239 dX12_valleyPart_169 rfl rfl (Nat.le_of_ble_eq_true rfl) (Nat.le_of_ble_eq_true rfl) (dnX12_wantSign hX h0 (o_bdp h)) (fun r1 μ1 zr1 h => ?_)
    refine s_if_eq (tgt := 179) dX12_valleyPart_172 rfl (fun c1 => ?_) (fun c1 => ?_)
    · have h := o_if_t c1 h
      refine s_iconst dX12_valleyPart_179 kI_0 ?_
      exact s_zreturn rfl (Or.inl rfl) dX12_valleyPart_180 ⟨_, rfl, (Or.inl rfl), o_ret h⟩
    · have h := o_if_f c1 h
      refine s_iconst dX12_valleyPart_175 kI_1 ?_
      refine s_goto (tgt := 180) dX12_valleyPart_176 rfl ?_
      exact s_zreturn rfl (Or.inr rfl) dX12_valleyPart_180 ⟨_, rfl, (Or.inr rfl), o_ret h⟩
set_option maxRecDepth 20000 in
theorem dnX12_valleyPart_j83 {X : o_Cx} (hX : o_ok X) {d : Nat} {a0 : Nat} {x1 : Int32} {b0 : Nat} {y1 : Int32} {y2 : Int32} {y3 : Int32} {μ0 : o_Mem} {q : Int32 → o_Mem → Prop} (h0 : o_is X a0 (.inl 12)) (hb0 : o_is X b0 (.inr (0, 3756))) (h : o_Post (fX12_valleyPart_j83 (o_rf X) a0 x1 b0 y1 y2 y3 μ0) q) : o_Ev X (d + 10) mX12_valleyPart 83 [some (.ref (o_ad X a0)), some (.int x1)] [.int y3, .int y2, .int y1, .ref (o_ad X b0)] μ0 (o_QZ q) := by
  unfold fX12_valleyPart_j83 at h
  refine s_iadd dX12_valleyPart_83 ?_
  have hc := o_ck_c h
  have h := o_ck_k h
  refine s_iastK hX hb0 hc rfl dX12_valleyPart_84 (o_gen h (fun μ1 h => ?_))
  refine s_goto (tgt := 162) dX12_valleyPart_85 rfl ?_
  refine s_mask [true, true] (L' := [some (.ref (o_ad X a0)), some (.int x1)]) rfl ?_
  exact dnX12_valleyPart_j162 hX h0 h
set_option maxRecDepth 20000 in
theorem dnX12_valleyPart {X : o_Cx} (hX : o_ok X) {d : Nat} {a0 : Nat} {μ0 : o_Mem} {q : Int32 → o_Mem → Prop} (h0 : o_is X a0 (.inl 12)) (h : o_Post (fX12_valleyPart (o_rf X) a0 μ0) q) : o_Ev X (d + 10) mX12_valleyPart 0 [some (.ref (o_ad X a0)), none] [] μ0 (o_QZ q) := by
  unfold fX12_valleyPart at h
  refine s_aload_n (i := 0) dX12_valleyPart_0 rfl rfl ?_
  refine s_ldcS1 rfl dX12_valleyPart_1 ?_
  refine s_callVi (C := mX12_inWords) (As := [.ref (o_aK X 1)]) (rest := []) (L0 := [some (.ref (o_ad X a0)), some (.ref (o_aK X 1)), none, none, none, none, none]) hX h0 clX12_172 dX12_valleyPart_3 rfl rfl (Nat.le_of_ble_eq_true rfl) (Nat.le_of_ble_eq_true rfl) (dnX12_inWords hX h0 (o_bdp h)) (fun r1 μ1 h => ?_)
  by_cases e0 : r1 = 0
  · have h := o_if_t e0 h
    refine s_table (off := 42) (tgt := 48) dX12_valleyPart_6 rfl (by rw [e0]; decide) rfl ?_
    refine s_aload_n (i := 0) dX12_valleyPart_48 rfl rfl ?_
    refine s_callVz (C := mX12_aStrike) (As := []) (rest := []) (L0 := [some (.ref (o_ad X a0)), none]) hX h0 clX12_219 dX12_valleyPart_49 rfl rfl (Nat.le_of_ble_eq_true rfl) (Nat.le_of_ble_eq_true rfl) (dnX12_aStrike hX h0 (o_bdp h)) (fun r2 μ2 zr2 h => ?_)
    refine s_istore_n (i := 1) dX12_valleyPart_52 rfl (Nat.le_of_ble_eq_true rfl) rfl ?_
    refine s_goto (tgt := 162) dX12_valleyPart_53 rfl ?_
    refine s_mask [true, true] (L' := [some (.ref (o_ad X a0)), some (.int r2)]) rfl ?_
    exact dnX12_valleyPart_j162 hX h0 h
  have h := o_if_f e0 h
  by_cases e1 : r1 = 1
  · have h := o_if_t e1 h
    refine s_table (off := 50) (tgt := 56) dX12_valleyPart_6 rfl (by rw [e1]; decide) rfl ?_
    refine s_aload_n (i := 0) dX12_valleyPart_56 rfl rfl ?_
    refine s_iconst dX12_valleyPart_57 kI_1 ?_
    refine s_iconst dX12_valleyPart_58 kI_4 ?_
    refine s_bipush dX12_valleyPart_59 kB_6 ?_
    refine s_callVz (C := mX12_newOne) (As := [.int 1, .int 4, .int 6]) (rest := []) (L0 := [some (.ref (o_ad X a0)), some (.int 1), some (.int 4), some (.int 6)]) hX h0 clX12_196 dX12_valleyPart_61 rfl rfl (Nat.le_of_ble_eq_true rfl) (Nat.le_of_ble_eq_true rfl) (dnX12_newOne hX h0 (o_bdp h)) (fun r3 μ3 zr3 h => ?_)
    refine s_istore_n (i := 1) dX12_valleyPart_64 rfl (Nat.le_of_ble_eq_true rfl) rfl ?_
    refine s_aload_n (i := 0) dX12_valleyPart_65 rfl rfl ?_
    refine s_getR hX h0 flX12_7 rfl dX12_valleyPart_66 (fun (g1 : o_is X (o_rf X a0 0) (.inr (0, 3756))) => ?_)
    refine s_sipush dX12_valleyPart_69 kS_2505 ?_
    refine s_dup2 dX12_valleyPart_72 rfl rfl ?_
    refine s_ialdK g1 ⟨by decide, by decide⟩ kN_2505 dX12_valleyPart_73 ?_
    refine s_iload_n (i := 1) dX12_valleyPart_74 rfl rfl ?_
    refine s_if_eq (tgt := 82) dX12_valleyPart_75 rfl (fun c1 => ?_) (fun c1 => ?_)
    · have h := o_if_t c1 h
      refine s_iconst dX12_valleyPart_82 kI_0 ?_
      refine s_mask [true, true] (L' := [some (.ref (o_ad X a0)), some (.int r3)]) rfl ?_
      exact dnX12_valleyPart_j83 hX h0 g1 h
    · have h := o_if_f c1 h
      refine s_iconst dX12_valleyPart_78 kI_1 ?_
      refine s_goto (tgt := 83) dX12_valleyPart_79 rfl ?_
      refine s_mask [true, true] (L' := [some (.ref (o_ad X a0)), some (.int r3)]) rfl ?_
      exact dnX12_valleyPart_j83 hX h0 g1 h
  have h := o_if_f e1 h
  by_cases e2 : r1 = 2
  · have h := o_if_t e2 h
    refine s_table (off := 82) (tgt := 88) dX12_valleyPart_6 rfl (by rw [e2]; decide) rfl ?_
    refine s_aload_n (i := 0) dX12_valleyPart_88 rfl rfl ?_
    refine s_callVz (C := mX12_aPerson) (As := []) (rest := []) (L0 := [some (.ref (o_ad X a0)), none]) hX h0 clX12_223 dX12_valleyPart_89 rfl rfl (Nat.le_of_ble_eq_true rfl) (Nat.le_of_ble_eq_true rfl) (dnX12_aPerson hX h0 (o_bdp h)) (fun r4 μ4 zr4 h => ?_)
    refine s_istore_n (i := 1) dX12_valleyPart_92 rfl (Nat.le_of_ble_eq_true rfl) rfl ?_
    refine s_goto (tgt := 162) dX12_valleyPart_93 rfl ?_
    refine s_mask [true, true] (L' := [some (.ref (o_ad X a0)), some (.int r4)]) rfl ?_
    exact dnX12_valleyPart_j162 hX h0 h
  have h := o_if_f e2 h
  by_cases e3 : r1 = 3
  · have h := o_if_t e3 h
    refine s_table (off := 90) (tgt := 96) dX12_valleyPart_6 rfl (by rw [e3]; decide) rfl ?_
    refine s_aload_n (i := 0) dX12_valleyPart_96 rfl rfl ?_
    refine s_callVz (C := mX12_aLaw) (As := []) (rest := []) (L0 := [some (.ref (o_ad X a0)), none]) hX h0 clX12_226 dX12_valleyPart_97 rfl rfl (Nat.le_of_ble_eq_true rfl) (Nat.le_of_ble_eq_true rfl) (dnX12_aLaw hX h0 (o_bdp h)) (fun r5 μ5 zr5 h => ?_)
    refine s_istore_n (i := 1) dX12_valleyPart_100 rfl (Nat.le_of_ble_eq_true rfl) rfl ?_
    refine s_goto (tgt := 162) dX12_valleyPart_101 rfl ?_
    refine s_mask [true, true] (L' := [some (.ref (o_ad X a0)), some (.int r5)]) rfl ?_
    exact dnX12_valleyPart_j162 hX h0 h
  have h := o_if_f e3 h
  by_cases e4 : r1 = 4
  · have h := o_if_t e4 h
    refine s_table (off := 98) (tgt := 104) dX12_valleyPart_6 rfl (by rw [e4]; decide) rfl ?_
    refine s_aload_n (i := 0) dX12_valleyPart_104 rfl rfl ?_
    refine s_callVz (C := mX12_anAct) (As := []) (rest := []) (L0 := [some (.ref (o_ad X a0)), none, none]) hX h0 clX12_229 dX12_valleyPart_105 rfl rfl (Nat.le_of_ble_eq_true rfl) (Nat.le_of_ble_eq_true rfl) (dnX12_anAct hX h0 (o_bdp h)) (fun r6 μ6 zr6 h => ?_)
    refine s_istore_n (i := 1) dX12_valleyPart_108 rfl (Nat.le_of_ble_eq_true rfl) rfl ?_
    refine s_goto (tgt := 162) dX12_valleyPart_109 rfl ?_
    refine s_mask [true, true] (L' := [some (.ref (o_ad X a0)), some (.int r6)]) rfl ?_
    exact dnX12_valleyPart_j162 hX h0 h
  have h := o_if_f e4 h
  by_cases e5 : r1 = 5
  · have h := o_if_t e5 h
    refine s_table (off := 106) (tgt := 112) dX12_valleyPart_6 rfl (by rw [e5]; decide) rfl ?_
    refine s_aload_n (i := 0) dX12_valleyPart_112 rfl rfl ?_
    refine s_callVz (C := mX12_aLetter) (As := []) (rest := []) (L0 := [some (.ref (o_ad X a0)), none]) hX h0 clX12_232 dX12_valleyPart_113 rfl rfl (Nat.le_of_ble_eq_true rfl) (Nat.le_of_ble_eq_true rfl) (dnX12_aLetter hX h0 (o_bdp h)) (fun r7 μ7 zr7 h => ?_)
    refine s_istore_n (i := 1) dX12_valleyPart_116 rfl (Nat.le_of_ble_eq_true rfl) rfl ?_
    refine s_goto (tgt := 162) dX12_valleyPart_117 rfl ?_
    refine s_mask [true, true] (L' := [some (.ref (o_ad X a0)), some (.int r7)]) rfl ?_
    exact dnX12_valleyPart_j162 hX h0 h
  have h := o_if_f e5 h
  by_cases e6 : r1 = 6
  · have h := o_if_t e6 h
    refine s_table (off := 114) (tgt := 120) dX12_valleyPart_6 rfl (by rw [e6]; decide) rfl ?_
    refine s_aload_n (i := 0) dX12_valleyPart_120 rfl rfl ?_
    refine s_getI h0 flX12_235 rfl dX12_valleyPart_121 ?_
    refine s_if_eq (tgt := 133) dX12_valleyPart_124 rfl (fun c1 => ?_) (fun c1 => ?_)
    · have h := o_if_t c1 h
      refine s_aload_n (i := 0) dX12_valleyPart_133 rfl rfl ?_
      refine s_iconst dX12_valleyPart_134 kI_1 ?_
      refine s_putZ hX h0 fwX12_235 rfl (Or.inr rfl) dX12_valleyPart_135 (o_gen h (fun μ8 h => ?_))
      refine s_aload_n (i := 0) dX12_valleyPart_138 rfl rfl ?_
      refine s_callVu (C := mX12_ahead) (As := []) (rest := []) (L0 := [some (.ref (o_ad X a0)), none]) hX h0 clX12_163 dX12_valleyPart_139 rfl rfl (Nat.le_of_ble_eq_true rfl) (Nat.le_of_ble_eq_true rfl) (dnX12_ahead hX h0 (o_bdp h)) (fun _u μ9 h => ?_)
      refine s_aload_n (i := 0) dX12_valleyPart_142 rfl rfl ?_
      refine s_sipush dX12_valleyPart_143 kS_2510 ?_
      refine s_iconst dX12_valleyPart_146 kI_0 ?_
      refine s_bipush dX12_valleyPart_147 kB_16 ?_
      refine s_callVz (C := mX12_number) (As := [.int 2510, .int 0, .int 16]) (rest := []) (L0 := [some (.ref (o_ad X a0)), some (.int 2510), some (.int 0), some (.int 16)]) hX h0 clX12_202 dX12_valleyPart_149 rfl rfl (Nat.le_of_ble_eq_true rfl) (Nat.le_of_ble_eq_true rfl) (dnX12_number hX h0 (o_bdp h)) (fun r8 μ10 zr8 h => ?_)
      refine s_istore_n (i := 1) dX12_valleyPart_152 rfl (Nat.le_of_ble_eq_true rfl) rfl ?_
      refine s_goto (tgt := 162) dX12_valleyPart_153 rfl ?_
      refine s_mask [true, true] (L' := [some (.ref (o_ad X a0)), some (.int r8)]) rfl ?_
      exact dnX12_valleyPart_j162 hX h0 h
    · have h := o_if_f c1 h
      refine s_aload_n (i := 0) dX12_valleyPart_127 rfl rfl ?_
      refine s_iconst dX12_valleyPart_128 kI_5 ?_
      refine s_callVz (C := mX12_fails) (As := [.int 5]) (rest := []) (L0 := [some (.ref (o_ad X a0)), some (.int 5)]) hX h0 clX12_169 dX12_valleyPart_129 rfl rfl (Nat.le_of_ble_eq_true rfl) (Nat.le_of_ble_eq_true rfl) (dnX12_fails hX h0 (o_bdp h)) (fun r9 μ11 zr9 h => ?_)
      exact s_zreturn rfl zr9 dX12_valleyPart_132 ⟨_, rfl, zr9, o_ret h⟩
  have h := o_if_f e6 h
  have n0 := lv_neT (a := 0) e0 (by decide)
  have n1 := lv_neT (a := 1) e1 (by decide)
  have n2 := lv_neT (a := 2) e2 (by decide)
  have n3 := lv_neT (a := 3) e3 (by decide)
  have n4 := lv_neT (a := 4) e4 (by decide)
  have n5 := lv_neT (a := 5) e5 (by decide)
  have n6 := lv_neT (a := 6) e6 (by decide)
  have hz : (r1).toInt < 0 ∨ 6 < (r1).toInt := by omega
  refine s_table (off := 150) (tgt := 156) dX12_valleyPart_6 rfl (o_tabD hz) rfl ?_
  refine s_aload_n (i := 0) dX12_valleyPart_156 rfl rfl ?_
  refine s_iconst dX12_valleyPart_157 kI_2 ?_
  refine s_callVz (C := mX12_fails) (As := [.int 2]) (rest := []) (L0 := [some (.ref (o_ad X a0)), some (.int 2)]) hX h0 clX12_169 dX12_valleyPart_158 rfl rfl (Nat.le_of_ble_eq_true rfl) (Nat.le_of_ble_eq_true rfl) (dnX12_fails hX h0 (o_bdp h)) (fun r10 μ12 zr10 h => ?_)
  exact s_zreturn rfl zr10 dX12_valleyPart_161 ⟨_, rfl, zr10, o_ret h⟩
theorem dX12_valley_0 : decode cX12_valley 0 = .ok (.aload_n 0, 1) := by decide +kernel
theorem dX12_valley_1 : decode cX12_valley 1 = .ok (.iload_n 1, 1) := by decide +kernel
theorem dX12_valley_2 : decode cX12_valley 2 = .ok (.sipush 900, 3) := by decide +kernel
theorem dX12_valley_5 : decode cX12_valley 5 = .ok (.invokevirtual 242, 3) := by decide +kernel
theorem dX12_valley_8 : decode cX12_valley 8 = .ok (.ifCond .ne 9, 3) := by decide +kernel
theorem dX12_valley_11 : decode cX12_valley 11 = .ok (.aload_n 0, 1) := by decide +kernel
theorem dX12_valley_12 : decode cX12_valley 12 = .ok (.iconst 1, 1) := by decide +kernel
theorem dX12_valley_13 : decode cX12_valley 13 = .ok (.invokevirtual 87, 3) := by decide +kernel
theorem dX12_valley_16 : decode cX12_valley 16 = .ok (.ireturn, 1) := by decide +kernel
theorem dX12_valley_17 : decode cX12_valley 17 = .ok (.aload_n 0, 1) := by decide +kernel
theorem dX12_valley_18 : decode cX12_valley 18 = .ok (.sipush 2504, 3) := by decide +kernel
theorem dX12_valley_21 : decode cX12_valley 21 = .ok (.invokevirtual 77, 3) := by decide +kernel
theorem dX12_valley_24 : decode cX12_valley 24 = .ok (.aload_n 0, 1) := by decide +kernel
theorem dX12_valley_25 : decode cX12_valley 25 = .ok (.iconst 0, 1) := by decide +kernel
theorem dX12_valley_26 : decode cX12_valley 26 = .ok (.putfield 235, 3) := by decide +kernel
theorem dX12_valley_29 : decode cX12_valley 29 = .ok (.iconst 1, 1) := by decide +kernel
theorem dX12_valley_30 : decode cX12_valley 30 = .ok (.istore_n 2, 1) := by decide +kernel
theorem dX12_valley_31 : decode cX12_valley 31 = .ok (.iload_n 2, 1) := by decide +kernel
theorem dX12_valley_32 : decode cX12_valley 32 = .ok (.ifCond .eq 18, 3) := by decide +kernel
theorem dX12_valley_35 : decode cX12_valley 35 = .ok (.aload_n 0, 1) := by decide +kernel
theorem dX12_valley_36 : decode cX12_valley 36 = .ok (.getfield 132, 3) := by decide +kernel
theorem dX12_valley_39 : decode cX12_valley 39 = .ok (.ifCond .eq 11, 3) := by decide +kernel
theorem dX12_valley_42 : decode cX12_valley 42 = .ok (.aload_n 0, 1) := by decide +kernel
theorem dX12_valley_43 : decode cX12_valley 43 = .ok (.invokevirtual 245, 3) := by decide +kernel
theorem dX12_valley_46 : decode cX12_valley 46 = .ok (.istore_n 2, 1) := by decide +kernel
theorem dX12_valley_47 : decode cX12_valley 47 = .ok (.goto (-16), 3) := by decide +kernel
theorem dX12_valley_50 : decode cX12_valley 50 = .ok (.aload_n 0, 1) := by decide +kernel
theorem dX12_valley_51 : decode cX12_valley 51 = .ok (.getfield 157, 3) := by decide +kernel
theorem dX12_valley_54 : decode cX12_valley 54 = .ok (.ifCond .ne 63, 3) := by decide +kernel
theorem dX12_valley_57 : decode cX12_valley 57 = .ok (.iconst 0, 1) := by decide +kernel
theorem dX12_valley_58 : decode cX12_valley 58 = .ok (.istore_n 3, 1) := by decide +kernel
theorem dX12_valley_59 : decode cX12_valley 59 = .ok (.iload_n 3, 1) := by decide +kernel
theorem dX12_valley_60 : decode cX12_valley 60 = .ok (.sipush 626, 3) := by decide +kernel
theorem dX12_valley_63 : decode cX12_valley 63 = .ok (.if_icmp .ge 25, 3) := by decide +kernel
theorem dX12_valley_66 : decode cX12_valley 66 = .ok (.aload_n 0, 1) := by decide +kernel
theorem dX12_valley_67 : decode cX12_valley 67 = .ok (.getfield 7, 3) := by decide +kernel
theorem dX12_valley_70 : decode cX12_valley 70 = .ok (.iload_n 3, 1) := by decide +kernel
theorem dX12_valley_71 : decode cX12_valley 71 = .ok (.aload_n 0, 1) := by decide +kernel
theorem dX12_valley_72 : decode cX12_valley 72 = .ok (.getfield 7, 3) := by decide +kernel
theorem dX12_valley_75 : decode cX12_valley 75 = .ok (.sipush 2504, 3) := by decide +kernel
theorem dX12_valley_78 : decode cX12_valley 78 = .ok (.iload_n 3, 1) := by decide +kernel
theorem dX12_valley_79 : decode cX12_valley 79 = .ok (.iadd, 1) := by decide +kernel
theorem dX12_valley_80 : decode cX12_valley 80 = .ok (.iaload, 1) := by decide +kernel
theorem dX12_valley_81 : decode cX12_valley 81 = .ok (.iastore, 1) := by decide +kernel
theorem dX12_valley_82 : decode cX12_valley 82 = .ok (.iinc 3 1, 3) := by decide +kernel
theorem dX12_valley_85 : decode cX12_valley 85 = .ok (.goto (-26), 3) := by decide +kernel
theorem dX12_valley_88 : decode cX12_valley 88 = .ok (.iconst 0, 1) := by decide +kernel
theorem dX12_valley_89 : decode cX12_valley 89 = .ok (.istore_n 3, 1) := by decide +kernel
theorem dX12_valley_90 : decode cX12_valley 90 = .ok (.iload_n 3, 1) := by decide +kernel
theorem dX12_valley_91 : decode cX12_valley 91 = .ok (.bipush 16, 2) := by decide +kernel
theorem dX12_valley_93 : decode cX12_valley 93 = .ok (.if_icmp .ge 24, 3) := by decide +kernel
theorem dX12_valley_96 : decode cX12_valley 96 = .ok (.aload_n 0, 1) := by decide +kernel
theorem dX12_valley_97 : decode cX12_valley 97 = .ok (.getfield 13, 3) := by decide +kernel
theorem dX12_valley_100 : decode cX12_valley 100 = .ok (.iload_n 3, 1) := by decide +kernel
theorem dX12_valley_101 : decode cX12_valley 101 = .ok (.aload_n 0, 1) := by decide +kernel
theorem dX12_valley_102 : decode cX12_valley 102 = .ok (.getfield 13, 3) := by decide +kernel
theorem dX12_valley_105 : decode cX12_valley 105 = .ok (.bipush 64, 2) := by decide +kernel
theorem dX12_valley_107 : decode cX12_valley 107 = .ok (.iload_n 3, 1) := by decide +kernel
theorem dX12_valley_108 : decode cX12_valley 108 = .ok (.iadd, 1) := by decide +kernel
theorem dX12_valley_109 : decode cX12_valley 109 = .ok (.laload, 1) := by decide +kernel
theorem dX12_valley_110 : decode cX12_valley 110 = .ok (.lastore, 1) := by decide +kernel
theorem dX12_valley_111 : decode cX12_valley 111 = .ok (.iinc 3 1, 3) := by decide +kernel
theorem dX12_valley_114 : decode cX12_valley 114 = .ok (.goto (-24), 3) := by decide +kernel
theorem dX12_valley_117 : decode cX12_valley 117 = .ok (.aload_n 0, 1) := by decide +kernel
theorem dX12_valley_118 : decode cX12_valley 118 = .ok (.aload_n 0, 1) := by decide +kernel
theorem dX12_valley_119 : decode cX12_valley 119 = .ok (.getfield 7, 3) := by decide +kernel
theorem dX12_valley_122 : decode cX12_valley 122 = .ok (.iconst 3, 1) := by decide +kernel
theorem dX12_valley_123 : decode cX12_valley 123 = .ok (.iaload, 1) := by decide +kernel
theorem dX12_valley_124 : decode cX12_valley 124 = .ok (.invokevirtual 248, 3) := by decide +kernel
theorem dX12_valley_127 : decode cX12_valley 127 = .ok (.ireturn, 1) := by decide +kernel
noncomputable def fX12_valley_s31 (rf : Nat → Nat → Nat) (a0 : Nat) (τ31 : Int32) (μ0 : o_Mem) : Option ((Nat × (Int32)) × o_Mem) :=
  if τ31 = 0 then (
    some ((50, 0), μ0))
  else (
    if (μ0.1 a0 12) = 0 then (
      some ((50, 0), μ0))
    else (
      o_bd (fX12_valleyPart rf a0 μ0) fun r1 μ1 =>
      some ((31, r1), μ1)))
noncomputable def fX12_valley_j117 (rf : Nat → Nat → Nat) (a0 : Nat) (μ0 : o_Mem) : Option (Int32 × o_Mem) :=
  o_bd (fX12_taken rf a0 (μ0.1 (rf a0 0) 3) μ0) fun r1 μ1 =>
  some (r1, μ1)
noncomputable def fX12_valley_s59 (rf : Nat → Nat → Nat) (a0 : Nat) (τ59 : Int32) (μ0 : o_Mem) : Option ((Nat × (Int32)) × o_Mem) :=
  if 626 ≤ τ59 then (
    some ((88, 0), μ0))
  else (
    o_ck (0 ≤ ((2504 + τ59)).toInt ∧ ((2504 + τ59)).toInt < 3756) <|
    o_ck (0 ≤ (τ59).toInt ∧ (τ59).toInt < 3756) <|
    o_seq (o_wI μ0 (rf a0 0) τ59.toNatClampNeg (μ0.1 (rf a0 0) ((2504 + τ59)).toNatClampNeg)) fun μ1 =>
    some ((59, (τ59 + 1)), μ1))
noncomputable def fX12_valley_s90 (rf : Nat → Nat → Nat) (a0 : Nat) (τ90 : Int32) (μ0 : o_Mem) : Option ((Nat × (Int32)) × o_Mem) :=
  if 16 ≤ τ90 then (
    some ((117, 0), μ0))
  else (
    o_ck (0 ≤ ((64 + τ90)).toInt ∧ ((64 + τ90)).toInt < 96) <|
    o_ck (0 ≤ (τ90).toInt ∧ (τ90).toInt < 96) <|
    o_seq (o_wL μ0 (rf a0 1) τ90.toNatClampNeg (μ0.2 (rf a0 1) ((64 + τ90)).toNatClampNeg)) fun μ1 =>
    some ((90, (τ90 + 1)), μ1))
noncomputable def fX12_valley_j50 (rf : Nat → Nat → Nat) (a0 : Nat) (μ0 : o_Mem) : Option (Int32 × o_Mem) :=
  if (μ0.1 a0 18) = 0 then (
    o_bd (o_lp 59 (fX12_valley_s59 rf a0) o_fuel (0 : Int32) μ0) fun ex1 μ1 =>
    if ex1.1 = 88 then (
      o_bd (o_lp 90 (fX12_valley_s90 rf a0) o_fuel (0 : Int32) μ1) fun ex2 μ2 =>
      if ex2.1 = 117 then (
        fX12_valley_j117 rf a0 μ2)
      else
        none)
    else
      none)
  else (
    fX12_valley_j117 rf a0 μ0)
noncomputable def fX12_valley (rf : Nat → Nat → Nat) (a0 : Nat) (x1 : Int32) (μ0 : o_Mem) : Option (Int32 × o_Mem) :=
  o_bd (fX12_begins rf a0 x1 900 μ0) fun r1 μ1 =>
  if r1 = 0 then (
    o_bd (fX12_refuse rf a0 1 μ1) fun r2 μ5 =>
    some (r2, μ5))
  else (
    o_bd (fX12_plain rf a0 2504 μ1) fun _u μ2 =>
    o_seq (o_wI μ2 a0 20 0) fun μ3 =>
    o_bd (o_lp 31 (fX12_valley_s31 rf a0) o_fuel (1 : Int32) μ3) fun ex4 μ4 =>
    if ex4.1 = 50 then (
      fX12_valley_j50 rf a0 μ4)
    else
      none)
set_option maxRecDepth 20000 in
theorem dnX12_valley_s31 {X : o_Cx} (hX : o_ok X) {d : Nat} {a0 : Nat} {τ31 : Int32} {μ0 : o_Mem} {K : (Nat × (Int32)) → o_Mem → Prop} {Q : Option Value → o_Mem → Prop} (h0 : o_is X a0 (.inl 12)) (h : o_Post (fX12_valley_s31 (o_rf X) a0 τ31 μ0) K) (kh : ∀ (τ31 : Int32) (μ : o_Mem), K (31, τ31) μ → o_Ev X (d + 11) mX12_valley 31 [some (.ref (o_ad X a0)), none, some (.int τ31), none] [] μ Q) (k50 : ∀ (τ31 : Int32) (μ : o_Mem), K (50, τ31) μ → o_Ev X (d + 11) mX12_valley 50 [some (.ref (o_ad X a0)), none, none, none] [] μ Q) : o_Ev X (d + 11) mX12_valley 31 [some (.ref (o_ad X a0)), none, some (.int τ31), none] [] μ0 Q := by
  unfold fX12_valley_s31 at h
  refine s_iload_n (i := 2) dX12_valley_31 rfl rfl ?_
  refine s_if_eq (tgt := 50) dX12_valley_32 rfl (fun c1 => ?_) (fun c1 => ?_)
  · have h := o_if_t c1 h
    refine s_mask [true, false, false, false] (L' := [some (.ref (o_ad X a0)), none, none, none]) rfl ?_
    exact k50 0 _ (o_ret h)
  · have h := o_if_f c1 h
    refine s_aload_n (i := 0) dX12_valley_35 rfl rfl ?_
    refine s_getI h0 flX12_132 rfl dX12_valley_36 ?_
    refine s_if_eq (tgt := 50) dX12_valley_39 rfl (fun c1 => ?_) (fun c1 => ?_)
    · have h := o_if_t c1 h
      refine s_mask [true, false, false, false] (L' := [some (.ref (o_ad X a0)), none, none, none]) rfl ?_
      exact k50 0 _ (o_ret h)
    · have h := o_if_f c1 h
      refine s_aload_n (i := 0) dX12_valley_42 rfl rfl ?_
      refine s_callVz (C := mX12_valleyPart) (As := []) (rest := []) (L0 := [some (.ref (o_ad X a0)), none]) hX h0 clX12_245 dX12_valley_43 rfl rfl (Nat.le_of_ble_eq_true rfl) (Nat.le_of_ble_eq_true rfl) (dnX12_valleyPart hX h0 (o_bdp h)) (fun r1 μ1 zr1 h => ?_)
      refine s_istore_n (i := 2) dX12_valley_46 rfl (Nat.le_of_ble_eq_true rfl) rfl ?_
      refine s_goto (tgt := 31) dX12_valley_47 rfl ?_
      refine s_mask [true, false, true, false] (L' := [some (.ref (o_ad X a0)), none, some (.int r1), none]) rfl ?_
      exact kh r1 _ (o_ret h)
set_option maxRecDepth 20000 in
theorem dnX12_valley_j117 {X : o_Cx} (hX : o_ok X) {d : Nat} {a0 : Nat} {μ0 : o_Mem} {q : Int32 → o_Mem → Prop} (h0 : o_is X a0 (.inl 12)) (h : o_Post (fX12_valley_j117 (o_rf X) a0 μ0) q) : o_Ev X (d + 11) mX12_valley 117 [some (.ref (o_ad X a0)), none, none, none] [] μ0 (o_QI q) := by
  unfold fX12_valley_j117 at h
  refine s_aload_n (i := 0) dX12_valley_117 rfl rfl ?_
  refine s_aload_n (i := 0) dX12_valley_118 rfl rfl ?_
  refine s_getR hX h0 flX12_7 rfl dX12_valley_119 (fun (g1 : o_is X (o_rf X a0 0) (.inr (0, 3756))) => ?_)
  refine s_iconst dX12_valley_122 kI_3 ?_
  refine s_ialdK g1 ⟨by decide, by decide⟩ kN_3 dX12_valley_123 ?_
  refine s_callVi (C := mX12_taken) (As := [.int (μ0.1 (o_rf X a0 0) 3)]) (rest := []) (L0 := [some (.ref (o_ad X a0)), some (.int (μ0.1 (o_rf X a0 0) 3))]) hX h0 clX12_248 dX12_valley_124 rfl rfl (Nat.le_of_ble_eq_true rfl) (Nat.le_of_ble_eq_true rfl) (dnX12_taken hX h0 (o_bdp h)) (fun r1 μ1 h => ?_)
  exact s_ireturn rfl dX12_valley_127 ⟨_, rfl, o_ret h⟩
set_option maxRecDepth 20000 in
theorem dnX12_valley_s59 {X : o_Cx} (hX : o_ok X) {d : Nat} {a0 : Nat} {τ59 : Int32} {μ0 : o_Mem} {K : (Nat × (Int32)) → o_Mem → Prop} {Q : Option Value → o_Mem → Prop} (h0 : o_is X a0 (.inl 12)) (h : o_Post (fX12_valley_s59 (o_rf X) a0 τ59 μ0) K) (kh : ∀ (τ59 : Int32) (μ : o_Mem), K (59, τ59) μ → o_Ev X (d + 11) mX12_valley 59 [some (.ref (o_ad X a0)), none, none, some (.int τ59)] [] μ Q) (k88 : ∀ (τ59 : Int32) (μ : o_Mem), K (88, τ59) μ → o_Ev X (d + 11) mX12_valley 88 [some (.ref (o_ad X a0)), none, none, none] [] μ Q) : o_Ev X (d + 11) mX12_valley 59 [some (.ref (o_ad X a0)), none, none, some (.int τ59)] [] μ0 Q := by
  unfold fX12_valley_s59 at h
  refine s_iload_n (i := 3) dX12_valley_59 rfl rfl ?_
  refine s_sipush dX12_valley_60 kS_626 ?_
  refine s_icmp_ge (tgt := 88) dX12_valley_63 rfl (fun c1 => ?_) (fun c1 => ?_)
  · have h := o_if_t c1 h
    refine s_mask [true, false, false, false] (L' := [some (.ref (o_ad X a0)), none, none, none]) rfl ?_
    exact k88 0 _ (o_ret h)
  · have h := o_if_f c1 h
    refine s_aload_n (i := 0) dX12_valley_66 rfl rfl ?_
    refine s_getR hX h0 flX12_7 rfl dX12_valley_67 (fun (g1 : o_is X (o_rf X a0 0) (.inr (0, 3756))) => ?_)
    refine s_iload_n (i := 3) dX12_valley_70 rfl rfl ?_
    refine s_aload_n (i := 0) dX12_valley_71 rfl rfl ?_
    refine s_getR hX h0 flX12_7 rfl dX12_valley_72 (fun (g2 : o_is X (o_rf X a0 0) (.inr (0, 3756))) => ?_)
    refine s_sipush dX12_valley_75 kS_2504 ?_
    refine s_iload_n (i := 3) dX12_valley_78 rfl rfl ?_
    refine s_iadd dX12_valley_79 ?_
    have hc := o_ck_c h
    have h := o_ck_k h
    refine s_ialdK g2 hc rfl dX12_valley_80 ?_
    have hc := o_ck_c h
    have h := o_ck_k h
    refine s_iastK hX g1 hc rfl dX12_valley_81 (o_gen h (fun μ1 h => ?_))
    refine s_iinc (v := (τ59 + 1)) dX12_valley_82 rfl rfl (Nat.le_of_ble_eq_true rfl) rfl ?_
    refine s_goto (tgt := 59) dX12_valley_85 rfl ?_
    refine s_mask [true, false, false, true] (L' := [some (.ref (o_ad X a0)), none, none, some (.int (τ59 + 1))]) rfl ?_
    exact kh (τ59 + 1) _ (o_ret h)
set_option maxRecDepth 20000 in
theorem dnX12_valley_s90 {X : o_Cx} (hX : o_ok X) {d : Nat} {a0 : Nat} {τ90 : Int32} {μ0 : o_Mem} {K : (Nat × (Int32)) → o_Mem → Prop} {Q : Option Value → o_Mem → Prop} (h0 : o_is X a0 (.inl 12)) (h : o_Post (fX12_valley_s90 (o_rf X) a0 τ90 μ0) K) (kh : ∀ (τ90 : Int32) (μ : o_Mem), K (90, τ90) μ → o_Ev X (d + 11) mX12_valley 90 [some (.ref (o_ad X a0)), none, none, some (.int τ90)] [] μ Q) (k117 : ∀ (τ90 : Int32) (μ : o_Mem), K (117, τ90) μ → o_Ev X (d + 11) mX12_valley 117 [some (.ref (o_ad X a0)), none, none, none] [] μ Q) : o_Ev X (d + 11) mX12_valley 90 [some (.ref (o_ad X a0)), none, none, some (.int τ90)] [] μ0 Q := by
  unfold fX12_valley_s90 at h
  refine s_iload_n (i := 3) dX12_valley_90 rfl rfl ?_
  refine s_bipush dX12_valley_91 kB_16 ?_
  refine s_icmp_ge (tgt := 117) dX12_valley_93 rfl (fun c1 => ?_) (fun c1 => ?_)
  · have h := o_if_t c1 h
    refine s_mask [true, false, false, false] (L' := [some (.ref (o_ad X a0)), none, none, none]) rfl ?_
    exact k117 0 _ (o_ret h)
  · have h := o_if_f c1 h
    refine s_aload_n (i := 0) dX12_valley_96 rfl rfl ?_
    refine s_getR hX h0 flX12_13 rfl dX12_valley_97 (fun (g1 : o_is X (o_rf X a0 1) (.inr (2, 96))) => ?_)
    refine s_iload_n (i := 3) dX12_valley_100 rfl rfl ?_
    refine s_aload_n (i := 0) dX12_valley_101 rfl rfl ?_
    refine s_getR hX h0 flX12_13 rfl dX12_valley_102 (fun (g2 : o_is X (o_rf X a0 1) (.inr (2, 96))) => ?_)
    refine s_bipush dX12_valley_105 kB_64 ?_
    refine s_iload_n (i := 3) dX12_valley_107 rfl rfl ?_
    refine s_iadd dX12_valley_108 ?_
    have hc := o_ck_c h
    have h := o_ck_k h
    refine s_laldK g2 hc rfl dX12_valley_109 ?_
    have hc := o_ck_c h
    have h := o_ck_k h
    refine s_lastK hX g1 hc rfl dX12_valley_110 (o_gen h (fun μ1 h => ?_))
    refine s_iinc (v := (τ90 + 1)) dX12_valley_111 rfl rfl (Nat.le_of_ble_eq_true rfl) rfl ?_
    refine s_goto (tgt := 90) dX12_valley_114 rfl ?_
    refine s_mask [true, false, false, true] (L' := [some (.ref (o_ad X a0)), none, none, some (.int (τ90 + 1))]) rfl ?_
    exact kh (τ90 + 1) _ (o_ret h)
set_option maxRecDepth 20000 in
theorem dnX12_valley_j50 {X : o_Cx} (hX : o_ok X) {d : Nat} {a0 : Nat} {μ0 : o_Mem} {q : Int32 → o_Mem → Prop} (h0 : o_is X a0 (.inl 12)) (h : o_Post (fX12_valley_j50 (o_rf X) a0 μ0) q) : o_Ev X (d + 11) mX12_valley 50 [some (.ref (o_ad X a0)), none, none, none] [] μ0 (o_QI q) := by
  unfold fX12_valley_j50 at h
  refine s_aload_n (i := 0) dX12_valley_50 rfl rfl ?_
  refine s_getI h0 flX12_157 rfl dX12_valley_51 ?_
  refine s_if_ne (tgt := 117) dX12_valley_54 rfl (fun c1 => ?_) (fun c1 => ?_)
  · have h := o_if_f c1 h
    refine s_mask [true, false, false, false] (L' := [some (.ref (o_ad X a0)), none, none, none]) rfl ?_
    exact dnX12_valley_j117 hX h0 h
  · have h := o_if_t c1 h
    refine s_iconst dX12_valley_57 kI_0 ?_
    refine s_istore_n (i := 3) dX12_valley_58 rfl (Nat.le_of_ble_eq_true rfl) rfl ?_
    refine s_mask [true, false, false, true] (L' := [some (.ref (o_ad X a0)), none, none, some (.int 0)]) rfl ?_
    refine o_lp_ev (fun τ59 => [some (.ref (o_ad X a0)), none, none, some (.int τ59)]) (fun τ59 μ _K h kv ke59 => dnX12_valley_s59 hX h0 h kv (fun τ59 μ1 h => ?_)) o_fuel 0 μ0 (o_bdp h)
    · have h := o_if_t rfl (ke59 (88, τ59) μ1 (o_ne rfl) h)
      refine s_iconst dX12_valley_88 kI_0 ?_
      refine s_istore_n (i := 3) dX12_valley_89 rfl (Nat.le_of_ble_eq_true rfl) rfl ?_
      refine s_mask [true, false, false, true] (L' := [some (.ref (o_ad X a0)), none, none, some (.int 0)]) rfl ?_
      refine o_lp_ev (fun τ90 => [some (.ref (o_ad X a0)), none, none, some (.int τ90)]) (fun τ90 μ _K h kv ke90 => dnX12_valley_s90 hX h0 h kv (fun τ90 μ2 h => ?_)) o_fuel 0 μ1 (o_bdp h)
      · have h := o_if_t rfl (ke90 (117, τ90) μ2 (o_ne rfl) h)
        refine s_mask [true, false, false, false] (L' := [some (.ref (o_ad X a0)), none, none, none]) rfl ?_
        exact dnX12_valley_j117 hX h0 h
set_option maxRecDepth 20000 in
theorem dnX12_valley {X : o_Cx} (hX : o_ok X) {d : Nat} {a0 : Nat} {x1 : Int32} {μ0 : o_Mem} {q : Int32 → o_Mem → Prop} (h0 : o_is X a0 (.inl 12)) (h : o_Post (fX12_valley (o_rf X) a0 x1 μ0) q) : o_Ev X (d + 11) mX12_valley 0 [some (.ref (o_ad X a0)), some (.int x1), none, none] [] μ0 (o_QI q) := by
  unfold fX12_valley at h
  refine s_aload_n (i := 0) dX12_valley_0 rfl rfl ?_
  refine s_iload_n (i := 1) dX12_valley_1 rfl rfl ?_
  refine s_sipush dX12_valley_2 kS_900 ?_
  refine s_callVz (C := mX12_begins) (As := [.int x1, .int 900]) (rest := []) (L0 := [some (.ref (o_ad X a0)), some (.int x1), some (.int 900), none]) hX h0 clX12_242 dX12_valley_5 rfl rfl (Nat.le_of_ble_eq_true rfl) (Nat.le_of_ble_eq_true rfl) (dnX12_begins hX h0 (o_bdp h)) (fun r1 μ1 zr1 h => ?_)
  refine s_if_ne (tgt := 17) dX12_valley_8 rfl (fun c1 => ?_) (fun c1 => ?_)
  · have h := o_if_f c1 h
    refine s_aload_n (i := 0) dX12_valley_17 rfl rfl ?_
    refine s_sipush dX12_valley_18 kS_2504 ?_
    refine s_callVu (C := mX12_plain) (As := [.int 2504]) (rest := []) (L0 := [some (.ref (o_ad X a0)), some (.int 2504), none]) hX h0 clX12_77 dX12_valley_21 rfl rfl (Nat.le_of_ble_eq_true rfl) (Nat.le_of_ble_eq_true rfl) (dnX12_plain hX h0 (o_bdp h)) (fun _u μ2 h => ?_)
    refine s_aload_n (i := 0) dX12_valley_24 rfl rfl ?_
    refine s_iconst dX12_valley_25 kI_0 ?_
    refine s_putZ hX h0 fwX12_235 rfl (Or.inl rfl) dX12_valley_26 (o_gen h (fun μ3 h => ?_))
    refine s_iconst dX12_valley_29 kI_1 ?_
    refine s_istore_n (i := 2) dX12_valley_30 rfl (Nat.le_of_ble_eq_true rfl) rfl ?_
    refine s_mask [true, false, true, false] (L' := [some (.ref (o_ad X a0)), none, some (.int 1), none]) rfl ?_
    refine o_lp_ev (fun τ31 => [some (.ref (o_ad X a0)), none, some (.int τ31), none]) (fun τ31 μ _K h kv ke31 => dnX12_valley_s31 hX h0 h kv (fun τ31 μ4 h => ?_)) o_fuel 1 μ3 (o_bdp h)
    · have h := o_if_t rfl (ke31 (50, τ31) μ4 (o_ne rfl) h)
      refine s_mask [true, false, false, false] (L' := [some (.ref (o_ad X a0)), none, none, none]) rfl ?_
      exact dnX12_valley_j50 hX h0 h
  · have h := o_if_t c1 h
    refine s_aload_n (i := 0) dX12_valley_11 rfl rfl ?_
    refine s_iconst dX12_valley_12 kI_1 ?_
    refine s_callVi (C := mX12_refuse) (As := [.int 1]) (rest := []) (L0 := [some (.ref (o_ad X a0)), some (.int 1)]) hX h0 clX12_87 dX12_valley_13 rfl rfl (Nat.le_of_ble_eq_true rfl) (Nat.le_of_ble_eq_true rfl) (dnX12_refuse hX h0 (o_bdp h)) (fun r2 μ5 h => ?_)
    exact s_ireturn rfl dX12_valley_16 ⟨_, rfl, o_ret h⟩
theorem dX12_oldPersonTo_0 : decode cX12_oldPersonTo 0 = .ok (.aload_n 0, 1) := by decide +kernel
theorem dX12_oldPersonTo_1 : decode cX12_oldPersonTo 1 = .ok (.bipush 10, 2) := by decide +kernel
theorem dX12_oldPersonTo_3 : decode cX12_oldPersonTo 3 = .ok (.aload_n 0, 1) := by decide +kernel
theorem dX12_oldPersonTo_4 : decode cX12_oldPersonTo 4 = .ok (.getfield 7, 3) := by decide +kernel
theorem dX12_oldPersonTo_7 : decode cX12_oldPersonTo 7 = .ok (.iconst 2, 1) := by decide +kernel
theorem dX12_oldPersonTo_8 : decode cX12_oldPersonTo 8 = .ok (.iaload, 1) := by decide +kernel
theorem dX12_oldPersonTo_9 : decode cX12_oldPersonTo 9 = .ok (.iload_n 1, 1) := by decide +kernel
theorem dX12_oldPersonTo_10 : decode cX12_oldPersonTo 10 = .ok (.invokevirtual 189, 3) := by decide +kernel
theorem dX12_oldPersonTo_13 : decode cX12_oldPersonTo 13 = .ok (.ireturn, 1) := by decide +kernel
noncomputable def fX12_oldPersonTo (rf : Nat → Nat → Nat) (a0 : Nat) (x1 : Int32) (μ0 : o_Mem) : Option (Int32 × o_Mem) :=
  o_bd (fX12_oldOne rf a0 10 (μ0.1 (rf a0 0) 2) x1 μ0) fun r1 μ1 =>
  some (r1, μ1)
set_option maxRecDepth 20000 in
theorem dnX12_oldPersonTo {X : o_Cx} (hX : o_ok X) {d : Nat} {a0 : Nat} {x1 : Int32} {μ0 : o_Mem} {q : Int32 → o_Mem → Prop} (h0 : o_is X a0 (.inl 12)) (h : o_Post (fX12_oldPersonTo (o_rf X) a0 x1 μ0) q) : o_Ev X (d + 7) mX12_oldPersonTo 0 [some (.ref (o_ad X a0)), some (.int x1)] [] μ0 (o_QZ q) := by
  unfold fX12_oldPersonTo at h
  refine s_aload_n (i := 0) dX12_oldPersonTo_0 rfl rfl ?_
  refine s_bipush dX12_oldPersonTo_1 kB_10 ?_
  refine s_aload_n (i := 0) dX12_oldPersonTo_3 rfl rfl ?_
  refine s_getR hX h0 flX12_7 rfl dX12_oldPersonTo_4 (fun (g1 : o_is X (o_rf X a0 0) (.inr (0, 3756))) => ?_)
  refine s_iconst dX12_oldPersonTo_7 kI_2 ?_
  refine s_ialdK g1 ⟨by decide, by decide⟩ kN_2 dX12_oldPersonTo_8 ?_
  refine s_iload_n (i := 1) dX12_oldPersonTo_9 rfl rfl ?_
  refine s_callVz (C := mX12_oldOne) (As := [.int 10, .int (μ0.1 (o_rf X a0 0) 2), .int x1]) (rest := []) (L0 := [some (.ref (o_ad X a0)), some (.int 10), some (.int (μ0.1 (o_rf X a0 0) 2)), some (.int x1)]) hX h0 clX12_189 dX12_oldPersonTo_10 rfl rfl (Nat.le_of_ble_eq_true rfl) (Nat.le_of_ble_eq_true rfl) (dnX12_oldOne hX h0 (o_bdp h)) (fun r1 μ1 zr1 h => ?_)
  exact s_zreturn rfl zr1 dX12_oldPersonTo_13 ⟨_, rfl, zr1, o_ret h⟩
theorem dX12_test_0 : decode cX12_test 0 = .ok (.aload_n 0, 1) := by decide +kernel
theorem dX12_test_1 : decode cX12_test 1 = .ok (.ldc 180, 2) := by decide +kernel
theorem dX12_test_3 : decode cX12_test 3 = .ok (.invokevirtual 172, 3) := by decide +kernel
theorem dX12_test_6 : decode cX12_test 6 = .ok (.istore_n 2, 1) := by decide +kernel
theorem dX12_test_7 : decode cX12_test 7 = .ok (.iload_n 2, 1) := by decide +kernel
theorem dX12_test_8 : decode cX12_test 8 = .ok (.bipush 24, 2) := by decide +kernel
theorem dX12_test_10 : decode cX12_test 10 = .ok (.if_icmp .ge 9, 3) := by decide +kernel
theorem dX12_test_13 : decode cX12_test 13 = .ok (.aload_n 0, 1) := by decide +kernel
theorem dX12_test_14 : decode cX12_test 14 = .ok (.iconst 2, 1) := by decide +kernel
theorem dX12_test_15 : decode cX12_test 15 = .ok (.invokevirtual 169, 3) := by decide +kernel
theorem dX12_test_18 : decode cX12_test 18 = .ok (.ireturn, 1) := by decide +kernel
theorem dX12_test_19 : decode cX12_test 19 = .ok (.aload_n 0, 1) := by decide +kernel
theorem dX12_test_20 : decode cX12_test 20 = .ok (.getfield 7, 3) := by decide +kernel
theorem dX12_test_23 : decode cX12_test 23 = .ok (.iload_n 1, 1) := by decide +kernel
theorem dX12_test_24 : decode cX12_test 24 = .ok (.sipush 2000, 3) := by decide +kernel
theorem dX12_test_27 : decode cX12_test 27 = .ok (.iload_n 2, 1) := by decide +kernel
theorem dX12_test_28 : decode cX12_test 28 = .ok (.iadd, 1) := by decide +kernel
theorem dX12_test_29 : decode cX12_test 29 = .ok (.iastore, 1) := by decide +kernel
theorem dX12_test_30 : decode cX12_test 30 = .ok (.aload_n 0, 1) := by decide +kernel
theorem dX12_test_31 : decode cX12_test 31 = .ok (.invokevirtual 163, 3) := by decide +kernel
theorem dX12_test_34 : decode cX12_test 34 = .ok (.iload_n 2, 1) := by decide +kernel
theorem dX12_test_35 : decode cX12_test 35 = .ok (.bipush 26, 2) := by decide +kernel
theorem dX12_test_37 : decode cX12_test 37 = .ok (.if_icmp .ne 5, 3) := by decide +kernel
theorem dX12_test_40 : decode cX12_test 40 = .ok (.iconst 1, 1) := by decide +kernel
theorem dX12_test_41 : decode cX12_test 41 = .ok (.ireturn, 1) := by decide +kernel
theorem dX12_test_42 : decode cX12_test 42 = .ok (.iload_n 2, 1) := by decide +kernel
theorem dX12_test_43 : decode cX12_test 43 = .ok (.bipush 24, 2) := by decide +kernel
theorem dX12_test_45 : decode cX12_test 45 = .ok (.if_icmp .ne 18, 3) := by decide +kernel
theorem dX12_test_48 : decode cX12_test 48 = .ok (.aload_n 0, 1) := by decide +kernel
theorem dX12_test_49 : decode cX12_test 49 = .ok (.iconst 0, 1) := by decide +kernel
theorem dX12_test_50 : decode cX12_test 50 = .ok (.aload_n 0, 1) := by decide +kernel
theorem dX12_test_51 : decode cX12_test 51 = .ok (.getfield 7, 3) := by decide +kernel
theorem dX12_test_54 : decode cX12_test 54 = .ok (.iconst 0, 1) := by decide +kernel
theorem dX12_test_55 : decode cX12_test 55 = .ok (.iaload, 1) := by decide +kernel
theorem dX12_test_56 : decode cX12_test 56 = .ok (.iload_n 1, 1) := by decide +kernel
theorem dX12_test_57 : decode cX12_test 57 = .ok (.iconst 1, 1) := by decide +kernel
theorem dX12_test_58 : decode cX12_test 58 = .ok (.iadd, 1) := by decide +kernel
theorem dX12_test_59 : decode cX12_test 59 = .ok (.invokevirtual 189, 3) := by decide +kernel
theorem dX12_test_62 : decode cX12_test 62 = .ok (.ireturn, 1) := by decide +kernel
theorem dX12_test_63 : decode cX12_test 63 = .ok (.aload_n 0, 1) := by decide +kernel
theorem dX12_test_64 : decode cX12_test 64 = .ok (.bipush 60, 2) := by decide +kernel
theorem dX12_test_66 : decode cX12_test 66 = .ok (.invokevirtual 166, 3) := by decide +kernel
theorem dX12_test_69 : decode cX12_test 69 = .ok (.ifCond .ne 27, 3) := by decide +kernel
theorem dX12_test_72 : decode cX12_test 72 = .ok (.aload_n 0, 1) := by decide +kernel
theorem dX12_test_73 : decode cX12_test 73 = .ok (.bipush 62, 2) := by decide +kernel
theorem dX12_test_75 : decode cX12_test 75 = .ok (.invokevirtual 166, 3) := by decide +kernel
theorem dX12_test_78 : decode cX12_test 78 = .ok (.ifCond .ne 18, 3) := by decide +kernel
theorem dX12_test_81 : decode cX12_test 81 = .ok (.aload_n 0, 1) := by decide +kernel
theorem dX12_test_82 : decode cX12_test 82 = .ok (.bipush 61, 2) := by decide +kernel
theorem dX12_test_84 : decode cX12_test 84 = .ok (.invokevirtual 166, 3) := by decide +kernel
theorem dX12_test_87 : decode cX12_test 87 = .ok (.ifCond .ne 9, 3) := by decide +kernel
theorem dX12_test_90 : decode cX12_test 90 = .ok (.aload_n 0, 1) := by decide +kernel
theorem dX12_test_91 : decode cX12_test 91 = .ok (.iconst 2, 1) := by decide +kernel
theorem dX12_test_92 : decode cX12_test 92 = .ok (.invokevirtual 169, 3) := by decide +kernel
theorem dX12_test_95 : decode cX12_test 95 = .ok (.ireturn, 1) := by decide +kernel
theorem dX12_test_96 : decode cX12_test 96 = .ok (.aload_n 0, 1) := by decide +kernel
theorem dX12_test_97 : decode cX12_test 97 = .ok (.getfield 7, 3) := by decide +kernel
theorem dX12_test_100 : decode cX12_test 100 = .ok (.iload_n 1, 1) := by decide +kernel
theorem dX12_test_101 : decode cX12_test 101 = .ok (.iconst 5, 1) := by decide +kernel
theorem dX12_test_102 : decode cX12_test 102 = .ok (.iadd, 1) := by decide +kernel
theorem dX12_test_103 : decode cX12_test 103 = .ok (.aload_n 0, 1) := by decide +kernel
theorem dX12_test_104 : decode cX12_test 104 = .ok (.getfield 129, 3) := by decide +kernel
theorem dX12_test_107 : decode cX12_test 107 = .ok (.iastore, 1) := by decide +kernel
theorem dX12_test_108 : decode cX12_test 108 = .ok (.aload_n 0, 1) := by decide +kernel
theorem dX12_test_109 : decode cX12_test 109 = .ok (.invokevirtual 163, 3) := by decide +kernel
theorem dX12_test_112 : decode cX12_test 112 = .ok (.aload_n 0, 1) := by decide +kernel
theorem dX12_test_113 : decode cX12_test 113 = .ok (.iload_n 1, 1) := by decide +kernel
theorem dX12_test_114 : decode cX12_test 114 = .ok (.iconst 2, 1) := by decide +kernel
theorem dX12_test_115 : decode cX12_test 115 = .ok (.iadd, 1) := by decide +kernel
theorem dX12_test_116 : decode cX12_test 116 = .ok (.iconst 0, 1) := by decide +kernel
theorem dX12_test_117 : decode cX12_test 117 = .ok (.bipush 99, 2) := by decide +kernel
theorem dX12_test_119 : decode cX12_test 119 = .ok (.invokevirtual 202, 3) := by decide +kernel
theorem dX12_test_122 : decode cX12_test 122 = .ok (.ireturn, 1) := by decide +kernel
noncomputable def fX12_test_j96 (rf : Nat → Nat → Nat) (a0 : Nat) (x1 : Int32) (μ0 : o_Mem) : Option (Int32 × o_Mem) :=
  o_ck (0 ≤ ((x1 + 5)).toInt ∧ ((x1 + 5)).toInt < 3756) <|
  o_seq (o_wI μ0 (rf a0 0) (((x1 + 5)).toNatClampNeg) (μ0.1 a0 15)) fun μ1 =>
  o_bd (fX12_ahead rf a0 μ1) fun _u μ2 =>
  o_bd (fX12_number rf a0 (x1 + 2) 0 99 μ2) fun r1 μ3 =>
  some (r1, μ3)
noncomputable def fX12_test (rf : Nat → Nat → Nat) (a0 : Nat) (x1 : Int32) (μ0 : o_Mem) : Option (Int32 × o_Mem) :=
  o_bd (fX12_inWords rf a0 μ0) fun r1 μ1 =>
  if 24 ≤ r1 then (
    o_ck (0 ≤ (x1).toInt ∧ (x1).toInt < 3756) <|
    o_seq (o_wI μ1 (rf a0 0) x1.toNatClampNeg (2000 + r1)) fun μ2 =>
    o_bd (fX12_ahead rf a0 μ2) fun _u μ3 =>
    if r1 = 26 then (
      some (1, μ3))
    else (
      if r1 = 24 then (
        o_bd (fX12_oldOne rf a0 0 (μ3.1 (rf a0 0) 0) (x1 + 1) μ3) fun r6 μ8 =>
        some (r6, μ8))
      else (
        o_bd (fX12_isSign rf a0 60 μ3) fun r2 μ4 =>
        if r2 = 0 then (
          o_bd (fX12_isSign rf a0 62 μ4) fun r3 μ5 =>
          if r3 = 0 then (
            o_bd (fX12_isSign rf a0 61 μ5) fun r4 μ6 =>
            if r4 = 0 then (
              o_bd (fX12_fails rf a0 2 μ6) fun r5 μ7 =>
              some (r5, μ7))
            else (
              fX12_test_j96 rf a0 x1 μ6))
          else (
            fX12_test_j96 rf a0 x1 μ5))
        else (
          fX12_test_j96 rf a0 x1 μ4))))
  else (
    o_bd (fX12_fails rf a0 2 μ1) fun r7 μ9 =>
    some (r7, μ9))
set_option maxRecDepth 20000 in
theorem dnX12_test_j96 {X : o_Cx} (hX : o_ok X) {d : Nat} {a0 : Nat} {x1 : Int32} {μ0 : o_Mem} {q : Int32 → o_Mem → Prop} (h0 : o_is X a0 (.inl 12)) (h : o_Post (fX12_test_j96 (o_rf X) a0 x1 μ0) q) : o_Ev X (d + 7) mX12_test 96 [some (.ref (o_ad X a0)), some (.int x1), none] [] μ0 (o_QZ q) := by
  unfold fX12_test_j96 at h
  refine s_aload_n (i := 0) dX12_test_96 rfl rfl ?_
  refine s_getR hX h0 flX12_7 rfl dX12_test_97 (fun (g1 : o_is X (o_rf X a0 0) (.inr (0, 3756))) => ?_)
  refine s_iload_n (i := 1) dX12_test_100 rfl rfl ?_
  refine s_iconst dX12_test_101 kI_5 ?_
  refine s_iadd dX12_test_102 ?_
  refine s_aload_n (i := 0) dX12_test_103 rfl rfl ?_
  refine s_getI h0 flX12_129 rfl dX12_test_104 ?_
  have hc := o_ck_c h
  have h := o_ck_k h
  refine s_iastK hX g1 hc rfl dX12_test_107 (o_gen h (fun μ1 h => ?_))
  refine s_aload_n (i := 0) dX12_test_108 rfl rfl ?_
  refine s_callVu (C := mX12_ahead) (As := []) (rest := []) (L0 := [some (.ref (o_ad X a0)), none]) hX h0 clX12_163 dX12_test_109 rfl rfl (Nat.le_of_ble_eq_true rfl) (Nat.le_of_ble_eq_true rfl) (dnX12_ahead hX h0 (o_bdp h)) (fun _u μ2 h => ?_)
  refine s_aload_n (i := 0) dX12_test_112 rfl rfl ?_
  refine s_iload_n (i := 1) dX12_test_113 rfl rfl ?_
  refine s_iconst dX12_test_114 kI_2 ?_
  refine s_iadd dX12_test_115 ?_
  refine s_iconst dX12_test_116 kI_0 ?_
  refine s_bipush dX12_test_117 kB_99 ?_
  refine s_callVz (C := mX12_number) (As := [.int (x1 + 2), .int 0, .int 99]) (rest := []) (L0 := [some (.ref (o_ad X a0)), some (.int (x1 + 2)), some (.int 0), some (.int 99)]) hX h0 clX12_202 dX12_test_119 rfl rfl (Nat.le_of_ble_eq_true rfl) (Nat.le_of_ble_eq_true rfl) (dnX12_number hX h0 (o_bdp h)) (fun r1 μ3 zr1 h => ?_)
  exact s_zreturn rfl zr1 dX12_test_122 ⟨_, rfl, zr1, o_ret h⟩
set_option maxRecDepth 20000 in
theorem dnX12_test {X : o_Cx} (hX : o_ok X) {d : Nat} {a0 : Nat} {x1 : Int32} {μ0 : o_Mem} {q : Int32 → o_Mem → Prop} (h0 : o_is X a0 (.inl 12)) (h : o_Post (fX12_test (o_rf X) a0 x1 μ0) q) : o_Ev X (d + 7) mX12_test 0 [some (.ref (o_ad X a0)), some (.int x1), none] [] μ0 (o_QZ q) := by
  unfold fX12_test at h
  refine s_aload_n (i := 0) dX12_test_0 rfl rfl ?_
  refine s_ldcS1 rfl dX12_test_1 ?_
  refine s_callVi (C := mX12_inWords) (As := [.ref (o_aK X 1)]) (rest := []) (L0 := [some (.ref (o_ad X a0)), some (.ref (o_aK X 1)), none, none, none, none, none]) hX h0 clX12_172 dX12_test_3 rfl rfl (Nat.le_of_ble_eq_true rfl) (Nat.le_of_ble_eq_true rfl) (dnX12_inWords hX h0 (o_bdp h)) (fun r1 μ1 h => ?_)
  refine s_istore_n (i := 2) dX12_test_6 rfl (Nat.le_of_ble_eq_true rfl) rfl ?_
  refine s_iload_n (i := 2) dX12_test_7 rfl rfl ?_
  refine s_bipush dX12_test_8 kB_24 ?_
  refine s_icmp_ge (tgt := 19) dX12_test_10 rfl (fun c1 => ?_) (fun c1 => ?_)
  · have h := o_if_t c1 h
    refine s_aload_n (i := 0) dX12_test_19 rfl rfl ?_
    refine s_getR hX h0 flX12_7 rfl dX12_test_20 (fun (g1 : o_is X (o_rf X a0 0) (.inr (0, 3756))) => ?_)
    refine s_iload_n (i := 1) dX12_test_23 rfl rfl ?_
    refine s_sipush dX12_test_24 kS_2000 ?_
    refine s_iload_n (i := 2) dX12_test_27 rfl rfl ?_
    refine s_iadd dX12_test_28 ?_
    have hc := o_ck_c h
    have h := o_ck_k h
    refine s_iastK hX g1 hc rfl dX12_test_29 (o_gen h (fun μ2 h => ?_))
    refine s_aload_n (i := 0) dX12_test_30 rfl rfl ?_
    refine s_callVu (C := mX12_ahead) (As := []) (rest := []) (L0 := [some (.ref (o_ad X a0)), none]) hX h0 clX12_163 dX12_test_31 rfl rfl (Nat.le_of_ble_eq_true rfl) (Nat.le_of_ble_eq_true rfl) (dnX12_ahead hX h0 (o_bdp h)) (fun _u μ3 h => ?_)
    refine s_iload_n (i := 2) dX12_test_34 rfl rfl ?_
    refine s_bipush dX12_test_35 kB_26 ?_
    refine s_icmp_ne (tgt := 42) dX12_test_37 rfl (fun c1 => ?_) (fun c1 => ?_)
    · have h := o_if_f c1 h
      refine s_iload_n (i := 2) dX12_test_42 rfl rfl ?_
      refine s_bipush dX12_test_43 kB_24 ?_
      refine s_icmp_ne (tgt := 63) dX12_test_45 rfl (fun c1 => ?_) (fun c1 => ?_)
      · have h := o_if_f c1 h
        refine s_aload_n (i := 0) dX12_test_63 rfl rfl ?_
        refine s_bipush dX12_test_64 kB_60 ?_
        refine s_callVz (C := mX12_isSign) (As := [.int 60]) (rest := []) (L0 := [some (.ref (o_ad X a0)), some (.int 60)]) hX h0 clX12_166 dX12_test_66 rfl rfl (Nat.le_of_ble_eq_true rfl) (Nat.le_of_ble_eq_true rfl) (dnX12_isSign hX h0 (o_bdp h)) (fun r2 μ4 zr2 h => ?_)
        refine s_if_ne (tgt := 96) dX12_test_69 rfl (fun c1 => ?_) (fun c1 => ?_)
        · have h := o_if_f c1 h
          refine s_mask [true, true, false] (L' := [some (.ref (o_ad X a0)), some (.int x1), none]) rfl ?_
          exact dnX12_test_j96 hX h0 h
        · have h := o_if_t c1 h
          refine s_aload_n (i := 0) dX12_test_72 rfl rfl ?_
          refine s_bipush dX12_test_73 kB_62 ?_
          refine s_callVz (C := mX12_isSign) (As := [.int 62]) (rest := []) (L0 := [some (.ref (o_ad X a0)), some (.int 62)]) hX h0 clX12_166 dX12_test_75 rfl rfl (Nat.le_of_ble_eq_true rfl) (Nat.le_of_ble_eq_true rfl) (dnX12_isSign hX h0 (o_bdp h)) (fun r3 μ5 zr3 h => ?_)
          refine s_if_ne (tgt := 96) dX12_test_78 rfl (fun c1 => ?_) (fun c1 => ?_)
          · have h := o_if_f c1 h
            refine s_mask [true, true, false] (L' := [some (.ref (o_ad X a0)), some (.int x1), none]) rfl ?_
            exact dnX12_test_j96 hX h0 h
          · have h := o_if_t c1 h
            refine s_aload_n (i := 0) dX12_test_81 rfl rfl ?_
            refine s_bipush dX12_test_82 kB_61 ?_
            refine s_callVz (C := mX12_isSign) (As := [.int 61]) (rest := []) (L0 := [some (.ref (o_ad X a0)), some (.int 61)]) hX h0 clX12_166 dX12_test_84 rfl rfl (Nat.le_of_ble_eq_true rfl) (Nat.le_of_ble_eq_true rfl) (dnX12_isSign hX h0 (o_bdp h)) (fun r4 μ6 zr4 h => ?_)
            refine s_if_ne (tgt := 96) dX12_test_87 rfl (fun c1 => ?_) (fun c1 => ?_)
            · have h := o_if_f c1 h
              refine s_mask [true, true, false] (L' := [some (.ref (o_ad X a0)), some (.int x1), none]) rfl ?_
              exact dnX12_test_j96 hX h0 h
            · have h := o_if_t c1 h
              refine s_aload_n (i := 0) dX12_test_90 rfl rfl ?_
              refine s_iconst dX12_test_91 kI_2 ?_
              refine s_callVz (C := mX12_fails) (As := [.int 2]) (rest := []) (L0 := [some (.ref (o_ad X a0)), some (.int 2)]) hX h0 clX12_169 dX12_test_92 rfl rfl (Nat.le_of_ble_eq_true rfl) (Nat.le_of_ble_eq_true rfl) (dnX12_fails hX h0 (o_bdp h)) (fun r5 μ7 zr5 h => ?_)
              exact s_zreturn rfl zr5 dX12_test_95 ⟨_, rfl, zr5, o_ret h⟩
      · have h := o_if_t c1 h
        refine s_aload_n (i := 0) dX12_test_48 rfl rfl ?_
        refine s_iconst dX12_test_49 kI_0 ?_
        refine s_aload_n (i := 0) dX12_test_50 rfl rfl ?_
        refine s_getR hX h0 flX12_7 rfl dX12_test_51 (fun (g2 : o_is X (o_rf X a0 0) (.inr (0, 3756))) => ?_)
        refine s_iconst dX12_test_54 kI_0 ?_
        refine s_ialdK g2 ⟨by decide, by decide⟩ kN_0 dX12_test_55 ?_
        refine s_iload_n (i := 1) dX12_test_56 rfl rfl ?_
        refine s_iconst dX12_test_57 kI_1 ?_
        refine s_iadd dX12_test_58 ?_
        refine s_callVz (C := mX12_oldOne) (As := [.int 0, .int (μ3.1 (o_rf X a0 0) 0), .int (x1 + 1)]) (rest := []) (L0 := [some (.ref (o_ad X a0)), some (.int 0), some (.int (μ3.1 (o_rf X a0 0) 0)), some (.int (x1 + 1))]) hX h0 clX12_189 dX12_test_59 rfl rfl (Nat.le_of_ble_eq_true rfl) (Nat.le_of_ble_eq_true rfl) (dnX12_oldOne hX h0 (o_bdp h)) (fun r6 μ8 zr6 h => ?_)
        exact s_zreturn rfl zr6 dX12_test_62 ⟨_, rfl, zr6, o_ret h⟩
    · have h := o_if_t c1 h
      refine s_iconst dX12_test_40 kI_1 ?_
      exact s_zreturn rfl (Or.inr rfl) dX12_test_41 ⟨_, rfl, (Or.inr rfl), o_ret h⟩
  · have h := o_if_f c1 h
    refine s_aload_n (i := 0) dX12_test_13 rfl rfl ?_
    refine s_iconst dX12_test_14 kI_2 ?_
    refine s_callVz (C := mX12_fails) (As := [.int 2]) (rest := []) (L0 := [some (.ref (o_ad X a0)), some (.int 2)]) hX h0 clX12_169 dX12_test_15 rfl rfl (Nat.le_of_ble_eq_true rfl) (Nat.le_of_ble_eq_true rfl) (dnX12_fails hX h0 (o_bdp h)) (fun r7 μ9 zr7 h => ?_)
    exact s_zreturn rfl zr7 dX12_test_18 ⟨_, rfl, zr7, o_ret h⟩
theorem dX12_weekOrder_0 : decode cX12_weekOrder 0 = .ok (.iload_n 1, 1) := by decide +kernel
theorem dX12_weekOrder_1 : decode cX12_weekOrder 1 = .ok (.tableswitch 150 15 21 #[43, 65, 150, 150, 150, 144, 54], 43) := by decide +kernel
theorem dX12_weekOrder_44 : decode cX12_weekOrder 44 = .ok (.aload_n 0, 1) := by decide +kernel
theorem dX12_weekOrder_45 : decode cX12_weekOrder 45 = .ok (.iload_n 2, 1) := by decide +kernel
theorem dX12_weekOrder_46 : decode cX12_weekOrder 46 = .ok (.iconst 1, 1) := by decide +kernel
theorem dX12_weekOrder_47 : decode cX12_weekOrder 47 = .ok (.iadd, 1) := by decide +kernel
theorem dX12_weekOrder_48 : decode cX12_weekOrder 48 = .ok (.iconst 1, 1) := by decide +kernel
theorem dX12_weekOrder_49 : decode cX12_weekOrder 49 = .ok (.bipush 20, 2) := by decide +kernel
theorem dX12_weekOrder_51 : decode cX12_weekOrder 51 = .ok (.invokevirtual 202, 3) := by decide +kernel
theorem dX12_weekOrder_54 : decode cX12_weekOrder 54 = .ok (.ireturn, 1) := by decide +kernel
theorem dX12_weekOrder_55 : decode cX12_weekOrder 55 = .ok (.aload_n 0, 1) := by decide +kernel
theorem dX12_weekOrder_56 : decode cX12_weekOrder 56 = .ok (.iload_n 2, 1) := by decide +kernel
theorem dX12_weekOrder_57 : decode cX12_weekOrder 57 = .ok (.iconst 1, 1) := by decide +kernel
theorem dX12_weekOrder_58 : decode cX12_weekOrder 58 = .ok (.iadd, 1) := by decide +kernel
theorem dX12_weekOrder_59 : decode cX12_weekOrder 59 = .ok (.iconst 1, 1) := by decide +kernel
theorem dX12_weekOrder_60 : decode cX12_weekOrder 60 = .ok (.bipush 99, 2) := by decide +kernel
theorem dX12_weekOrder_62 : decode cX12_weekOrder 62 = .ok (.invokevirtual 202, 3) := by decide +kernel
theorem dX12_weekOrder_65 : decode cX12_weekOrder 65 = .ok (.ireturn, 1) := by decide +kernel
theorem dX12_weekOrder_66 : decode cX12_weekOrder 66 = .ok (.aload_n 0, 1) := by decide +kernel
theorem dX12_weekOrder_67 : decode cX12_weekOrder 67 = .ok (.iload_n 2, 1) := by decide +kernel
theorem dX12_weekOrder_68 : decode cX12_weekOrder 68 = .ok (.iconst 1, 1) := by decide +kernel
theorem dX12_weekOrder_69 : decode cX12_weekOrder 69 = .ok (.iadd, 1) := by decide +kernel
theorem dX12_weekOrder_70 : decode cX12_weekOrder 70 = .ok (.invokevirtual 251, 3) := by decide +kernel
theorem dX12_weekOrder_73 : decode cX12_weekOrder 73 = .ok (.ifCond .ne 5, 3) := by decide +kernel
theorem dX12_weekOrder_76 : decode cX12_weekOrder 76 = .ok (.iconst 0, 1) := by decide +kernel
theorem dX12_weekOrder_77 : decode cX12_weekOrder 77 = .ok (.ireturn, 1) := by decide +kernel
theorem dX12_weekOrder_78 : decode cX12_weekOrder 78 = .ok (.aload_n 0, 1) := by decide +kernel
theorem dX12_weekOrder_79 : decode cX12_weekOrder 79 = .ok (.ldc 180, 2) := by decide +kernel
theorem dX12_weekOrder_81 : decode cX12_weekOrder 81 = .ok (.invokevirtual 182, 3) := by decide +kernel
theorem dX12_weekOrder_84 : decode cX12_weekOrder 84 = .ok (.ifCond .eq 32, 3) := by decide +kernel
theorem dX12_weekOrder_87 : decode cX12_weekOrder 87 = .ok (.aload_n 0, 1) := by decide +kernel
theorem dX12_weekOrder_88 : decode cX12_weekOrder 88 = .ok (.bipush 10, 2) := by decide +kernel
theorem dX12_weekOrder_90 : decode cX12_weekOrder 90 = .ok (.aload_n 0, 1) := by decide +kernel
theorem dX12_weekOrder_91 : decode cX12_weekOrder 91 = .ok (.getfield 7, 3) := by decide +kernel
theorem dX12_weekOrder_94 : decode cX12_weekOrder 94 = .ok (.iconst 2, 1) := by decide +kernel
theorem dX12_weekOrder_95 : decode cX12_weekOrder 95 = .ok (.iaload, 1) := by decide +kernel
theorem dX12_weekOrder_96 : decode cX12_weekOrder 96 = .ok (.invokevirtual 186, 3) := by decide +kernel
theorem dX12_weekOrder_99 : decode cX12_weekOrder 99 = .ok (.aload_n 0, 1) := by decide +kernel
theorem dX12_weekOrder_100 : decode cX12_weekOrder 100 = .ok (.getfield 7, 3) := by decide +kernel
theorem dX12_weekOrder_103 : decode cX12_weekOrder 103 = .ok (.iload_n 2, 1) := by decide +kernel
theorem dX12_weekOrder_104 : decode cX12_weekOrder 104 = .ok (.iconst 1, 1) := by decide +kernel
theorem dX12_weekOrder_105 : decode cX12_weekOrder 105 = .ok (.iadd, 1) := by decide +kernel
theorem dX12_weekOrder_106 : decode cX12_weekOrder 106 = .ok (.iaload, 1) := by decide +kernel
theorem dX12_weekOrder_107 : decode cX12_weekOrder 107 = .ok (.if_icmp .ne 9, 3) := by decide +kernel
theorem dX12_weekOrder_110 : decode cX12_weekOrder 110 = .ok (.aload_n 0, 1) := by decide +kernel
theorem dX12_weekOrder_111 : decode cX12_weekOrder 111 = .ok (.iconst 5, 1) := by decide +kernel
theorem dX12_weekOrder_112 : decode cX12_weekOrder 112 = .ok (.invokevirtual 169, 3) := by decide +kernel
theorem dX12_weekOrder_115 : decode cX12_weekOrder 115 = .ok (.ireturn, 1) := by decide +kernel
theorem dX12_weekOrder_116 : decode cX12_weekOrder 116 = .ok (.aload_n 0, 1) := by decide +kernel
theorem dX12_weekOrder_117 : decode cX12_weekOrder 117 = .ok (.iload_n 2, 1) := by decide +kernel
theorem dX12_weekOrder_118 : decode cX12_weekOrder 118 = .ok (.iconst 2, 1) := by decide +kernel
theorem dX12_weekOrder_119 : decode cX12_weekOrder 119 = .ok (.iadd, 1) := by decide +kernel
theorem dX12_weekOrder_120 : decode cX12_weekOrder 120 = .ok (.invokevirtual 251, 3) := by decide +kernel
theorem dX12_weekOrder_123 : decode cX12_weekOrder 123 = .ok (.ifCond .eq 20, 3) := by decide +kernel
theorem dX12_weekOrder_126 : decode cX12_weekOrder 126 = .ok (.aload_n 0, 1) := by decide +kernel
theorem dX12_weekOrder_127 : decode cX12_weekOrder 127 = .ok (.iload_n 2, 1) := by decide +kernel
theorem dX12_weekOrder_128 : decode cX12_weekOrder 128 = .ok (.iconst 3, 1) := by decide +kernel
theorem dX12_weekOrder_129 : decode cX12_weekOrder 129 = .ok (.iadd, 1) := by decide +kernel
theorem dX12_weekOrder_130 : decode cX12_weekOrder 130 = .ok (.iconst 1, 1) := by decide +kernel
theorem dX12_weekOrder_131 : decode cX12_weekOrder 131 = .ok (.bipush 99, 2) := by decide +kernel
theorem dX12_weekOrder_133 : decode cX12_weekOrder 133 = .ok (.invokevirtual 202, 3) := by decide +kernel
theorem dX12_weekOrder_136 : decode cX12_weekOrder 136 = .ok (.ifCond .eq 7, 3) := by decide +kernel
theorem dX12_weekOrder_139 : decode cX12_weekOrder 139 = .ok (.iconst 1, 1) := by decide +kernel
theorem dX12_weekOrder_140 : decode cX12_weekOrder 140 = .ok (.goto 4, 3) := by decide +kernel
theorem dX12_weekOrder_143 : decode cX12_weekOrder 143 = .ok (.iconst 0, 1) := by decide +kernel
theorem dX12_weekOrder_144 : decode cX12_weekOrder 144 = .ok (.ireturn, 1) := by decide +kernel
theorem dX12_weekOrder_145 : decode cX12_weekOrder 145 = .ok (.aload_n 0, 1) := by decide +kernel
theorem dX12_weekOrder_146 : decode cX12_weekOrder 146 = .ok (.iload_n 2, 1) := by decide +kernel
theorem dX12_weekOrder_147 : decode cX12_weekOrder 147 = .ok (.invokevirtual 254, 3) := by decide +kernel
theorem dX12_weekOrder_150 : decode cX12_weekOrder 150 = .ok (.ireturn, 1) := by decide +kernel
theorem dX12_weekOrder_151 : decode cX12_weekOrder 151 = .ok (.iconst 1, 1) := by decide +kernel
theorem dX12_weekOrder_152 : decode cX12_weekOrder 152 = .ok (.ireturn, 1) := by decide +kernel
noncomputable def fX12_weekOrder_j116 (rf : Nat → Nat → Nat) (a0 : Nat) (x2 : Int32) (μ0 : o_Mem) : Option (Int32 × o_Mem) :=
  o_bd (fX12_oldPersonTo rf a0 (x2 + 2) μ0) fun r1 μ1 =>
  if r1 = 0 then (
    some (0, μ1))
  else (
    o_bd (fX12_number rf a0 (x2 + 3) 1 99 μ1) fun r2 μ2 =>
    if r2 = 0 then (
      some (0, μ2))
    else (
      some (1, μ2)))
noncomputable def fX12_weekOrder (rf : Nat → Nat → Nat) (a0 : Nat) (x1 : Int32) (x2 : Int32) (μ0 : o_Mem) : Option (Int32 × o_Mem) :=
  if x1 = 15 then (
    o_bd (fX12_number rf a0 (x2 + 1) 1 20 μ0) fun r1 μ1 =>
    some (r1, μ1))
  else
  if x1 = 16 then (
    o_bd (fX12_oldPersonTo rf a0 (x2 + 1) μ0) fun r2 μ2 =>
    if r2 = 0 then (
      some (0, μ2))
    else (
      o_bd (fX12_isName rf a0 μ2) fun r3 μ3 =>
      if r3 = 0 then (
        fX12_weekOrder_j116 rf a0 x2 μ3)
      else (
        o_bd (fX12_findHere rf a0 10 (μ3.1 (rf a0 0) 2) μ3) fun r4 μ4 =>
        o_ck (0 ≤ ((x2 + 1)).toInt ∧ ((x2 + 1)).toInt < 3756) <|
        if r4 = (μ4.1 (rf a0 0) ((x2 + 1)).toNatClampNeg) then (
          o_bd (fX12_fails rf a0 5 μ4) fun r5 μ5 =>
          some (r5, μ5))
        else (
          fX12_weekOrder_j116 rf a0 x2 μ4))))
  else
  if x1 = 20 then (
    o_bd (fX12_test rf a0 x2 μ0) fun r6 μ6 =>
    some (r6, μ6))
  else
  if x1 = 21 then (
    o_bd (fX12_number rf a0 (x2 + 1) 1 99 μ0) fun r7 μ7 =>
    some (r7, μ7))
  else
    some (1, μ0)
set_option maxRecDepth 20000 in
theorem dnX12_weekOrder_j116 {X : o_Cx} (hX : o_ok X) {d : Nat} {a0 : Nat} {x2 : Int32} {μ0 : o_Mem} {q : Int32 → o_Mem → Prop} (h0 : o_is X a0 (.inl 12)) (h : o_Post (fX12_weekOrder_j116 (o_rf X) a0 x2 μ0) q) : o_Ev X (d + 8) mX12_weekOrder 116 [some (.ref (o_ad X a0)), none, some (.int x2)] [] μ0 (o_QZ q) := by
  unfold fX12_weekOrder_j116 at h
  refine s_aload_n (i := 0) dX12_weekOrder_116 rfl rfl ?_
  refine s_iload_n (i := 2) dX12_weekOrder_117 rfl rfl ?_
  refine s_iconst dX12_weekOrder_118 kI_2 ?_
  refine s_iadd dX12_weekOrder_119 ?_
  refine s_callVz (C := mX12_oldPersonTo) (As := [.int (x2 + 2)]) (rest := []) (L0 := [some (.ref (o_ad X a0)), some (.int (x2 + 2))]) hX h0 clX12_251 dX12_weekOrder_120 rfl rfl (Nat.le_of_ble_eq_true rfl) (Nat.le_of_ble_eq_true rfl) (dnX12_oldPersonTo hX h0 (o_bdp h)) (fun r1 μ1 zr1 h => ?_)
  refine s_if_eq (tgt := 143) dX12_weekOrder_123 rfl (fun c1 => ?_) (fun c1 => ?_)
  · have h := o_if_t c1 h
    refine s_iconst dX12_weekOrder_143 kI_0 ?_
    exact s_zreturn rfl (Or.inl rfl) dX12_weekOrder_144 ⟨_, rfl, (Or.inl rfl), o_ret h⟩
  · have h := o_if_f c1 h
    refine s_aload_n (i := 0) dX12_weekOrder_126 rfl rfl ?_
    refine s_iload_n (i := 2) dX12_weekOrder_127 rfl rfl ?_
    refine s_iconst dX12_weekOrder_128 kI_3 ?_
    refine s_iadd dX12_weekOrder_129 ?_
    refine s_iconst dX12_weekOrder_130 kI_1 ?_
    refine s_bipush dX12_weekOrder_131 kB_99 ?_
    refine s_callVz (C := mX12_number) (As := [.int (x2 + 3), .int 1, .int 99]) (rest := []) (L0 := [some (.ref (o_ad X a0)), some (.int (x2 + 3)), some (.int 1), some (.int 99)]) hX h0 clX12_202 dX12_weekOrder_133 rfl rfl (Nat.le_of_ble_eq_true rfl) (Nat.le_of_ble_eq_true rfl) (dnX12_number hX h0 (o_bdp h)) (fun r2 μ2 zr2 h => ?_)
    refine s_if_eq (tgt := 143) dX12_weekOrder_136 rfl (fun c1 => ?_) (fun c1 => ?_)
    · have h := o_if_t c1 h
      refine s_iconst dX12_weekOrder_143 kI_0 ?_
      exact s_zreturn rfl (Or.inl rfl) dX12_weekOrder_144 ⟨_, rfl, (Or.inl rfl), o_ret h⟩
    · have h := o_if_f c1 h
      refine s_iconst dX12_weekOrder_139 kI_1 ?_
      refine s_goto (tgt := 144) dX12_weekOrder_140 rfl ?_
      exact s_zreturn rfl (Or.inr rfl) dX12_weekOrder_144 ⟨_, rfl, (Or.inr rfl), o_ret h⟩
set_option maxRecDepth 20000 in
theorem dnX12_weekOrder {X : o_Cx} (hX : o_ok X) {d : Nat} {a0 : Nat} {x1 : Int32} {x2 : Int32} {μ0 : o_Mem} {q : Int32 → o_Mem → Prop} (h0 : o_is X a0 (.inl 12)) (h : o_Post (fX12_weekOrder (o_rf X) a0 x1 x2 μ0) q) : o_Ev X (d + 8) mX12_weekOrder 0 [some (.ref (o_ad X a0)), some (.int x1), some (.int x2)] [] μ0 (o_QZ q) := by
  unfold fX12_weekOrder at h
  refine s_iload_n (i := 1) dX12_weekOrder_0 rfl rfl ?_
  by_cases e15 : x1 = 15
  · have h := o_if_t e15 h
    refine s_table (off := 43) (tgt := 44) dX12_weekOrder_1 rfl (by rw [e15]; decide) rfl ?_
    refine s_aload_n (i := 0) dX12_weekOrder_44 rfl rfl ?_
    refine s_iload_n (i := 2) dX12_weekOrder_45 rfl rfl ?_
    refine s_iconst dX12_weekOrder_46 kI_1 ?_
    refine s_iadd dX12_weekOrder_47 ?_
    refine s_iconst dX12_weekOrder_48 kI_1 ?_
    refine s_bipush dX12_weekOrder_49 kB_20 ?_
    refine s_callVz (C := mX12_number) (As := [.int (x2 + 1), .int 1, .int 20]) (rest := []) (L0 := [some (.ref (o_ad X a0)), some (.int (x2 + 1)), some (.int 1), some (.int 20)]) hX h0 clX12_202 dX12_weekOrder_51 rfl rfl (Nat.le_of_ble_eq_true rfl) (Nat.le_of_ble_eq_true rfl) (dnX12_number hX h0 (o_bdp h)) (fun r1 μ1 zr1 h => ?_)
    exact s_zreturn rfl zr1 dX12_weekOrder_54 ⟨_, rfl, zr1, o_ret h⟩
  have h := o_if_f e15 h
  by_cases e16 : x1 = 16
  · have h := o_if_t e16 h
    refine s_table (off := 65) (tgt := 66) dX12_weekOrder_1 rfl (by rw [e16]; decide) rfl ?_
    refine s_aload_n (i := 0) dX12_weekOrder_66 rfl rfl ?_
    refine s_iload_n (i := 2) dX12_weekOrder_67 rfl rfl ?_
    refine s_iconst dX12_weekOrder_68 kI_1 ?_
    refine s_iadd dX12_weekOrder_69 ?_
    refine s_callVz (C := mX12_oldPersonTo) (As := [.int (x2 + 1)]) (rest := []) (L0 := [some (.ref (o_ad X a0)), some (.int (x2 + 1))]) hX h0 clX12_251 dX12_weekOrder_70 rfl rfl (Nat.le_of_ble_eq_true rfl) (Nat.le_of_ble_eq_true rfl) (dnX12_oldPersonTo hX h0 (o_bdp h)) (fun r2 μ2 zr2 h => ?_)
    refine s_if_ne (tgt := 78) dX12_weekOrder_73 rfl (fun c1 => ?_) (fun c1 => ?_)
    · have h := o_if_f c1 h
      refine s_aload_n (i := 0) dX12_weekOrder_78 rfl rfl ?_
      refine s_ldcS1 rfl dX12_weekOrder_79 ?_
      refine s_callVz (C := mX12_isName) (As := [.ref (o_aK X 1)]) (rest := []) (L0 := [some (.ref (o_ad X a0)), some (.ref (o_aK X 1))]) hX h0 clX12_182 dX12_weekOrder_81 rfl rfl (Nat.le_of_ble_eq_true rfl) (Nat.le_of_ble_eq_true rfl) (dnX12_isName hX h0 (o_bdp h)) (fun r3 μ3 zr3 h => ?_)
      refine s_if_eq (tgt := 116) dX12_weekOrder_84 rfl (fun c1 => ?_) (fun c1 => ?_)
      · have h := o_if_t c1 h
        refine s_mask [true, false, true] (L' := [some (.ref (o_ad X a0)), none, some (.int x2)]) rfl ?_
        exact dnX12_weekOrder_j116 hX h0 h
      · have h := o_if_f c1 h
        refine s_aload_n (i := 0) dX12_weekOrder_87 rfl rfl ?_
        refine s_bipush dX12_weekOrder_88 kB_10 ?_
        refine s_aload_n (i := 0) dX12_weekOrder_90 rfl rfl ?_
        refine s_getR hX h0 flX12_7 rfl dX12_weekOrder_91 (fun (g1 : o_is X (o_rf X a0 0) (.inr (0, 3756))) => ?_)
        refine s_iconst dX12_weekOrder_94 kI_2 ?_
        refine s_ialdK g1 ⟨by decide, by decide⟩ kN_2 dX12_weekOrder_95 ?_
        refine s_callVi (C := mX12_findHere) (As := [.int 10, .int (μ3.1 (o_rf X a0 0) 2)]) (rest := []) (L0 := [some (.ref (o_ad X a0)), some (.int 10), some (.int (μ3.1 (o_rf X a0 0) 2)), none]) hX h0 clX12_186 dX12_weekOrder_96 rfl rfl (Nat.le_of_ble_eq_true rfl) (Nat.le_of_ble_eq_true rfl) (dnX12_findHere hX h0 (o_bdp h)) (fun r4 μ4 h => ?_)
        refine s_aload_n (i := 0) dX12_weekOrder_99 rfl rfl ?_
        refine s_getR hX h0 flX12_7 rfl dX12_weekOrder_100 (fun (g2 : o_is X (o_rf X a0 0) (.inr (0, 3756))) => ?_)
        refine s_iload_n (i := 2) dX12_weekOrder_103 rfl rfl ?_
        refine s_iconst dX12_weekOrder_104 kI_1 ?_
        refine s_iadd dX12_weekOrder_105 ?_
        have hc := o_ck_c h
        have h := o_ck_k h
        refine s_ialdK g2 hc rfl dX12_weekOrder_106 ?_
        refine s_icmp_ne (tgt := 116) dX12_weekOrder_107 rfl (fun c1 => ?_) (fun c1 => ?_)
        · have h := o_if_f c1 h
          refine s_mask [true, false, true] (L' := [some (.ref (o_ad X a0)), none, some (.int x2)]) rfl ?_
          exact dnX12_weekOrder_j116 hX h0 h
        · have h := o_if_t c1 h
          refine s_aload_n (i := 0) dX12_weekOrder_110 rfl rfl ?_
          refine s_iconst dX12_weekOrder_111 kI_5 ?_
          refine s_callVz (C := mX12_fails) (As := [.int 5]) (rest := []) (L0 := [some (.ref (o_ad X a0)), some (.int 5)]) hX h0 clX12_169 dX12_weekOrder_112 rfl rfl (Nat.le_of_ble_eq_true rfl) (Nat.le_of_ble_eq_true rfl) (dnX12_fails hX h0 (o_bdp h)) (fun r5 μ5 zr5 h => ?_)
          exact s_zreturn rfl zr5 dX12_weekOrder_115 ⟨_, rfl, zr5, o_ret h⟩
    · have h := o_if_t c1 h
      refine s_iconst dX12_weekOrder_76 kI_0 ?_
      exact s_zreturn rfl (Or.inl rfl) dX12_weekOrder_77 ⟨_, rfl, (Or.inl rfl), o_ret h⟩
  have h := o_if_f e16 h
  by_cases e20 : x1 = 20
  · have h := o_if_t e20 h
    refine s_table (off := 144) (tgt := 145) dX12_weekOrder_1 rfl (by rw [e20]; decide) rfl ?_
    refine s_aload_n (i := 0) dX12_weekOrder_145 rfl rfl ?_
    refine s_iload_n (i := 2) dX12_weekOrder_146 rfl rfl ?_
    refine s_callVz (C := mX12_test) (As := [.int x2]) (rest := []) (L0 := [some (.ref (o_ad X a0)), some (.int x2), none]) hX h0 clX12_254 dX12_weekOrder_147 rfl rfl (Nat.le_of_ble_eq_true rfl) (Nat.le_of_ble_eq_true rfl) (dnX12_test hX h0 (o_bdp h)) (fun r6 μ6 zr6 h => ?_)
    exact s_zreturn rfl zr6 dX12_weekOrder_150 ⟨_, rfl, zr6, o_ret h⟩
  have h := o_if_f e20 h
  by_cases e21 : x1 = 21
  · have h := o_if_t e21 h
    refine s_table (off := 54) (tgt := 55) dX12_weekOrder_1 rfl (by rw [e21]; decide) rfl ?_
    refine s_aload_n (i := 0) dX12_weekOrder_55 rfl rfl ?_
    refine s_iload_n (i := 2) dX12_weekOrder_56 rfl rfl ?_
    refine s_iconst dX12_weekOrder_57 kI_1 ?_
    refine s_iadd dX12_weekOrder_58 ?_
    refine s_iconst dX12_weekOrder_59 kI_1 ?_
    refine s_bipush dX12_weekOrder_60 kB_99 ?_
    refine s_callVz (C := mX12_number) (As := [.int (x2 + 1), .int 1, .int 99]) (rest := []) (L0 := [some (.ref (o_ad X a0)), some (.int (x2 + 1)), some (.int 1), some (.int 99)]) hX h0 clX12_202 dX12_weekOrder_62 rfl rfl (Nat.le_of_ble_eq_true rfl) (Nat.le_of_ble_eq_true rfl) (dnX12_number hX h0 (o_bdp h)) (fun r7 μ7 zr7 h => ?_)
    exact s_zreturn rfl zr7 dX12_weekOrder_65 ⟨_, rfl, zr7, o_ret h⟩
  have h := o_if_f e21 h
  have n15 := lv_neT (a := 15) e15 (by decide)
  have n16 := lv_neT (a := 16) e16 (by decide)
  have n20 := lv_neT (a := 20) e20 (by decide)
  have n21 := lv_neT (a := 21) e21 (by decide)
  have hz : (x1).toInt < 15 ∨ 21 < (x1).toInt ∨ (x1).toInt = 17 ∨ (x1).toInt = 18 ∨ (x1).toInt = 19 := by omega
  refine s_table (off := 150) (tgt := 151) dX12_weekOrder_1 rfl (by rcases hz with hz | hz | hz | hz | hz; exact o_tabD (Or.inl hz); exact o_tabD (Or.inr hz); all_goals (rw [hz]; decide)) rfl ?_
  refine s_iconst dX12_weekOrder_151 kI_1 ?_
  exact s_zreturn rfl (Or.inr rfl) dX12_weekOrder_152 ⟨_, rfl, (Or.inr rfl), o_ret h⟩
theorem dX12_weekStep_0 : decode cX12_weekStep 0 = .ok (.aload_n 0, 1) := by decide +kernel
theorem dX12_weekStep_1 : decode cX12_weekStep 1 = .ok (.ldc 180, 2) := by decide +kernel
theorem dX12_weekStep_3 : decode cX12_weekStep 3 = .ok (.invokevirtual 172, 3) := by decide +kernel
theorem dX12_weekStep_6 : decode cX12_weekStep 6 = .ok (.istore_n 1, 1) := by decide +kernel
theorem dX12_weekStep_7 : decode cX12_weekStep 7 = .ok (.aload_n 0, 1) := by decide +kernel
theorem dX12_weekStep_8 : decode cX12_weekStep 8 = .ok (.getfield 7, 3) := by decide +kernel
theorem dX12_weekStep_11 : decode cX12_weekStep 11 = .ok (.sipush 2516, 3) := by decide +kernel
theorem dX12_weekStep_14 : decode cX12_weekStep 14 = .ok (.iaload, 1) := by decide +kernel
theorem dX12_weekStep_15 : decode cX12_weekStep 15 = .ok (.istore_n 2, 1) := by decide +kernel
theorem dX12_weekStep_16 : decode cX12_weekStep 16 = .ok (.sipush 2763, 3) := by decide +kernel
theorem dX12_weekStep_19 : decode cX12_weekStep 19 = .ok (.bipush 6, 2) := by decide +kernel
theorem dX12_weekStep_21 : decode cX12_weekStep 21 = .ok (.iload_n 2, 1) := by decide +kernel
theorem dX12_weekStep_22 : decode cX12_weekStep 22 = .ok (.imul, 1) := by decide +kernel
theorem dX12_weekStep_23 : decode cX12_weekStep 23 = .ok (.iadd, 1) := by decide +kernel
theorem dX12_weekStep_24 : decode cX12_weekStep 24 = .ok (.istore_n 3, 1) := by decide +kernel
theorem dX12_weekStep_25 : decode cX12_weekStep 25 = .ok (.iload_n 1, 1) := by decide +kernel
theorem dX12_weekStep_26 : decode cX12_weekStep 26 = .ok (.bipush 20, 2) := by decide +kernel
theorem dX12_weekStep_28 : decode cX12_weekStep 28 = .ok (.if_icmp .eq 9, 3) := by decide +kernel
theorem dX12_weekStep_31 : decode cX12_weekStep 31 = .ok (.iload_n 1, 1) := by decide +kernel
theorem dX12_weekStep_32 : decode cX12_weekStep 32 = .ok (.bipush 21, 2) := by decide +kernel
theorem dX12_weekStep_34 : decode cX12_weekStep 34 = .ok (.if_icmp .ne 7, 3) := by decide +kernel
theorem dX12_weekStep_37 : decode cX12_weekStep 37 = .ok (.iconst 1, 1) := by decide +kernel
theorem dX12_weekStep_38 : decode cX12_weekStep 38 = .ok (.goto 4, 3) := by decide +kernel
theorem dX12_weekStep_41 : decode cX12_weekStep 41 = .ok (.iconst 0, 1) := by decide +kernel
theorem dX12_weekStep_42 : decode cX12_weekStep 42 = .ok (.istore 4, 2) := by decide +kernel
theorem dX12_weekStep_44 : decode cX12_weekStep 44 = .ok (.iload_n 1, 1) := by decide +kernel
theorem dX12_weekStep_45 : decode cX12_weekStep 45 = .ok (.bipush 15, 2) := by decide +kernel
theorem dX12_weekStep_47 : decode cX12_weekStep 47 = .ok (.if_icmp .lt 22, 3) := by decide +kernel
theorem dX12_weekStep_50 : decode cX12_weekStep 50 = .ok (.iload_n 1, 1) := by decide +kernel
theorem dX12_weekStep_51 : decode cX12_weekStep 51 = .ok (.bipush 23, 2) := by decide +kernel
theorem dX12_weekStep_53 : decode cX12_weekStep 53 = .ok (.if_icmp .gt 16, 3) := by decide +kernel
theorem dX12_weekStep_56 : decode cX12_weekStep 56 = .ok (.iload_n 1, 1) := by decide +kernel
theorem dX12_weekStep_57 : decode cX12_weekStep 57 = .ok (.bipush 22, 2) := by decide +kernel
theorem dX12_weekStep_59 : decode cX12_weekStep 59 = .ok (.if_icmp .ne 16, 3) := by decide +kernel
theorem dX12_weekStep_62 : decode cX12_weekStep 62 = .ok (.aload_n 0, 1) := by decide +kernel
theorem dX12_weekStep_63 : decode cX12_weekStep 63 = .ok (.getfield 257, 3) := by decide +kernel
theorem dX12_weekStep_66 : decode cX12_weekStep 66 = .ok (.ifCond .ne 9, 3) := by decide +kernel
theorem dX12_weekStep_69 : decode cX12_weekStep 69 = .ok (.aload_n 0, 1) := by decide +kernel
theorem dX12_weekStep_70 : decode cX12_weekStep 70 = .ok (.iconst 2, 1) := by decide +kernel
theorem dX12_weekStep_71 : decode cX12_weekStep 71 = .ok (.invokevirtual 169, 3) := by decide +kernel
theorem dX12_weekStep_74 : decode cX12_weekStep 74 = .ok (.ireturn, 1) := by decide +kernel
theorem dX12_weekStep_75 : decode cX12_weekStep 75 = .ok (.iload_n 1, 1) := by decide +kernel
theorem dX12_weekStep_76 : decode cX12_weekStep 76 = .ok (.bipush 22, 2) := by decide +kernel
theorem dX12_weekStep_78 : decode cX12_weekStep 78 = .ok (.if_icmp .eq 19, 3) := by decide +kernel
theorem dX12_weekStep_81 : decode cX12_weekStep 81 = .ok (.aload_n 0, 1) := by decide +kernel
theorem dX12_weekStep_82 : decode cX12_weekStep 82 = .ok (.getfield 260, 3) := by decide +kernel
theorem dX12_weekStep_85 : decode cX12_weekStep 85 = .ok (.bipush 30, 2) := by decide +kernel
theorem dX12_weekStep_87 : decode cX12_weekStep 87 = .ok (.if_icmp .ne 10, 3) := by decide +kernel
theorem dX12_weekStep_90 : decode cX12_weekStep 90 = .ok (.aload_n 0, 1) := by decide +kernel
theorem dX12_weekStep_91 : decode cX12_weekStep 91 = .ok (.bipush 6, 2) := by decide +kernel
theorem dX12_weekStep_93 : decode cX12_weekStep 93 = .ok (.invokevirtual 169, 3) := by decide +kernel
theorem dX12_weekStep_96 : decode cX12_weekStep 96 = .ok (.ireturn, 1) := by decide +kernel
theorem dX12_weekStep_97 : decode cX12_weekStep 97 = .ok (.iload 4, 2) := by decide +kernel
theorem dX12_weekStep_99 : decode cX12_weekStep 99 = .ok (.ifCond .eq 18, 3) := by decide +kernel
theorem dX12_weekStep_102 : decode cX12_weekStep 102 = .ok (.aload_n 0, 1) := by decide +kernel
theorem dX12_weekStep_103 : decode cX12_weekStep 103 = .ok (.getfield 257, 3) := by decide +kernel
theorem dX12_weekStep_106 : decode cX12_weekStep 106 = .ok (.iconst 3, 1) := by decide +kernel
theorem dX12_weekStep_107 : decode cX12_weekStep 107 = .ok (.if_icmp .ne 10, 3) := by decide +kernel
theorem dX12_weekStep_110 : decode cX12_weekStep 110 = .ok (.aload_n 0, 1) := by decide +kernel
theorem dX12_weekStep_111 : decode cX12_weekStep 111 = .ok (.bipush 7, 2) := by decide +kernel
theorem dX12_weekStep_113 : decode cX12_weekStep 113 = .ok (.invokevirtual 169, 3) := by decide +kernel
theorem dX12_weekStep_116 : decode cX12_weekStep 116 = .ok (.ireturn, 1) := by decide +kernel
theorem dX12_weekStep_117 : decode cX12_weekStep 117 = .ok (.aload_n 0, 1) := by decide +kernel
theorem dX12_weekStep_118 : decode cX12_weekStep 118 = .ok (.dup, 1) := by decide +kernel
theorem dX12_weekStep_119 : decode cX12_weekStep 119 = .ok (.getfield 260, 3) := by decide +kernel
theorem dX12_weekStep_122 : decode cX12_weekStep 122 = .ok (.iload_n 1, 1) := by decide +kernel
theorem dX12_weekStep_123 : decode cX12_weekStep 123 = .ok (.bipush 22, 2) := by decide +kernel
theorem dX12_weekStep_125 : decode cX12_weekStep 125 = .ok (.if_icmp .ne 7, 3) := by decide +kernel
theorem dX12_weekStep_128 : decode cX12_weekStep 128 = .ok (.iconst 0, 1) := by decide +kernel
theorem dX12_weekStep_129 : decode cX12_weekStep 129 = .ok (.goto 4, 3) := by decide +kernel
theorem dX12_weekStep_132 : decode cX12_weekStep 132 = .ok (.iconst 1, 1) := by decide +kernel
theorem dX12_weekStep_133 : decode cX12_weekStep 133 = .ok (.iadd, 1) := by decide +kernel
theorem dX12_weekStep_134 : decode cX12_weekStep 134 = .ok (.putfield 260, 3) := by decide +kernel
theorem dX12_weekStep_137 : decode cX12_weekStep 137 = .ok (.aload_n 0, 1) := by decide +kernel
theorem dX12_weekStep_138 : decode cX12_weekStep 138 = .ok (.getfield 7, 3) := by decide +kernel
theorem dX12_weekStep_141 : decode cX12_weekStep 141 = .ok (.iload_n 3, 1) := by decide +kernel
theorem dX12_weekStep_142 : decode cX12_weekStep 142 = .ok (.iload_n 1, 1) := by decide +kernel
theorem dX12_weekStep_143 : decode cX12_weekStep 143 = .ok (.iastore, 1) := by decide +kernel
theorem dX12_weekStep_144 : decode cX12_weekStep 144 = .ok (.iconst 1, 1) := by decide +kernel
theorem dX12_weekStep_145 : decode cX12_weekStep 145 = .ok (.istore 5, 2) := by decide +kernel
theorem dX12_weekStep_147 : decode cX12_weekStep 147 = .ok (.iload 5, 2) := by decide +kernel
theorem dX12_weekStep_149 : decode cX12_weekStep 149 = .ok (.bipush 6, 2) := by decide +kernel
theorem dX12_weekStep_151 : decode cX12_weekStep 151 = .ok (.if_icmp .ge 19, 3) := by decide +kernel
theorem dX12_weekStep_154 : decode cX12_weekStep 154 = .ok (.aload_n 0, 1) := by decide +kernel
theorem dX12_weekStep_155 : decode cX12_weekStep 155 = .ok (.getfield 7, 3) := by decide +kernel
theorem dX12_weekStep_158 : decode cX12_weekStep 158 = .ok (.iload_n 3, 1) := by decide +kernel
theorem dX12_weekStep_159 : decode cX12_weekStep 159 = .ok (.iload 5, 2) := by decide +kernel
theorem dX12_weekStep_161 : decode cX12_weekStep 161 = .ok (.iadd, 1) := by decide +kernel
theorem dX12_weekStep_162 : decode cX12_weekStep 162 = .ok (.iconst 0, 1) := by decide +kernel
theorem dX12_weekStep_163 : decode cX12_weekStep 163 = .ok (.iastore, 1) := by decide +kernel
theorem dX12_weekStep_164 : decode cX12_weekStep 164 = .ok (.iinc 5 1, 3) := by decide +kernel
theorem dX12_weekStep_167 : decode cX12_weekStep 167 = .ok (.goto (-20), 3) := by decide +kernel
theorem dX12_weekStep_170 : decode cX12_weekStep 170 = .ok (.aload_n 0, 1) := by decide +kernel
theorem dX12_weekStep_171 : decode cX12_weekStep 171 = .ok (.getfield 7, 3) := by decide +kernel
theorem dX12_weekStep_174 : decode cX12_weekStep 174 = .ok (.sipush 2516, 3) := by decide +kernel
theorem dX12_weekStep_177 : decode cX12_weekStep 177 = .ok (.dup2, 1) := by decide +kernel
theorem dX12_weekStep_178 : decode cX12_weekStep 178 = .ok (.iaload, 1) := by decide +kernel
theorem dX12_weekStep_179 : decode cX12_weekStep 179 = .ok (.iconst 1, 1) := by decide +kernel
theorem dX12_weekStep_180 : decode cX12_weekStep 180 = .ok (.iadd, 1) := by decide +kernel
theorem dX12_weekStep_181 : decode cX12_weekStep 181 = .ok (.iastore, 1) := by decide +kernel
theorem dX12_weekStep_182 : decode cX12_weekStep 182 = .ok (.aload_n 0, 1) := by decide +kernel
theorem dX12_weekStep_183 : decode cX12_weekStep 183 = .ok (.invokevirtual 163, 3) := by decide +kernel
theorem dX12_weekStep_186 : decode cX12_weekStep 186 = .ok (.aload_n 0, 1) := by decide +kernel
theorem dX12_weekStep_187 : decode cX12_weekStep 187 = .ok (.iload_n 1, 1) := by decide +kernel
theorem dX12_weekStep_188 : decode cX12_weekStep 188 = .ok (.iload_n 3, 1) := by decide +kernel
theorem dX12_weekStep_189 : decode cX12_weekStep 189 = .ok (.invokevirtual 263, 3) := by decide +kernel
theorem dX12_weekStep_192 : decode cX12_weekStep 192 = .ok (.ifCond .ne 5, 3) := by decide +kernel
theorem dX12_weekStep_195 : decode cX12_weekStep 195 = .ok (.iconst 0, 1) := by decide +kernel
theorem dX12_weekStep_196 : decode cX12_weekStep 196 = .ok (.ireturn, 1) := by decide +kernel
theorem dX12_weekStep_197 : decode cX12_weekStep 197 = .ok (.iload 4, 2) := by decide +kernel
theorem dX12_weekStep_199 : decode cX12_weekStep 199 = .ok (.ifCond .eq 23, 3) := by decide +kernel
theorem dX12_weekStep_202 : decode cX12_weekStep 202 = .ok (.aload_n 0, 1) := by decide +kernel
theorem dX12_weekStep_203 : decode cX12_weekStep 203 = .ok (.getfield 44, 3) := by decide +kernel
theorem dX12_weekStep_206 : decode cX12_weekStep 206 = .ok (.aload_n 0, 1) := by decide +kernel
theorem dX12_weekStep_207 : decode cX12_weekStep 207 = .ok (.getfield 257, 3) := by decide +kernel
theorem dX12_weekStep_210 : decode cX12_weekStep 210 = .ok (.iload_n 2, 1) := by decide +kernel
theorem dX12_weekStep_211 : decode cX12_weekStep 211 = .ok (.iastore, 1) := by decide +kernel
theorem dX12_weekStep_212 : decode cX12_weekStep 212 = .ok (.aload_n 0, 1) := by decide +kernel
theorem dX12_weekStep_213 : decode cX12_weekStep 213 = .ok (.dup, 1) := by decide +kernel
theorem dX12_weekStep_214 : decode cX12_weekStep 214 = .ok (.getfield 257, 3) := by decide +kernel
theorem dX12_weekStep_217 : decode cX12_weekStep 217 = .ok (.iconst 1, 1) := by decide +kernel
theorem dX12_weekStep_218 : decode cX12_weekStep 218 = .ok (.iadd, 1) := by decide +kernel
theorem dX12_weekStep_219 : decode cX12_weekStep 219 = .ok (.putfield 257, 3) := by decide +kernel
theorem dX12_weekStep_222 : decode cX12_weekStep 222 = .ok (.iload_n 1, 1) := by decide +kernel
theorem dX12_weekStep_223 : decode cX12_weekStep 223 = .ok (.bipush 22, 2) := by decide +kernel
theorem dX12_weekStep_225 : decode cX12_weekStep 225 = .ok (.if_icmp .ne 54, 3) := by decide +kernel
theorem dX12_weekStep_228 : decode cX12_weekStep 228 = .ok (.aload_n 0, 1) := by decide +kernel
theorem dX12_weekStep_229 : decode cX12_weekStep 229 = .ok (.dup, 1) := by decide +kernel
theorem dX12_weekStep_230 : decode cX12_weekStep 230 = .ok (.getfield 257, 3) := by decide +kernel
theorem dX12_weekStep_233 : decode cX12_weekStep 233 = .ok (.iconst 1, 1) := by decide +kernel
theorem dX12_weekStep_234 : decode cX12_weekStep 234 = .ok (.isub, 1) := by decide +kernel
theorem dX12_weekStep_235 : decode cX12_weekStep 235 = .ok (.putfield 257, 3) := by decide +kernel
theorem dX12_weekStep_238 : decode cX12_weekStep 238 = .ok (.aload_n 0, 1) := by decide +kernel
theorem dX12_weekStep_239 : decode cX12_weekStep 239 = .ok (.getfield 7, 3) := by decide +kernel
theorem dX12_weekStep_242 : decode cX12_weekStep 242 = .ok (.iload_n 3, 1) := by decide +kernel
theorem dX12_weekStep_243 : decode cX12_weekStep 243 = .ok (.iconst 4, 1) := by decide +kernel
theorem dX12_weekStep_244 : decode cX12_weekStep 244 = .ok (.iadd, 1) := by decide +kernel
theorem dX12_weekStep_245 : decode cX12_weekStep 245 = .ok (.aload_n 0, 1) := by decide +kernel
theorem dX12_weekStep_246 : decode cX12_weekStep 246 = .ok (.getfield 44, 3) := by decide +kernel
theorem dX12_weekStep_249 : decode cX12_weekStep 249 = .ok (.aload_n 0, 1) := by decide +kernel
theorem dX12_weekStep_250 : decode cX12_weekStep 250 = .ok (.getfield 257, 3) := by decide +kernel
theorem dX12_weekStep_253 : decode cX12_weekStep 253 = .ok (.iaload, 1) := by decide +kernel
theorem dX12_weekStep_254 : decode cX12_weekStep 254 = .ok (.iastore, 1) := by decide +kernel
theorem dX12_weekStep_255 : decode cX12_weekStep 255 = .ok (.aload_n 0, 1) := by decide +kernel
theorem dX12_weekStep_256 : decode cX12_weekStep 256 = .ok (.getfield 7, 3) := by decide +kernel
theorem dX12_weekStep_259 : decode cX12_weekStep 259 = .ok (.sipush 2763, 3) := by decide +kernel
theorem dX12_weekStep_262 : decode cX12_weekStep 262 = .ok (.bipush 6, 2) := by decide +kernel
theorem dX12_weekStep_264 : decode cX12_weekStep 264 = .ok (.aload_n 0, 1) := by decide +kernel
theorem dX12_weekStep_265 : decode cX12_weekStep 265 = .ok (.getfield 44, 3) := by decide +kernel
theorem dX12_weekStep_268 : decode cX12_weekStep 268 = .ok (.aload_n 0, 1) := by decide +kernel
theorem dX12_weekStep_269 : decode cX12_weekStep 269 = .ok (.getfield 257, 3) := by decide +kernel
theorem dX12_weekStep_272 : decode cX12_weekStep 272 = .ok (.iaload, 1) := by decide +kernel
theorem dX12_weekStep_273 : decode cX12_weekStep 273 = .ok (.imul, 1) := by decide +kernel
theorem dX12_weekStep_274 : decode cX12_weekStep 274 = .ok (.iadd, 1) := by decide +kernel
theorem dX12_weekStep_275 : decode cX12_weekStep 275 = .ok (.iconst 4, 1) := by decide +kernel
theorem dX12_weekStep_276 : decode cX12_weekStep 276 = .ok (.iadd, 1) := by decide +kernel
theorem dX12_weekStep_277 : decode cX12_weekStep 277 = .ok (.iload_n 2, 1) := by decide +kernel
theorem dX12_weekStep_278 : decode cX12_weekStep 278 = .ok (.iastore, 1) := by decide +kernel
theorem dX12_weekStep_279 : decode cX12_weekStep 279 = .ok (.aload_n 0, 1) := by decide +kernel
theorem dX12_weekStep_280 : decode cX12_weekStep 280 = .ok (.bipush 59, 2) := by decide +kernel
theorem dX12_weekStep_282 : decode cX12_weekStep 282 = .ok (.invokevirtual 239, 3) := by decide +kernel
theorem dX12_weekStep_285 : decode cX12_weekStep 285 = .ok (.ireturn, 1) := by decide +kernel
noncomputable def fX12_weekStep_j69 (rf : Nat → Nat → Nat) (a0 : Nat) (μ0 : o_Mem) : Option (Int32 × o_Mem) :=
  o_bd (fX12_fails rf a0 2 μ0) fun r1 μ1 =>
  some (r1, μ1)
noncomputable def fX12_weekStep_s147 (rf : Nat → Nat → Nat) (a0 : Nat) (x1 : Int32) (x2 : Int32) (x3 : Int32) (x4 : Int32) (τ147 : Int32) (μ0 : o_Mem) : Option ((Nat × (Int32)) × o_Mem) :=
  if 6 ≤ τ147 then (
    some ((170, 0), μ0))
  else (
    o_ck (0 ≤ ((x3 + τ147)).toInt ∧ ((x3 + τ147)).toInt < 3756) <|
    o_seq (o_wI μ0 (rf a0 0) (((x3 + τ147)).toNatClampNeg) 0) fun μ1 =>
    some ((147, (τ147 + 1)), μ1))
noncomputable def fX12_weekStep_j279 (rf : Nat → Nat → Nat) (a0 : Nat) (μ0 : o_Mem) : Option (Int32 × o_Mem) :=
  o_bd (fX12_wantSign rf a0 59 μ0) fun r1 μ1 =>
  some (r1, μ1)
noncomputable def fX12_weekStep_j222 (rf : Nat → Nat → Nat) (a0 : Nat) (x1 : Int32) (x2 : Int32) (x3 : Int32) (μ0 : o_Mem) : Option (Int32 × o_Mem) :=
  if x1 = 22 then (
    o_seq (o_wI μ0 a0 22 ((μ0.1 a0 22) - 1)) fun μ1 =>
    o_ck (0 ≤ ((μ1.1 a0 22)).toInt ∧ ((μ1.1 a0 22)).toInt < 3) <|
    o_ck (0 ≤ ((x3 + 4)).toInt ∧ ((x3 + 4)).toInt < 3756) <|
    o_seq (o_wI μ1 (rf a0 0) (((x3 + 4)).toNatClampNeg) (μ1.1 (rf a0 21) ((μ1.1 a0 22)).toNatClampNeg)) fun μ2 =>
    o_ck (0 ≤ ((μ2.1 a0 22)).toInt ∧ ((μ2.1 a0 22)).toInt < 3) <|
    o_ck (0 ≤ (((2763 + (6 * (μ2.1 (rf a0 21) ((μ2.1 a0 22)).toNatClampNeg))) + 4)).toInt ∧ (((2763 + (6 * (μ2.1 (rf a0 21) ((μ2.1 a0 22)).toNatClampNeg))) + 4)).toInt < 3756) <|
    o_seq (o_wI μ2 (rf a0 0) ((((2763 + (6 * (μ2.1 (rf a0 21) ((μ2.1 a0 22)).toNatClampNeg))) + 4)).toNatClampNeg) x2) fun μ3 =>
    fX12_weekStep_j279 rf a0 μ3)
  else (
    fX12_weekStep_j279 rf a0 μ0)
noncomputable def fX12_weekStep_j133 (rf : Nat → Nat → Nat) (a0 : Nat) (x1 : Int32) (x2 : Int32) (x3 : Int32) (x4 : Int32) (b0 : Nat) (y1 : Int32) (y2 : Int32) (μ0 : o_Mem) : Option (Int32 × o_Mem) :=
  o_seq (o_wI μ0 b0 23 (y1 + y2)) fun μ1 =>
  o_ck (0 ≤ (x3).toInt ∧ (x3).toInt < 3756) <|
  o_seq (o_wI μ1 (rf a0 0) x3.toNatClampNeg x1) fun μ2 =>
  o_bd (o_lp 147 (fX12_weekStep_s147 rf a0 x1 x2 x3 x4) o_fuel (1 : Int32) μ2) fun ex3 μ3 =>
  if ex3.1 = 170 then (
    o_seq (o_wI μ3 (rf a0 0) 2516 ((μ3.1 (rf a0 0) 2516) + 1)) fun μ4 =>
    o_bd (fX12_ahead rf a0 μ4) fun _u μ5 =>
    o_bd (fX12_weekOrder rf a0 x1 x3 μ5) fun r1 μ6 =>
    if r1 = 0 then (
      some (0, μ6))
    else (
      if x4 = 0 then (
        fX12_weekStep_j222 rf a0 x1 x2 x3 μ6)
      else (
        o_ck (0 ≤ ((μ6.1 a0 22)).toInt ∧ ((μ6.1 a0 22)).toInt < 3) <|
        o_seq (o_wI μ6 (rf a0 21) (((μ6.1 a0 22)).toNatClampNeg) x2) fun μ7 =>
        o_seq (o_wI μ7 a0 22 ((μ7.1 a0 22) + 1)) fun μ8 =>
        fX12_weekStep_j222 rf a0 x1 x2 x3 μ8)))
  else
    none
noncomputable def fX12_weekStep_j117 (rf : Nat → Nat → Nat) (a0 : Nat) (x1 : Int32) (x2 : Int32) (x3 : Int32) (x4 : Int32) (μ0 : o_Mem) : Option (Int32 × o_Mem) :=
  if x1 = 22 then (
    fX12_weekStep_j133 rf a0 x1 x2 x3 x4 a0 (μ0.1 a0 23) 0 μ0)
  else (
    fX12_weekStep_j133 rf a0 x1 x2 x3 x4 a0 (μ0.1 a0 23) 1 μ0)
noncomputable def fX12_weekStep_j97 (rf : Nat → Nat → Nat) (a0 : Nat) (x1 : Int32) (x2 : Int32) (x3 : Int32) (x4 : Int32) (μ0 : o_Mem) : Option (Int32 × o_Mem) :=
  if x4 = 0 then (
    fX12_weekStep_j117 rf a0 x1 x2 x3 x4 μ0)
  else (
    if (μ0.1 a0 22) = 3 then (
      o_bd (fX12_fails rf a0 7 μ0) fun r1 μ1 =>
      some (r1, μ1))
    else (
      fX12_weekStep_j117 rf a0 x1 x2 x3 x4 μ0))
noncomputable def fX12_weekStep_j75 (rf : Nat → Nat → Nat) (a0 : Nat) (x1 : Int32) (x2 : Int32) (x3 : Int32) (x4 : Int32) (μ0 : o_Mem) : Option (Int32 × o_Mem) :=
  if x1 = 22 then (
    fX12_weekStep_j97 rf a0 x1 x2 x3 x4 μ0)
  else (
    if (μ0.1 a0 23) = 30 then (
      o_bd (fX12_fails rf a0 6 μ0) fun r1 μ1 =>
      some (r1, μ1))
    else (
      fX12_weekStep_j97 rf a0 x1 x2 x3 x4 μ0))
noncomputable def fX12_weekStep_j42 (rf : Nat → Nat → Nat) (a0 : Nat) (x1 : Int32) (x2 : Int32) (x3 : Int32) (y0 : Int32) (μ0 : o_Mem) : Option (Int32 × o_Mem) :=
  if x1 < 15 then (
    fX12_weekStep_j69 rf a0 μ0)
  else (
    if 23 < x1 then (
      fX12_weekStep_j69 rf a0 μ0)
    else (
      if x1 = 22 then (
        if (μ0.1 a0 22) = 0 then (
          fX12_weekStep_j69 rf a0 μ0)
        else (
          fX12_weekStep_j75 rf a0 x1 x2 x3 y0 μ0))
      else (
        fX12_weekStep_j75 rf a0 x1 x2 x3 y0 μ0)))
noncomputable def fX12_weekStep_j37 (rf : Nat → Nat → Nat) (a0 : Nat) (x1 : Int32) (x2 : Int32) (x3 : Int32) (μ0 : o_Mem) : Option (Int32 × o_Mem) :=
  fX12_weekStep_j42 rf a0 x1 x2 x3 1 μ0
noncomputable def fX12_weekStep (rf : Nat → Nat → Nat) (a0 : Nat) (μ0 : o_Mem) : Option (Int32 × o_Mem) :=
  o_bd (fX12_inWords rf a0 μ0) fun r1 μ1 =>
  if r1 = 20 then (
    fX12_weekStep_j37 rf a0 r1 (μ1.1 (rf a0 0) 2516) (2763 + (6 * (μ1.1 (rf a0 0) 2516))) μ1)
  else (
    if r1 = 21 then (
      fX12_weekStep_j37 rf a0 r1 (μ1.1 (rf a0 0) 2516) (2763 + (6 * (μ1.1 (rf a0 0) 2516))) μ1)
    else (
      fX12_weekStep_j42 rf a0 r1 (μ1.1 (rf a0 0) 2516) (2763 + (6 * (μ1.1 (rf a0 0) 2516))) 0 μ1))
set_option maxRecDepth 20000 in
theorem dnX12_weekStep_j69 {X : o_Cx} (hX : o_ok X) {d : Nat} {a0 : Nat} {μ0 : o_Mem} {q : Int32 → o_Mem → Prop} (h0 : o_is X a0 (.inl 12)) (h : o_Post (fX12_weekStep_j69 (o_rf X) a0 μ0) q) : o_Ev X (d + 9) mX12_weekStep 69 [some (.ref (o_ad X a0)), none, none, none, none, none] [] μ0 (o_QZ q) := by
  unfold fX12_weekStep_j69 at h
  refine s_aload_n (i := 0) dX12_weekStep_69 rfl rfl ?_
  refine s_iconst dX12_weekStep_70 kI_2 ?_
  refine s_callVz (C := mX12_fails) (As := [.int 2]) (rest := []) (L0 := [some (.ref (o_ad X a0)), some (.int 2)]) hX h0 clX12_169 dX12_weekStep_71 rfl rfl (Nat.le_of_ble_eq_true rfl) (Nat.le_of_ble_eq_true rfl) (dnX12_fails hX h0 (o_bdp h)) (fun r1 μ1 zr1 h => ?_)
  exact s_zreturn rfl zr1 dX12_weekStep_74 ⟨_, rfl, zr1, o_ret h⟩
set_option maxRecDepth 20000 in
theorem dnX12_weekStep_s147 {X : o_Cx} (hX : o_ok X) {d : Nat} {a0 : Nat} {x1 : Int32} {x2 : Int32} {x3 : Int32} {x4 : Int32} {τ147 : Int32} {μ0 : o_Mem} {K : (Nat × (Int32)) → o_Mem → Prop} {Q : Option Value → o_Mem → Prop} (h0 : o_is X a0 (.inl 12)) (h : o_Post (fX12_weekStep_s147 (o_rf X) a0 x1 x2 x3 x4 τ147 μ0) K) (kh : ∀ (τ147 : Int32) (μ : o_Mem), K (147, τ147) μ → o_Ev X (d + 9) mX12_weekStep 147 [some (.ref (o_ad X a0)), some (.int x1), some (.int x2), some (.int x3), some (.int x4), some (.int τ147)] [] μ Q) (k170 : ∀ (τ147 : Int32) (μ : o_Mem), K (170, τ147) μ → o_Ev X (d + 9) mX12_weekStep 170 [some (.ref (o_ad X a0)), some (.int x1), some (.int x2), some (.int x3), some (.int x4), none] [] μ Q) : o_Ev X (d + 9) mX12_weekStep 147 [some (.ref (o_ad X a0)), some (.int x1), some (.int x2), some (.int x3), some (.int x4), some (.int τ147)] [] μ0 Q := by
  unfold fX12_weekStep_s147 at h
  refine s_iload dX12_weekStep_147 rfl ?_
  refine s_bipush dX12_weekStep_149 kB_6 ?_
  refine s_icmp_ge (tgt := 170) dX12_weekStep_151 rfl (fun c1 => ?_) (fun c1 => ?_)
  · have h := o_if_t c1 h
    refine s_mask [true, true, true, true, true, false] (L' := [some (.ref (o_ad X a0)), some (.int x1), some (.int x2), some (.int x3), some (.int x4), none]) rfl ?_
    exact k170 0 _ (o_ret h)
  · have h := o_if_f c1 h
    refine s_aload_n (i := 0) dX12_weekStep_154 rfl rfl ?_
    refine s_getR hX h0 flX12_7 rfl dX12_weekStep_155 (fun (g1 : o_is X (o_rf X a0 0) (.inr (0, 3756))) => ?_)
    refine s_iload_n (i := 3) dX12_weekStep_158 rfl rfl ?_
    refine s_iload dX12_weekStep_159 rfl ?_
    refine s_iadd dX12_weekStep_161 ?_
    refine s_iconst dX12_weekStep_162 kI_0 ?_
    have hc := o_ck_c h
    have h := o_ck_k h
    refine s_iastK hX g1 hc rfl dX12_weekStep_163 (o_gen h (fun μ1 h => ?_))
    refine s_iinc (v := (τ147 + 1)) dX12_weekStep_164 rfl rfl (Nat.le_of_ble_eq_true rfl) rfl ?_
    refine s_goto (tgt := 147) dX12_weekStep_167 rfl ?_
    refine s_mask [true, true, true, true, true, true] (L' := [some (.ref (o_ad X a0)), some (.int x1), some (.int x2), some (.int x3), some (.int x4), some (.int (τ147 + 1))]) rfl ?_
    exact kh (τ147 + 1) _ (o_ret h)
set_option maxRecDepth 20000 in
theorem dnX12_weekStep_j279 {X : o_Cx} (hX : o_ok X) {d : Nat} {a0 : Nat} {μ0 : o_Mem} {q : Int32 → o_Mem → Prop} (h0 : o_is X a0 (.inl 12)) (h : o_Post (fX12_weekStep_j279 (o_rf X) a0 μ0) q) : o_Ev X (d + 9) mX12_weekStep 279 [some (.ref (o_ad X a0)), none, none, none, none, none] [] μ0 (o_QZ q) := by
  unfold fX12_weekStep_j279 at h
  refine s_aload_n (i := 0) dX12_weekStep_279 rfl rfl ?_
  refine s_bipush dX12_weekStep_280 kB_59 ?_
  refine s_callVz (C := mX12_wantSign) (As := [.int 59]) (rest := []) (L0 := [some (.ref (o_ad X a0)), some (.int 59)]) hX h0 clX12_239 dX12_weekStep_282 rfl rfl (Nat.le_of_ble_eq_true rfl) (Nat.le_of_ble_eq_true rfl) (dnX12_wantSign hX h0 (o_bdp h)) (fun r1 μ1 zr1 h => ?_)
  exact s_zreturn rfl zr1 dX12_weekStep_285 ⟨_, rfl, zr1, o_ret h⟩
set_option maxRecDepth 20000 in
theorem dnX12_weekStep_j222 {X : o_Cx} (hX : o_ok X) {d : Nat} {a0 : Nat} {x1 : Int32} {x2 : Int32} {x3 : Int32} {μ0 : o_Mem} {q : Int32 → o_Mem → Prop} (h0 : o_is X a0 (.inl 12)) (h : o_Post (fX12_weekStep_j222 (o_rf X) a0 x1 x2 x3 μ0) q) : o_Ev X (d + 9) mX12_weekStep 222 [some (.ref (o_ad X a0)), some (.int x1), some (.int x2), some (.int x3), none, none] [] μ0 (o_QZ q) := by
  unfold fX12_weekStep_j222 at h
  refine s_iload_n (i := 1) dX12_weekStep_222 rfl rfl ?_
  refine s_bipush dX12_weekStep_223 kB_22 ?_
  refine s_icmp_ne (tgt := 279) dX12_weekStep_225 rfl (fun c1 => ?_) (fun c1 => ?_)
  · have h := o_if_f c1 h
    refine s_mask [true, false, false, false, false, false] (L' := [some (.ref (o_ad X a0)), none, none, none, none, none]) rfl ?_
    exact dnX12_weekStep_j279 hX h0 h
  · have h := o_if_t c1 h
    refine s_aload_n (i := 0) dX12_weekStep_228 rfl rfl ?_
    refine s_dup dX12_weekStep_229 rfl ?_
    refine s_getI h0 flX12_257 rfl dX12_weekStep_230 ?_
    refine s_iconst dX12_weekStep_233 kI_1 ?_
    refine s_isub dX12_weekStep_234 ?_
    refine s_putI hX h0 fwX12_257 rfl dX12_weekStep_235 (o_gen h (fun μ1 h => ?_))
    refine s_aload_n (i := 0) dX12_weekStep_238 rfl rfl ?_
    refine s_getR hX h0 flX12_7 rfl dX12_weekStep_239 (fun (g1 : o_is X (o_rf X a0 0) (.inr (0, 3756))) => ?_)
    refine s_iload_n (i := 3) dX12_weekStep_242 rfl rfl ?_
    refine s_iconst dX12_weekStep_243 kI_4 ?_
    refine s_iadd dX12_weekStep_244 ?_
    refine s_aload_n (i := 0) dX12_weekStep_245 rfl rfl ?_
    refine s_getR hX h0 flX12_44 rfl dX12_weekStep_246 (fun (g2 : o_is X (o_rf X a0 21) (.inr (0, 3))) => ?_)
    refine s_aload_n (i := 0) dX12_weekStep_249 rfl rfl ?_
    refine s_getI h0 flX12_257 rfl dX12_weekStep_250 ?_
    have hc := o_ck_c h
    have h := o_ck_k h
    refine s_ialdK g2 hc rfl dX12_weekStep_253 ?_
    have hc := o_ck_c h
    have h := o_ck_k h
    refine s_iastK hX g1 hc rfl dX12_weekStep_254 (o_gen h (fun μ2 h => ?_))
    refine s_aload_n (i := 0) dX12_weekStep_255 rfl rfl ?_
    refine s_getR hX h0 flX12_7 rfl dX12_weekStep_256 (fun (g3 : o_is X (o_rf X a0 0) (.inr (0, 3756))) => ?_)
    refine s_sipush dX12_weekStep_259 kS_2763 ?_
    refine s_bipush dX12_weekStep_262 kB_6 ?_
    refine s_aload_n (i := 0) dX12_weekStep_264 rfl rfl ?_
    refine s_getR hX h0 flX12_44 rfl dX12_weekStep_265 (fun (g4 : o_is X (o_rf X a0 21) (.inr (0, 3))) => ?_)
    refine s_aload_n (i := 0) dX12_weekStep_268 rfl rfl ?_
    refine s_getI h0 flX12_257 rfl dX12_weekStep_269 ?_
    have hc := o_ck_c h
    have h := o_ck_k h
    refine s_ialdK g4 hc rfl dX12_weekStep_272 ?_
    refine s_imul dX12_weekStep_273 ?_
    refine s_iadd dX12_weekStep_274 ?_
    refine s_iconst dX12_weekStep_275 kI_4 ?_
    refine s_iadd dX12_weekStep_276 ?_
    refine s_iload_n (i := 2) dX12_weekStep_277 rfl rfl ?_
    have hc := o_ck_c h
    have h := o_ck_k h
    refine s_iastK hX g3 hc rfl dX12_weekStep_278 (o_gen h (fun μ3 h => ?_))
    refine s_mask [true, false, false, false, false, false] (L' := [some (.ref (o_ad X a0)), none, none, none, none, none]) rfl ?_
    exact dnX12_weekStep_j279 hX h0 h
set_option maxRecDepth 20000 in
theorem dnX12_weekStep_j133 {X : o_Cx} (hX : o_ok X) {d : Nat} {a0 : Nat} {x1 : Int32} {x2 : Int32} {x3 : Int32} {x4 : Int32} {b0 : Nat} {y1 : Int32} {y2 : Int32} {μ0 : o_Mem} {q : Int32 → o_Mem → Prop} (h0 : o_is X a0 (.inl 12)) (hb0 : o_is X b0 (.inl 12)) (h : o_Post (fX12_weekStep_j133 (o_rf X) a0 x1 x2 x3 x4 b0 y1 y2 μ0) q) : o_Ev X (d + 9) mX12_weekStep 133 [some (.ref (o_ad X a0)), some (.int x1), some (.int x2), some (.int x3), some (.int x4), none] [.int y2, .int y1, .ref (o_ad X b0)] μ0 (o_QZ q) := by
  unfold fX12_weekStep_j133 at h
  refine s_iadd dX12_weekStep_133 ?_
  refine s_putI hX hb0 fwX12_260 rfl dX12_weekStep_134 (o_gen h (fun μ1 h => ?_))
  refine s_aload_n (i := 0) dX12_weekStep_137 rfl rfl ?_
  refine s_getR hX h0 flX12_7 rfl dX12_weekStep_138 (fun (g1 : o_is X (o_rf X a0 0) (.inr (0, 3756))) => ?_)
  refine s_iload_n (i := 3) dX12_weekStep_141 rfl rfl ?_
  refine s_iload_n (i := 1) dX12_weekStep_142 rfl rfl ?_
  have hc := o_ck_c h
  have h := o_ck_k h
  refine s_iastK hX g1 hc rfl dX12_weekStep_143 (o_gen h (fun μ2 h => ?_))
  refine s_iconst dX12_weekStep_144 kI_1 ?_
  refine s_istore dX12_weekStep_145 (Nat.le_of_ble_eq_true rfl) rfl ?_
  refine s_mask [true, true, true, true, true, true] (L' := [some (.ref (o_ad X a0)), some (.int x1), some (.int x2), some (.int x3), some (.int x4), some (.int 1)]) rfl ?_
  refine o_lp_ev (fun τ147 => [some (.ref (o_ad X a0)), some (.int x1), some (.int x2), some (.int x3), some (.int x4), some (.int τ147)]) (fun τ147 μ _K h kv ke147 => dnX12_weekStep_s147 hX h0 h kv (fun τ147 μ3 h => ?_)) o_fuel 1 μ2 (o_bdp h)
  · have h := o_if_t rfl (ke147 (170, τ147) μ3 (o_ne rfl) h)
    refine s_aload_n (i := 0) dX12_weekStep_170 rfl rfl ?_
    refine s_getR hX h0 flX12_7 rfl dX12_weekStep_171 (fun (g2 : o_is X (o_rf X a0 0) (.inr (0, 3756))) => ?_)
    refine s_sipush dX12_weekStep_174 kS_2516 ?_
    refine s_dup2 dX12_weekStep_177 rfl rfl ?_
    refine s_ialdK g2 ⟨by decide, by decide⟩ kN_2516 dX12_weekStep_178 ?_
    refine s_iconst dX12_weekStep_179 kI_1 ?_
    refine s_iadd dX12_weekStep_180 ?_
    refine s_iastK hX g2 ⟨by decide, by decide⟩ kN_2516 dX12_weekStep_181 (o_gen h (fun μ4 h => ?_))
    refine s_aload_n (i := 0) dX12_weekStep_182 rfl rfl ?_
    refine s_callVu (C := mX12_ahead) (As := []) (rest := []) (L0 := [some (.ref (o_ad X a0)), none]) hX h0 clX12_163 dX12_weekStep_183 rfl rfl (Nat.le_of_ble_eq_true rfl) (Nat.le_of_ble_eq_true rfl) (dnX12_ahead hX h0 (o_bdp h)) (fun _u μ5 h => ?_)
    refine s_aload_n (i := 0) dX12_weekStep_186 rfl rfl ?_
    refine s_iload_n (i := 1) dX12_weekStep_187 rfl rfl ?_
    refine s_iload_n (i := 3) dX12_weekStep_188 rfl rfl ?_
    refine s_callVz (C := mX12_weekOrder) (As := [.int x1, .int x3]) (rest := []) (L0 := [some (.ref (o_ad X a0)), some (.int x1), some (.int x3)]) hX h0 clX12_263 dX12_weekStep_189 rfl rfl (Nat.le_of_ble_eq_true rfl) (Nat.le_of_ble_eq_true rfl) (dnX12_weekOrder hX h0 (o_bdp h)) (fun r1 μ6 zr1 h => ?_)
    refine s_if_ne (tgt := 197) dX12_weekStep_192 rfl (fun c1 => ?_) (fun c1 => ?_)
    · have h := o_if_f c1 h
      refine s_iload dX12_weekStep_197 rfl ?_
      refine s_if_eq (tgt := 222) dX12_weekStep_199 rfl (fun c1 => ?_) (fun c1 => ?_)
      · have h := o_if_t c1 h
        refine s_mask [true, true, true, true, false, false] (L' := [some (.ref (o_ad X a0)), some (.int x1), some (.int x2), some (.int x3), none, none]) rfl ?_
        exact dnX12_weekStep_j222 hX h0 h
      · have h := o_if_f c1 h
        refine s_aload_n (i := 0) dX12_weekStep_202 rfl rfl ?_
        refine s_getR hX h0 flX12_44 rfl dX12_weekStep_203 (fun (g3 : o_is X (o_rf X a0 21) (.inr (0, 3))) => ?_)
        refine s_aload_n (i := 0) dX12_weekStep_206 rfl rfl ?_
        refine s_getI h0 flX12_257 rfl dX12_weekStep_207 ?_
        refine s_iload_n (i := 2) dX12_weekStep_210 rfl rfl ?_
        have hc := o_ck_c h
        have h := o_ck_k h
        refine s_iastK hX g3 hc rfl dX12_weekStep_211 (o_gen h (fun μ7 h => ?_))
        refine s_aload_n (i := 0) dX12_weekStep_212 rfl rfl ?_
        refine s_dup dX12_weekStep_213 rfl ?_
        refine s_getI h0 flX12_257 rfl dX12_weekStep_214 ?_
        refine s_iconst dX12_weekStep_217 kI_1 ?_
        refine s_iadd dX12_weekStep_218 ?_
        refine s_putI hX h0 fwX12_257 rfl dX12_weekStep_219 (o_gen h (fun μ8 h => ?_))
        refine s_mask [true, true, true, true, false, false] (L' := [some (.ref (o_ad X a0)), some (.int x1), some (.int x2), some (.int x3), none, none]) rfl ?_
        exact dnX12_weekStep_j222 hX h0 h
    · have h := o_if_t c1 h
      refine s_iconst dX12_weekStep_195 kI_0 ?_
      exact s_zreturn rfl (Or.inl rfl) dX12_weekStep_196 ⟨_, rfl, (Or.inl rfl), o_ret h⟩
set_option maxRecDepth 20000 in
theorem dnX12_weekStep_j117 {X : o_Cx} (hX : o_ok X) {d : Nat} {a0 : Nat} {x1 : Int32} {x2 : Int32} {x3 : Int32} {x4 : Int32} {μ0 : o_Mem} {q : Int32 → o_Mem → Prop} (h0 : o_is X a0 (.inl 12)) (h : o_Post (fX12_weekStep_j117 (o_rf X) a0 x1 x2 x3 x4 μ0) q) : o_Ev X (d + 9) mX12_weekStep 117 [some (.ref (o_ad X a0)), some (.int x1), some (.int x2), some (.int x3), some (.int x4), none] [] μ0 (o_QZ q) := by
  unfold fX12_weekStep_j117 at h
  refine s_aload_n (i := 0) dX12_weekStep_117 rfl rfl ?_
  refine s_dup dX12_weekStep_118 rfl ?_
  refine s_getI h0 flX12_260 rfl dX12_weekStep_119 ?_
  refine s_iload_n (i := 1) dX12_weekStep_122 rfl rfl ?_
  refine s_bipush dX12_weekStep_123 kB_22 ?_
  refine s_icmp_ne (tgt := 132) dX12_weekStep_125 rfl (fun c1 => ?_) (fun c1 => ?_)
  · have h := o_if_f c1 h
    refine s_iconst dX12_weekStep_132 kI_1 ?_
    refine s_mask [true, true, true, true, true, false] (L' := [some (.ref (o_ad X a0)), some (.int x1), some (.int x2), some (.int x3), some (.int x4), none]) rfl ?_
    exact dnX12_weekStep_j133 hX h0 h0 h
  · have h := o_if_t c1 h
    refine s_iconst dX12_weekStep_128 kI_0 ?_
    refine s_goto (tgt := 133) dX12_weekStep_129 rfl ?_
    refine s_mask [true, true, true, true, true, false] (L' := [some (.ref (o_ad X a0)), some (.int x1), some (.int x2), some (.int x3), some (.int x4), none]) rfl ?_
    exact dnX12_weekStep_j133 hX h0 h0 h
set_option maxRecDepth 20000 in
theorem dnX12_weekStep_j97 {X : o_Cx} (hX : o_ok X) {d : Nat} {a0 : Nat} {x1 : Int32} {x2 : Int32} {x3 : Int32} {x4 : Int32} {μ0 : o_Mem} {q : Int32 → o_Mem → Prop} (h0 : o_is X a0 (.inl 12)) (h : o_Post (fX12_weekStep_j97 (o_rf X) a0 x1 x2 x3 x4 μ0) q) : o_Ev X (d + 9) mX12_weekStep 97 [some (.ref (o_ad X a0)), some (.int x1), some (.int x2), some (.int x3), some (.int x4), none] [] μ0 (o_QZ q) := by
  unfold fX12_weekStep_j97 at h
  refine s_iload dX12_weekStep_97 rfl ?_
  refine s_if_eq (tgt := 117) dX12_weekStep_99 rfl (fun c1 => ?_) (fun c1 => ?_)
  · have h := o_if_t c1 h
    refine s_mask [true, true, true, true, true, false] (L' := [some (.ref (o_ad X a0)), some (.int x1), some (.int x2), some (.int x3), some (.int x4), none]) rfl ?_
    exact dnX12_weekStep_j117 hX h0 h
  · have h := o_if_f c1 h
    refine s_aload_n (i := 0) dX12_weekStep_102 rfl rfl ?_
    refine s_getI h0 flX12_257 rfl dX12_weekStep_103 ?_
    refine s_iconst dX12_weekStep_106 kI_3 ?_
    refine s_icmp_ne (tgt := 117) dX12_weekStep_107 rfl (fun c1 => ?_) (fun c1 => ?_)
    · have h := o_if_f c1 h
      refine s_mask [true, true, true, true, true, false] (L' := [some (.ref (o_ad X a0)), some (.int x1), some (.int x2), some (.int x3), some (.int x4), none]) rfl ?_
      exact dnX12_weekStep_j117 hX h0 h
    · have h := o_if_t c1 h
      refine s_aload_n (i := 0) dX12_weekStep_110 rfl rfl ?_
      refine s_bipush dX12_weekStep_111 kB_7 ?_
      refine s_callVz (C := mX12_fails) (As := [.int 7]) (rest := []) (L0 := [some (.ref (o_ad X a0)), some (.int 7)]) hX h0 clX12_169 dX12_weekStep_113 rfl rfl (Nat.le_of_ble_eq_true rfl) (Nat.le_of_ble_eq_true rfl) (dnX12_fails hX h0 (o_bdp h)) (fun r1 μ1 zr1 h => ?_)
      exact s_zreturn rfl zr1 dX12_weekStep_116 ⟨_, rfl, zr1, o_ret h⟩
set_option maxRecDepth 20000 in
theorem dnX12_weekStep_j75 {X : o_Cx} (hX : o_ok X) {d : Nat} {a0 : Nat} {x1 : Int32} {x2 : Int32} {x3 : Int32} {x4 : Int32} {μ0 : o_Mem} {q : Int32 → o_Mem → Prop} (h0 : o_is X a0 (.inl 12)) (h : o_Post (fX12_weekStep_j75 (o_rf X) a0 x1 x2 x3 x4 μ0) q) : o_Ev X (d + 9) mX12_weekStep 75 [some (.ref (o_ad X a0)), some (.int x1), some (.int x2), some (.int x3), some (.int x4), none] [] μ0 (o_QZ q) := by
  unfold fX12_weekStep_j75 at h
  refine s_iload_n (i := 1) dX12_weekStep_75 rfl rfl ?_
  refine s_bipush dX12_weekStep_76 kB_22 ?_
  refine s_icmp_eq (tgt := 97) dX12_weekStep_78 rfl (fun c1 => ?_) (fun c1 => ?_)
  · have h := o_if_t c1 h
    refine s_mask [true, true, true, true, true, false] (L' := [some (.ref (o_ad X a0)), some (.int x1), some (.int x2), some (.int x3), some (.int x4), none]) rfl ?_
    exact dnX12_weekStep_j97 hX h0 h
  · have h := o_if_f c1 h
    refine s_aload_n (i := 0) dX12_weekStep_81 rfl rfl ?_
    refine s_getI h0 flX12_260 rfl dX12_weekStep_82 ?_
    refine s_bipush dX12_weekStep_85 kB_30 ?_
    refine s_icmp_ne (tgt := 97) dX12_weekStep_87 rfl (fun c1 => ?_) (fun c1 => ?_)
    · have h := o_if_f c1 h
      refine s_mask [true, true, true, true, true, false] (L' := [some (.ref (o_ad X a0)), some (.int x1), some (.int x2), some (.int x3), some (.int x4), none]) rfl ?_
      exact dnX12_weekStep_j97 hX h0 h
    · have h := o_if_t c1 h
      refine s_aload_n (i := 0) dX12_weekStep_90 rfl rfl ?_
      refine s_bipush dX12_weekStep_91 kB_6 ?_
      refine s_callVz (C := mX12_fails) (As := [.int 6]) (rest := []) (L0 := [some (.ref (o_ad X a0)), some (.int 6)]) hX h0 clX12_169 dX12_weekStep_93 rfl rfl (Nat.le_of_ble_eq_true rfl) (Nat.le_of_ble_eq_true rfl) (dnX12_fails hX h0 (o_bdp h)) (fun r1 μ1 zr1 h => ?_)
      exact s_zreturn rfl zr1 dX12_weekStep_96 ⟨_, rfl, zr1, o_ret h⟩
set_option maxRecDepth 20000 in
theorem dnX12_weekStep_j42 {X : o_Cx} (hX : o_ok X) {d : Nat} {a0 : Nat} {x1 : Int32} {x2 : Int32} {x3 : Int32} {y0 : Int32} {μ0 : o_Mem} {q : Int32 → o_Mem → Prop} (h0 : o_is X a0 (.inl 12)) (h : o_Post (fX12_weekStep_j42 (o_rf X) a0 x1 x2 x3 y0 μ0) q) : o_Ev X (d + 9) mX12_weekStep 42 [some (.ref (o_ad X a0)), some (.int x1), some (.int x2), some (.int x3), none, none] [.int y0] μ0 (o_QZ q) := by
  unfold fX12_weekStep_j42 at h
  refine s_istore dX12_weekStep_42 (Nat.le_of_ble_eq_true rfl) rfl ?_
  refine s_iload_n (i := 1) dX12_weekStep_44 rfl rfl ?_
  refine s_bipush dX12_weekStep_45 kB_15 ?_
  refine s_icmp_lt (tgt := 69) dX12_weekStep_47 rfl (fun c1 => ?_) (fun c1 => ?_)
  · have h := o_if_t c1 h
    refine s_mask [true, false, false, false, false, false] (L' := [some (.ref (o_ad X a0)), none, none, none, none, none]) rfl ?_
    exact dnX12_weekStep_j69 hX h0 h
  · have h := o_if_f c1 h
    refine s_iload_n (i := 1) dX12_weekStep_50 rfl rfl ?_
    refine s_bipush dX12_weekStep_51 kB_23 ?_
    refine s_icmp_gt (tgt := 69) dX12_weekStep_53 rfl (fun c1 => ?_) (fun c1 => ?_)
    · have h := o_if_t c1 h
      refine s_mask [true, false, false, false, false, false] (L' := [some (.ref (o_ad X a0)), none, none, none, none, none]) rfl ?_
      exact dnX12_weekStep_j69 hX h0 h
    · have h := o_if_f c1 h
      refine s_iload_n (i := 1) dX12_weekStep_56 rfl rfl ?_
      refine s_bipush dX12_weekStep_57 kB_22 ?_
      refine s_icmp_ne (tgt := 75) dX12_weekStep_59 rfl (fun c1 => ?_) (fun c1 => ?_)
      · have h := o_if_f c1 h
        refine s_mask [true, true, true, true, true, false] (L' := [some (.ref (o_ad X a0)), some (.int x1), some (.int x2), some (.int x3), some (.int y0), none]) rfl ?_
        exact dnX12_weekStep_j75 hX h0 h
      · have h := o_if_t c1 h
        refine s_aload_n (i := 0) dX12_weekStep_62 rfl rfl ?_
        refine s_getI h0 flX12_257 rfl dX12_weekStep_63 ?_
        refine s_if_ne (tgt := 75) dX12_weekStep_66 rfl (fun c1 => ?_) (fun c1 => ?_)
        · have h := o_if_f c1 h
          refine s_mask [true, true, true, true, true, false] (L' := [some (.ref (o_ad X a0)), some (.int x1), some (.int x2), some (.int x3), some (.int y0), none]) rfl ?_
          exact dnX12_weekStep_j75 hX h0 h
        · have h := o_if_t c1 h
          refine s_mask [true, false, false, false, false, false] (L' := [some (.ref (o_ad X a0)), none, none, none, none, none]) rfl ?_
          exact dnX12_weekStep_j69 hX h0 h
set_option maxRecDepth 20000 in
theorem dnX12_weekStep_j37 {X : o_Cx} (hX : o_ok X) {d : Nat} {a0 : Nat} {x1 : Int32} {x2 : Int32} {x3 : Int32} {μ0 : o_Mem} {q : Int32 → o_Mem → Prop} (h0 : o_is X a0 (.inl 12)) (h : o_Post (fX12_weekStep_j37 (o_rf X) a0 x1 x2 x3 μ0) q) : o_Ev X (d + 9) mX12_weekStep 37 [some (.ref (o_ad X a0)), some (.int x1), some (.int x2), some (.int x3), none, none] [] μ0 (o_QZ q) := by
  unfold fX12_weekStep_j37 at h
  refine s_iconst dX12_weekStep_37 kI_1 ?_
  refine s_goto (tgt := 42) dX12_weekStep_38 rfl ?_
  refine s_mask [true, true, true, true, false, false] (L' := [some (.ref (o_ad X a0)), some (.int x1), some (.int x2), some (.int x3), none, none]) rfl ?_
  exact dnX12_weekStep_j42 hX h0 h
set_option maxRecDepth 20000 in
theorem dnX12_weekStep {X : o_Cx} (hX : o_ok X) {d : Nat} {a0 : Nat} {μ0 : o_Mem} {q : Int32 → o_Mem → Prop} (h0 : o_is X a0 (.inl 12)) (h : o_Post (fX12_weekStep (o_rf X) a0 μ0) q) : o_Ev X (d + 9) mX12_weekStep 0 [some (.ref (o_ad X a0)), none, none, none, none, none] [] μ0 (o_QZ q) := by
  unfold fX12_weekStep at h
  refine s_aload_n (i := 0) dX12_weekStep_0 rfl rfl ?_
  refine s_ldcS1 rfl dX12_weekStep_1 ?_
  refine s_callVi (C := mX12_inWords) (As := [.ref (o_aK X 1)]) (rest := []) (L0 := [some (.ref (o_ad X a0)), some (.ref (o_aK X 1)), none, none, none, none, none]) hX h0 clX12_172 dX12_weekStep_3 rfl rfl (Nat.le_of_ble_eq_true rfl) (Nat.le_of_ble_eq_true rfl) (dnX12_inWords hX h0 (o_bdp h)) (fun r1 μ1 h => ?_)
  refine s_istore_n (i := 1) dX12_weekStep_6 rfl (Nat.le_of_ble_eq_true rfl) rfl ?_
  refine s_aload_n (i := 0) dX12_weekStep_7 rfl rfl ?_
  refine s_getR hX h0 flX12_7 rfl dX12_weekStep_8 (fun (g1 : o_is X (o_rf X a0 0) (.inr (0, 3756))) => ?_)
  refine s_sipush dX12_weekStep_11 kS_2516 ?_
  refine s_ialdK g1 ⟨by decide, by decide⟩ kN_2516 dX12_weekStep_14 ?_
  refine s_istore_n (i := 2) dX12_weekStep_15 rfl (Nat.le_of_ble_eq_true rfl) rfl ?_
  refine s_sipush dX12_weekStep_16 kS_2763 ?_
  refine s_bipush dX12_weekStep_19 kB_6 ?_
  refine s_iload_n (i := 2) dX12_weekStep_21 rfl rfl ?_
  refine s_imul dX12_weekStep_22 ?_
  refine s_iadd dX12_weekStep_23 ?_
  refine s_istore_n (i := 3) dX12_weekStep_24 rfl (Nat.le_of_ble_eq_true rfl) rfl ?_
  refine s_iload_n (i := 1) dX12_weekStep_25 rfl rfl ?_
  refine s_bipush dX12_weekStep_26 kB_20 ?_
  refine s_icmp_eq (tgt := 37) dX12_weekStep_28 rfl (fun c1 => ?_) (fun c1 => ?_)
  · have h := o_if_t c1 h
    refine s_mask [true, true, true, true, false, false] (L' := [some (.ref (o_ad X a0)), some (.int r1), some (.int (μ1.1 (o_rf X a0 0) 2516)), some (.int (2763 + (6 * (μ1.1 (o_rf X a0 0) 2516)))), none, none]) rfl ?_
    exact dnX12_weekStep_j37 hX h0 h
  · have h := o_if_f c1 h
    refine s_iload_n (i := 1) dX12_weekStep_31 rfl rfl ?_
    refine s_bipush dX12_weekStep_32 kB_21 ?_
    refine s_icmp_ne (tgt := 41) dX12_weekStep_34 rfl (fun c1 => ?_) (fun c1 => ?_)
    · have h := o_if_f c1 h
      refine s_iconst dX12_weekStep_41 kI_0 ?_
      refine s_mask [true, true, true, true, false, false] (L' := [some (.ref (o_ad X a0)), some (.int r1), some (.int (μ1.1 (o_rf X a0 0) 2516)), some (.int (2763 + (6 * (μ1.1 (o_rf X a0 0) 2516)))), none, none]) rfl ?_
      exact dnX12_weekStep_j42 hX h0 h
    · have h := o_if_t c1 h
      refine s_mask [true, true, true, true, false, false] (L' := [some (.ref (o_ad X a0)), some (.int r1), some (.int (μ1.1 (o_rf X a0 0) 2516)), some (.int (2763 + (6 * (μ1.1 (o_rf X a0 0) 2516)))), none, none]) rfl ?_
      exact dnX12_weekStep_j37 hX h0 h
