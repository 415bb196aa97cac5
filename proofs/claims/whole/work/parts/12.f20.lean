theorem dX12_oldPersonTo_0 : decode cX12_oldPersonTo 0 = .ok (.aload_n 0, 1) := by decide +kernel
theorem dX12_oldPersonTo_1 : decode cX12_oldPersonTo 1 = .ok (.bipush 10, 2) := by decide +kernel
theorem dX12_oldPersonTo_3 : decode cX12_oldPersonTo 3 = .ok (.aload_n 0, 1) := by decide +kernel
theorem dX12_oldPersonTo_4 : decode cX12_oldPersonTo 4 = .ok (.getfield 7, 3) := by decide +kernel
theorem dX12_oldPersonTo_7 : decode cX12_oldPersonTo 7 = .ok (.iconst 2, 1) := by decide +kernel
theorem dX12_oldPersonTo_8 : decode cX12_oldPersonTo 8 = .ok (.iaload, 1) := by decide +kernel
theorem dX12_oldPersonTo_9 : decode cX12_oldPersonTo 9 = .ok (.iload_n 1, 1) := by decide +kernel
theorem dX12_oldPersonTo_10 : decode cX12_oldPersonTo 10 = .ok (.invokevirtual 189, 3) := by decide +kernel
theorem dX12_oldPersonTo_13 : decode cX12_oldPersonTo 13 = .ok (.ireturn, 1) := by decide +kernel
noncomputable def fX12_oldPersonTo (rf : Nat → Nat → Nat) (a0 : Nat) (x1 : Int32) (μ0 : o_Mem) : Option (Int32 × o_Mem) :=
  o_bd (fX12_oldOne rf a0 10 (μ0.1 (rf a0 0) 2) x1 μ0) fun r1 μ1 =>
  some (r1, μ1)
set_option maxRecDepth 20000 in
theorem dnX12_oldPersonTo {X : o_Cx} (hX : o_ok X) {d : Nat} {a0 : Nat} {x1 : Int32} {μ0 : o_Mem} {q : Int32 → o_Mem → Prop} (h0 : o_is X a0 (.inl 12)) (h : o_Post (fX12_oldPersonTo (o_rf X) a0 x1 μ0) q) : o_Ev X (d + 7) mX12_oldPersonTo 0 [some (.ref (o_ad X a0)), some (.int x1)] [] μ0 (o_QZ q) := by
  unfold fX12_oldPersonTo at h
  refine s_aload_n (i := 0) dX12_oldPersonTo_0 rfl rfl ?_
  refine s_bipush dX12_oldPersonTo_1 kB_10 ?_
  refine s_aload_n (i := 0) dX12_oldPersonTo_3 rfl rfl ?_
  refine s_getR hX h0 flX12_7 rfl dX12_oldPersonTo_4 (fun (g1 : o_is X (o_rf X a0 0) (.inr (0, 3756))) => ?_)
  refine s_iconst dX12_oldPersonTo_7 kI_2 ?_
  refine s_ialdK g1 ⟨by decide, by decide⟩ kN_2 dX12_oldPersonTo_8 ?_
  refine s_iload_n (i := 1) dX12_oldPersonTo_9 rfl rfl ?_
  refine s_callVz (C := mX12_oldOne) (As := [.int 10, .int (μ0.1 (o_rf X a0 0) 2), .int x1]) (rest := []) (L0 := [some (.ref (o_ad X a0)), some (.int 10), some (.int (μ0.1 (o_rf X a0 0) 2)), some (.int x1)]) hX h0 clX12_189 dX12_oldPersonTo_10 rfl rfl (Nat.le_of_ble_eq_true rfl) (Nat.le_of_ble_eq_true rfl) (dnX12_oldOne hX h0 (o_bdp h)) (fun r1 μ1 zr1 h => ?_)
  exact s_zreturn rfl zr1 dX12_oldPersonTo_13 ⟨_, rfl, zr1, o_ret h⟩
theorem dX12_test_0 : decode cX12_test 0 = .ok (.aload_n 0, 1) := by decide +kernel
theorem dX12_test_1 : decode cX12_test 1 = .ok (.ldc 180, 2) := by decide +kernel
theorem dX12_test_3 : decode cX12_test 3 = .ok (.invokevirtual 172, 3) := by decide +kernel
theorem dX12_test_6 : decode cX12_test 6 = .ok (.istore_n 2, 1) := by decide +kernel
theorem dX12_test_7 : decode cX12_test 7 = .ok (.iload_n 2, 1) := by decide +kernel
theorem dX12_test_8 : decode cX12_test 8 = .ok (.bipush 24, 2) := by decide +kernel
theorem dX12_test_10 : decode cX12_test 10 = .ok (.if_icmp .ge 9, 3) := by decide +kernel
theorem dX12_test_13 : decode cX12_test 13 = .ok (.aload_n 0, 1) := by decide +kernel
theorem dX12_test_14 : decode cX12_test 14 = .ok (.iconst 2, 1) := by decide +kernel
theorem dX12_test_15 : decode cX12_test 15 = .ok (.invokevirtual 169, 3) := by decide +kernel
theorem dX12_test_18 : decode cX12_test 18 = .ok (.ireturn, 1) := by decide +kernel
theorem dX12_test_19 : decode cX12_test 19 = .ok (.aload_n 0, 1) := by decide +kernel
theorem dX12_test_20 : decode cX12_test 20 = .ok (.getfield 7, 3) := by decide +kernel
theorem dX12_test_23 : decode cX12_test 23 = .ok (.iload_n 1, 1) := by decide +kernel
theorem dX12_test_24 : decode cX12_test 24 = .ok (.sipush 2000, 3) := by decide +kernel
theorem dX12_test_27 : decode cX12_test 27 = .ok (.iload_n 2, 1) := by decide +kernel
theorem dX12_test_28 : decode cX12_test 28 = .ok (.iadd, 1) := by decide +kernel
theorem dX12_test_29 : decode cX12_test 29 = .ok (.iastore, 1) := by decide +kernel
theorem dX12_test_30 : decode cX12_test 30 = .ok (.aload_n 0, 1) := by decide +kernel
theorem dX12_test_31 : decode cX12_test 31 = .ok (.invokevirtual 163, 3) := by decide +kernel
theorem dX12_test_34 : decode cX12_test 34 = .ok (.iload_n 2, 1) := by decide +kernel
theorem dX12_test_35 : decode cX12_test 35 = .ok (.bipush 26, 2) := by decide +kernel
theorem dX12_test_37 : decode cX12_test 37 = .ok (.if_icmp .ne 5, 3) := by decide +kernel
theorem dX12_test_40 : decode cX12_test 40 = .ok (.iconst 1, 1) := by decide +kernel
theorem dX12_test_41 : decode cX12_test 41 = .ok (.ireturn, 1) := by decide +kernel
theorem dX12_test_42 : decode cX12_test 42 = .ok (.iload_n 2, 1) := by decide +kernel
theorem dX12_test_43 : decode cX12_test 43 = .ok (.bipush 24, 2) := by decide +kernel
theorem dX12_test_45 : decode cX12_test 45 = .ok (.if_icmp .ne 18, 3) := by decide +kernel
theorem dX12_test_48 : decode cX12_test 48 = .ok (.aload_n 0, 1) := by decide +kernel
theorem dX12_test_49 : decode cX12_test 49 = .ok (.iconst 0, 1) := by decide +kernel
theorem dX12_test_50 : decode cX12_test 50 = .ok (.aload_n 0, 1) := by decide +kernel
theorem dX12_test_51 : decode cX12_test 51 = .ok (.getfield 7, 3) := by decide +kernel
theorem dX12_test_54 : decode cX12_test 54 = .ok (.iconst 0, 1) := by decide +kernel
theorem dX12_test_55 : decode cX12_test 55 = .ok (.iaload, 1) := by decide +kernel
theorem dX12_test_56 : decode cX12_test 56 = .ok (.iload_n 1, 1) := by decide +kernel
theorem dX12_test_57 : decode cX12_test 57 = .ok (.iconst 1, 1) := by decide +kernel
theorem dX12_test_58 : decode cX12_test 58 = .ok (.iadd, 1) := by decide +kernel
theorem dX12_test_59 : decode cX12_test 59 = .ok (.invokevirtual 189, 3) := by decide +kernel
theorem dX12_test_62 : decode cX12_test 62 = .ok (.ireturn, 1) := by decide +kernel
theorem dX12_test_63 : decode cX12_test 63 = .ok (.aload_n 0, 1) := by decide +kernel
theorem dX12_test_64 : decode cX12_test 64 = .ok (.bipush 60, 2) := by decide +kernel
theorem dX12_test_66 : decode cX12_test 66 = .ok (.invokevirtual 166, 3) := by decide +kernel
theorem dX12_test_69 : decode cX12_test 69 = .ok (.ifCond .ne 27, 3) := by decide +kernel
theorem dX12_test_72 : decode cX12_test 72 = .ok (.aload_n 0, 1) := by decide +kernel
theorem dX12_test_73 : decode cX12_test 73 = .ok (.bipush 62, 2) := by decide +kernel
theorem dX12_test_75 : decode cX12_test 75 = .ok (.invokevirtual 166, 3) := by decide +kernel
theorem dX12_test_78 : decode cX12_test 78 = .ok (.ifCond .ne 18, 3) := by decide +kernel
theorem dX12_test_81 : decode cX12_test 81 = .ok (.aload_n 0, 1) := by decide +kernel
theorem dX12_test_82 : decode cX12_test 82 = .ok (.bipush 61, 2) := by decide +kernel
theorem dX12_test_84 : decode cX12_test 84 = .ok (.invokevirtual 166, 3) := by decide +kernel
theorem dX12_test_87 : decode cX12_test 87 = .ok (.ifCond .ne 9, 3) := by decide +kernel
theorem dX12_test_90 : decode cX12_test 90 = .ok (.aload_n 0, 1) := by decide +kernel
theorem dX12_test_91 : decode cX12_test 91 = .ok (.iconst 2, 1) := by decide +kernel
theorem dX12_test_92 : decode cX12_test 92 = .ok (.invokevirtual 169, 3) := by decide +kernel
theorem dX12_test_95 : decode cX12_test 95 = .ok (.ireturn, 1) := by decide +kernel
theorem dX12_test_96 : decode cX12_test 96 = .ok (.aload_n 0, 1) := by decide +kernel
theorem dX12_test_97 : decode cX12_test 97 = .ok (.getfield 7, 3) := by decide +kernel
theorem dX12_test_100 : decode cX12_test 100 = .ok (.iload_n 1, 1) := by decide +kernel
theorem dX12_test_101 : decode cX12_test 101 = .ok (.iconst 5, 1) := by decide +kernel
theorem dX12_test_102 : decode cX12_test 102 = .ok (.iadd, 1) := by decide +kernel
theorem dX12_test_103 : decode cX12_test 103 = .ok (.aload_n 0, 1) := by decide +kernel
theorem dX12_test_104 : decode cX12_test 104 = .ok (.getfield 129, 3) := by decide +kernel
theorem dX12_test_107 : decode cX12_test 107 = .ok (.iastore, 1) := by decide +kernel
theorem dX12_test_108 : decode cX12_test 108 = .ok (.aload_n 0, 1) := by decide +kernel
theorem dX12_test_109 : decode cX12_test 109 = .ok (.invokevirtual 163, 3) := by decide +kernel
theorem dX12_test_112 : decode cX12_test 112 = .ok (.aload_n 0, 1) := by decide +kernel
theorem dX12_test_113 : decode cX12_test 113 = .ok (.iload_n 1, 1) := by decide +kernel
theorem dX12_test_114 : decode cX12_test 114 = .ok (.iconst 2, 1) := by decide +kernel
theorem dX12_test_115 : decode cX12_test 115 = .ok (.iadd, 1) := by decide +kernel
theorem dX12_test_116 : decode cX12_test 116 = .ok (.iconst 0, 1) := by decide +kernel
theorem dX12_test_117 : decode cX12_test 117 = .ok (.bipush 99, 2) := by decide +kernel
theorem dX12_test_119 : decode cX12_test 119 = .ok (.invokevirtual 202, 3) := by decide +kernel
theorem dX12_test_122 : decode cX12_test 122 = .ok (.ireturn, 1) := by decide +kernel
noncomputable def fX12_test_j96 (rf : Nat → Nat → Nat) (a0 : Nat) (x1 : Int32) (μ0 : o_Mem) : Option (Int32 × o_Mem) :=
  o_ck (0 ≤ ((x1 + 5)).toInt ∧ ((x1 + 5)).toInt < 3756) <|
  o_seq (o_wI μ0 (rf a0 0) (((x1 + 5)).toNatClampNeg) (μ0.1 a0 15)) fun μ1 =>
  o_bd (fX12_ahead rf a0 μ1) fun _u μ2 =>
  o_bd (fX12_number rf a0 (x1 + 2) 0 99 μ2) fun r1 μ3 =>
  some (r1, μ3)
noncomputable def fX12_test (rf : Nat → Nat → Nat) (a0 : Nat) (x1 : Int32) (μ0 : o_Mem) : Option (Int32 × o_Mem) :=
  o_bd (fX12_inWords rf a0 μ0) fun r1 μ1 =>
  if 24 ≤ r1 then (
    o_ck (0 ≤ (x1).toInt ∧ (x1).toInt < 3756) <|
    o_seq (o_wI μ1 (rf a0 0) x1.toNatClampNeg (2000 + r1)) fun μ2 =>
    o_bd (fX12_ahead rf a0 μ2) fun _u μ3 =>
    if r1 = 26 then (
      some (1, μ3))
    else (
      if r1 = 24 then (
        o_bd (fX12_oldOne rf a0 0 (μ3.1 (rf a0 0) 0) (x1 + 1) μ3) fun r6 μ8 =>
        some (r6, μ8))
      else (
        o_bd (fX12_isSign rf a0 60 μ3) fun r2 μ4 =>
        if r2 = 0 then (
          o_bd (fX12_isSign rf a0 62 μ4) fun r3 μ5 =>
          if r3 = 0 then (
            o_bd (fX12_isSign rf a0 61 μ5) fun r4 μ6 =>
            if r4 = 0 then (
              o_bd (fX12_fails rf a0 2 μ6) fun r5 μ7 =>
              some (r5, μ7))
            else (
              fX12_test_j96 rf a0 x1 μ6))
          else (
            fX12_test_j96 rf a0 x1 μ5))
        else (
          fX12_test_j96 rf a0 x1 μ4))))
  else (
    o_bd (fX12_fails rf a0 2 μ1) fun r7 μ9 =>
    some (r7, μ9))
set_option maxRecDepth 20000 in
theorem dnX12_test_j96 {X : o_Cx} (hX : o_ok X) {d : Nat} {a0 : Nat} {x1 : Int32} {μ0 : o_Mem} {q : Int32 → o_Mem → Prop} (h0 : o_is X a0 (.inl 12)) (h : o_Post (fX12_test_j96 (o_rf X) a0 x1 μ0) q) : o_Ev X (d + 7) mX12_test 96 [some (.ref (o_ad X a0)), some (.int x1), none] [] μ0 (o_QZ q) := by
  unfold fX12_test_j96 at h
  refine s_aload_n (i := 0) dX12_test_96 rfl rfl ?_
  refine s_getR hX h0 flX12_7 rfl dX12_test_97 (fun (g1 : o_is X (o_rf X a0 0) (.inr (0, 3756))) => ?_)
  refine s_iload_n (i := 1) dX12_test_100 rfl rfl ?_
  refine s_iconst dX12_test_101 kI_5 ?_
  refine s_iadd dX12_test_102 ?_
  refine s_aload_n (i := 0) dX12_test_103 rfl rfl ?_
  refine s_getI h0 flX12_129 rfl dX12_test_104 ?_
  have hc := o_ck_c h
  have h := o_ck_k h
  refine s_iastK hX g1 hc rfl dX12_test_107 (o_gen h (fun μ1 h => ?_))
  refine s_aload_n (i := 0) dX12_test_108 rfl rfl ?_
  refine s_callVu (C := mX12_ahead) (As := []) (rest := []) (L0 := [some (.ref (o_ad X a0)), none]) hX h0 clX12_163 dX12_test_109 rfl rfl (Nat.le_of_ble_eq_true rfl) (Nat.le_of_ble_eq_true rfl) (dnX12_ahead hX h0 (o_bdp h)) (fun _u μ2 h => ?_)
  refine s_aload_n (i := 0) dX12_test_112 rfl rfl ?_
  refine s_iload_n (i := 1) dX12_test_113 rfl rfl ?_
  refine s_iconst dX12_test_114 kI_2 ?_
  refine s_iadd dX12_test_115 ?_
  refine s_iconst dX12_test_116 kI_0 ?_
  refine s_bipush dX12_test_117 kB_99 ?_
  refine s_callVz (C := mX12_number) (As := [.int (x1 + 2), .int 0, .int 99]) (rest := []) (L0 := [some (.ref (o_ad X a0)), some (.int (x1 + 2)), some (.int 0), some (.int 99)]) hX h0 clX12_202 dX12_test_119 rfl rfl (Nat.le_of_ble_eq_true rfl) (Nat.le_of_ble_eq_true rfl) (dnX12_number hX h0 (o_bdp h)) (fun r1 μ3 zr1 h => ?_)
  exact s_zreturn rfl zr1 dX12_test_122 ⟨_, rfl, zr1, o_ret h⟩
set_option maxRecDepth 20000 in
theorem dnX12_test {X : o_Cx} (hX : o_ok X) {d : Nat} {a0 : Nat} {x1 : Int32} {μ0 : o_Mem} {q : Int32 → o_Mem → Prop} (h0 : o_is X a0 (.inl 12)) (h : o_Post (fX12_test (o_rf X) a0 x1 μ0) q) : o_Ev X (d + 7) mX12_test 0 [some (.ref (o_ad X a0)), some (.int x1), none] [] μ0 (o_QZ q) := by
  unfold fX12_test at h
  refine s_aload_n (i := 0) dX12_test_0 rfl rfl ?_
  refine s_ldcS1 rfl dX12_test_1 ?_
  refine s_callVi (C := mX12_inWords) (As := [.ref (o_aK X 1)]) (rest := []) (L0 := [some (.ref (o_ad X a0)), some (.ref (o_aK X 1)), none, none, none, none, none]) hX h0 clX12_172 dX12_test_3 rfl rfl (Nat.le_of_ble_eq_true rfl) (Nat.le_of_ble_eq_true rfl) (dnX12_inWords hX h0 (o_bdp h)) (fun r1 μ1 h => ?_)
  refine s_istore_n (i := 2) dX12_test_6 rfl (Nat.le_of_ble_eq_true rfl) rfl ?_
  refine s_iload_n (i := 2) dX12_test_7 rfl rfl ?_
  refine s_bipush dX12_test_8 kB_24 ?_
  refine s_icmp_ge (tgt := 19) dX12_test_10 rfl (fun c1 => ?_) (fun c1 => ?_)
  · have h := o_if_t c1 h
    refine s_aload_n (i := 0) dX12_test_19 rfl rfl ?_
    refine s_getR hX h0 flX12_7 rfl dX12_test_20 (fun (g1 : o_is X (o_rf X a0 0) (.inr (0, 3756))) => ?_)
    refine s_iload_n (i := 1) dX12_test_23 rfl rfl ?_
    refine s_sipush dX12_test_24 kS_2000 ?_
    refine s_iload_n (i := 2) dX12_test_27 rfl rfl ?_
    refine s_iadd dX12_test_28 ?_
    have hc := o_ck_c h
    have h := o_ck_k h
    refine s_iastK hX g1 hc rfl dX12_test_29 (o_gen h (fun μ2 h => ?_))
    refine s_aload_n (i := 0) dX12_test_30 rfl rfl ?_
    refine s_callVu (C := mX12_ahead) (As := []) (rest := []) (L0 := [some (.ref (o_ad X a0)), none]) hX h0 clX12_163 dX12_test_31 rfl rfl (Nat.le_of_ble_eq_true rfl) (Nat.le_of_ble_eq_true rfl) (dnX12_ahead hX h0 (o_bdp h)) (fun _u μ3 h => ?_)
    refine s_iload_n (i := 2) dX12_test_34 rfl rfl ?_
    refine s_bipush dX12_test_35 kB_26 ?_
    refine s_icmp_ne (tgt := 42) dX12_test_37 rfl (fun c1 => ?_) (fun c1 => ?_)
    · have h := o_if_f c1 h
      refine s_iload_n (i := 2) dX12_test_42 rfl rfl ?_
      refine s_bipush dX12_test_43 kB_24 ?_
      refine s_icmp_ne (tgt := 63) dX12_test_45 rfl (fun c1 => ?_) (fun c1 => ?_)
      · have h := o_if_f c1 h
        refine s_aload_n (i := 0) dX12_test_63 rfl rfl ?_
        refine s_bipush dX12_test_64 kB_60 ?_
        refine s_callVz (C := mX12_isSign) (As := [.int 60]) (rest := []) (L0 := [some (.ref (o_ad X a0)), some (.int 60)]) hX h0 clX12_166 dX12_test_66 rfl rfl (Nat.le_of_ble_eq_true rfl) (Nat.le_of_ble_eq_true rfl) (dnX12_isSign hX h0 (o_bdp h)) (fun r2 μ4 zr2 h => ?_)
        refine s_if_ne (tgt := 96) dX12_test_69 rfl (fun c1 => ?_) (fun c1 => ?_)
        · have h := o_if_f c1 h
          refine s_mask [true, true, false] (L' := [some (.ref (o_ad X a0)), some (.int x1), none]) rfl ?_
          exact dnX12_test_j96 hX h0 h
        · have h := o_if_t c1 h
          refine s_aload_n (i := 0) dX12_test_72 rfl rfl ?_
          refine s_bipush dX12_test_73 kB_62 ?_
          refine s_callVz (C := mX12_isSign) (As := [.int 62]) (rest := []) (L0 := [some (.ref (o_ad X a0)), some (.int 62)]) hX h0 clX12_166 dX12_test_75 rfl rfl (Nat.le_of_ble_eq_true rfl) (Nat.le_of_ble_eq_true rfl) (dnX12_isSign hX h0 (o_bdp h)) (fun r3 μ5 zr3 h => ?_)
          refine s_if_ne (tgt := 96) dX12_test_78 rfl (fun c1 => ?_) (fun c1 => ?_)
          · have h := o_if_f c1 h
            refine s_mask [true, true, false] (L' := [some (.ref (o_ad X a0)), some (.int x1), none]) rfl ?_
            exact dnX12_test_j96 hX h0 h
          · have h := o_if_t c1 h
            refine s_aload_n (i := 0) dX12_test_81 rfl rfl ?_
            refine s_bipush dX12_test_82 kB_61 ?_
            refine s_callVz (C := mX12_isSign) (As := [.int 61]) (rest := []) (L0 := [some (.ref (o_ad X a0)), some (.int 61)]) hX h0 clX12_166 dX12_test_84 rfl rfl (Nat.le_of_ble_eq_true rfl) (Nat.le_of_ble_eq_true rfl) (dnX12_isSign hX h0 (o_bdp h)) (fun r4 μ6 zr4 h => ?_)
            refine s_if_ne (tgt := 96) dX12_test_87 rfl (fun c1 => ?_) (fun c1 => ?_)
            · have h := o_if_f c1 h
              refine s_mask [true, true, false] (L' := [some (.ref (o_ad X a0)), some (.int x1), none]) rfl ?_
              exact dnX12_test_j96 hX h0 h
            · have h := o_if_t c1 h
              refine s_aload_n (i := 0) dX12_test_90 rfl rfl ?_
              refine s_iconst dX12_test_91 kI_2 ?_
              refine s_callVz (C := mX12_fails) (As := [.int 2]) (rest := []) (L0 := [some (.ref (o_ad X a0)), some (.int 2)]) hX h0 clX12_169 dX12_test_92 rfl rfl (Nat.le_of_ble_eq_true rfl) (Nat.le_of_ble_eq_true rfl) (dnX12_fails hX h0 (o_bdp h)) (fun r5 μ7 zr5 h => ?_)
              exact s_zreturn rfl zr5 dX12_test_95 ⟨_, rfl, zr5, o_ret h⟩
      · have h := o_if_t c1 h
        refine s_aload_n (i := 0) dX12_test_48 rfl rfl ?_
        refine s_iconst dX12_test_49 kI_0 ?_
        refine s_aload_n (i := 0) dX12_test_50 rfl rfl ?_
        refine s_getR hX h0 flX12_7 rfl dX12_test_51 (fun (g2 : o_is X (o_rf X a0 0) (.inr (0, 3756))) => ?_)
        refine s_iconst dX12_test_54 kI_0 ?_
        refine s_ialdK g2 ⟨by decide, by decide⟩ kN_0 dX12_test_55 ?_
        refine s_iload_n (i := 1) dX12_test_56 rfl rfl ?_
        refine s_iconst dX12_test_57 kI_1 ?_
        refine s_iadd dX12_test_58 ?_
        refine s_callVz (C := mX12_oldOne) (As := [.int 0, .int (μ3.1 (o_rf X a0 0) 0), .int (x1 + 1)]) (rest := []) (L0 := [some (.ref (o_ad X a0)), some (.int 0), some (.int (μ3.1 (o_rf X a0 0) 0)), some (.int (x1 + 1))]) hX h0 clX12_189 dX12_test_59 rfl rfl (Nat.le_of_ble_eq_true rfl) (Nat.le_of_ble_eq_true rfl) (dnX12_oldOne hX h0 (o_bdp h)) (fun r6 μ8 zr6 h => ?_)
        exact s_zreturn rfl zr6 dX12_test_62 ⟨_, rfl, zr6, o_ret h⟩
    · have h := o_if_t c1 h
      refine s_iconst dX12_test_40 kI_1 ?_
      exact s_zreturn rfl (Or.inr rfl) dX12_test_41 ⟨_, rfl, (Or.inr rfl), o_ret h⟩
  · have h := o_if_f c1 h
    refine s_aload_n (i := 0) dX12_test_13 rfl rfl ?_
    refine s_iconst dX12_test_14 kI_2 ?_
    refine s_callVz (C := mX12_fails) (As := [.int 2]) (rest := []) (L0 := [some (.ref (o_ad X a0)), some (.int 2)]) hX h0 clX12_169 dX12_test_15 rfl rfl (Nat.le_of_ble_eq_true rfl) (Nat.le_of_ble_eq_true rfl) (dnX12_fails hX h0 (o_bdp h)) (fun r7 μ9 zr7 h => ?_)
    exact s_zreturn rfl zr7 dX12_test_18 ⟨_, rfl, zr7, o_ret h⟩
theorem dX12_weekOrder_0 : decode cX12_weekOrder 0 = .ok (.iload_n 1, 1) := by decide +kernel
theorem dX12_weekOrder_1 : decode cX12_weekOrder 1 = .ok (.tableswitch 150 15 21 #[43, 65, 150, 150, 150, 144, 54], 43) := by decide +kernel
theorem dX12_weekOrder_44 : decode cX12_weekOrder 44 = .ok (.aload_n 0, 1) := by decide +kernel
theorem dX12_weekOrder_45 : decode cX12_weekOrder 45 = .ok (.iload_n 2, 1) := by decide +kernel
theorem dX12_weekOrder_46 : decode cX12_weekOrder 46 = .ok (.iconst 1, 1) := by decide +kernel
theorem dX12_weekOrder_47 : decode cX12_weekOrder 47 = .ok (.iadd, 1) := by decide +kernel
theorem dX12_weekOrder_48 : decode cX12_weekOrder 48 = .ok (.iconst 1, 1) := by decide +kernel
theorem dX12_weekOrder_49 : decode cX12_weekOrder 49 = .ok (.bipush 20, 2) := by decide +kernel
theorem dX12_weekOrder_51 : decode cX12_weekOrder 51 = .ok (.invokevirtual 202, 3) := by decide +kernel
theorem dX12_weekOrder_54 : decode cX12_weekOrder 54 = .ok (.ireturn, 1) := by decide +kernel
theorem dX12_weekOrder_55 : decode cX12_weekOrder 55 = .ok (.aload_n 0, 1) := by decide +kernel
theorem dX12_weekOrder_56 : decode cX12_weekOrder 56 = .ok (.iload_n 2, 1) := by decide +kernel
theorem dX12_weekOrder_57 : decode cX12_weekOrder 57 = .ok (.iconst 1, 1) := by decide +kernel
theorem dX12_weekOrder_58 : decode cX12_weekOrder 58 = .ok (.iadd, 1) := by decide +kernel
theorem dX12_weekOrder_59 : decode cX12_weekOrder 59 = .ok (.iconst 1, 1) := by decide +kernel
theorem dX12_weekOrder_60 : decode cX12_weekOrder 60 = .ok (.bipush 99, 2) := by decide +kernel
theorem dX12_weekOrder_62 : decode cX12_weekOrder 62 = .ok (.invokevirtual 202, 3) := by decide +kernel
theorem dX12_weekOrder_65 : decode cX12_weekOrder 65 = .ok (.ireturn, 1) := by decide +kernel
theorem dX12_weekOrder_66 : decode cX12_weekOrder 66 = .ok (.aload_n 0, 1) := by decide +kernel
theorem dX12_weekOrder_67 : decode cX12_weekOrder 67 = .ok (.iload_n 2, 1) := by decide +kernel
theorem dX12_weekOrder_68 : decode cX12_weekOrder 68 = .ok (.iconst 1, 1) := by decide +kernel
theorem dX12_weekOrder_69 : decode cX12_weekOrder 69 = .ok (.iadd, 1) := by decide +kernel
theorem dX12_weekOrder_70 : decode cX12_weekOrder 70 = .ok (.invokevirtual 251, 3) := by decide +kernel
theorem dX12_weekOrder_73 : decode cX12_weekOrder 73 = .ok (.ifCond .ne 5, 3) := by decide +kernel
theorem dX12_weekOrder_76 : decode cX12_weekOrder 76 = .ok (.iconst 0, 1) := by decide +kernel
theorem dX12_weekOrder_77 : decode cX12_weekOrder 77 = .ok (.ireturn, 1) := by decide +kernel
theorem dX12_weekOrder_78 : decode cX12_weekOrder 78 = .ok (.aload_n 0, 1) := by decide +kernel
theorem dX12_weekOrder_79 : decode cX12_weekOrder 79 = .ok (.ldc 180, 2) := by decide +kernel
theorem dX12_weekOrder_81 : decode cX12_weekOrder 81 = .ok (.invokevirtual 182, 3) := by decide +kernel
theorem dX12_weekOrder_84 : decode cX12_weekOrder 84 = .ok (.ifCond .eq 32, 3) := by decide +kernel
theorem dX12_weekOrder_87 : decode cX12_weekOrder 87 = .ok (.aload_n 0, 1) := by decide +kernel
theorem dX12_weekOrder_88 : decode cX12_weekOrder 88 = .ok (.bipush 10, 2) := by decide +kernel
theorem dX12_weekOrder_90 : decode cX12_weekOrder 90 = .ok (.aload_n 0, 1) := by decide +kernel
theorem dX12_weekOrder_91 : decode cX12_weekOrder 91 = .ok (.getfield 7, 3) := by decide +kernel
theorem dX12_weekOrder_94 : decode cX12_weekOrder 94 = .ok (.iconst 2, 1) := by decide +kernel
theorem dX12_weekOrder_95 : decode cX12_weekOrder 95 = .ok (.iaload, 1) := by decide +kernel
theorem dX12_weekOrder_96 : decode cX12_weekOrder 96 = .ok (.invokevirtual 186, 3) := by decide +kernel
theorem dX12_weekOrder_99 : decode cX12_weekOrder 99 = .ok (.aload_n 0, 1) := by decide +kernel
theorem dX12_weekOrder_100 : decode cX12_weekOrder 100 = .ok (.getfield 7, 3) := by decide +kernel
theorem dX12_weekOrder_103 : decode cX12_weekOrder 103 = .ok (.iload_n 2, 1) := by decide +kernel
theorem dX12_weekOrder_104 : decode cX12_weekOrder 104 = .ok (.iconst 1, 1) := by decide +kernel
theorem dX12_weekOrder_105 : decode cX12_weekOrder 105 = .ok (.iadd, 1) := by decide +kernel
theorem dX12_weekOrder_106 : decode cX12_weekOrder 106 = .ok (.iaload, 1) := by decide +kernel
theorem dX12_weekOrder_107 : decode cX12_weekOrder 107 = .ok (.if_icmp .ne 9, 3) := by decide +kernel
theorem dX12_weekOrder_110 : decode cX12_weekOrder 110 = .ok (.aload_n 0, 1) := by decide +kernel
theorem dX12_weekOrder_111 : decode cX12_weekOrder 111 = .ok (.iconst 5, 1) := by decide +kernel
theorem dX12_weekOrder_112 : decode cX12_weekOrder 112 = .ok (.invokevirtual 169, 3) := by decide +kernel
theorem dX12_weekOrder_115 : decode cX12_weekOrder 115 = .ok (.ireturn, 1) := by decide +kernel
theorem dX12_weekOrder_116 : decode cX12_weekOrder 116 = .ok (.aload_n 0, 1) := by decide +kernel
theorem dX12_weekOrder_117 : decode cX12_weekOrder 117 = .ok (.iload_n 2, 1) := by decide +kernel
theorem dX12_weekOrder_118 : decode cX12_weekOrder 118 = .ok (.iconst 2, 1) := by decide +kernel
theorem dX12_weekOrder_119 : decode cX12_weekOrder 119 = .ok (.iadd, 1) := by decide +kernel
theorem dX12_weekOrder_120 : decode cX12_weekOrder 120 = .ok (.invokevirtual 251, 3) := by decide +kernel
theorem dX12_weekOrder_123 : decode cX12_weekOrder 123 = .ok (.ifCond .eq 20, 3) := by decide +kernel
theorem dX12_weekOrder_126 : decode cX12_weekOrder 126 = .ok (.aload_n 0, 1) := by decide +kernel
theorem dX12_weekOrder_127 : decode cX12_weekOrder 127 = .ok (.iload_n 2, 1) := by decide +kernel
theorem dX12_weekOrder_128 : decode cX12_weekOrder 128 = .ok (.iconst 3, 1) := by decide +kernel
theorem dX12_weekOrder_129 : decode cX12_weekOrder 129 = .ok (.iadd, 1) := by decide +kernel
theorem dX12_weekOrder_130 : decode cX12_weekOrder 130 = .ok (.iconst 1, 1) := by decide +kernel
theorem dX12_weekOrder_131 : decode cX12_weekOrder 131 = .ok (.bipush 99, 2) := by decide +kernel
theorem dX12_weekOrder_133 : decode cX12_weekOrder 133 = .ok (.invokevirtual 202, 3) := by decide +kernel
theorem dX12_weekOrder_136 : decode cX12_weekOrder 136 = .ok (.ifCond .eq 7, 3) := by decide +kernel
theorem dX12_weekOrder_139 : decode cX12_weekOrder 139 = .ok (.iconst 1, 1) := by decide +kernel
theorem dX12_weekOrder_140 : decode cX12_weekOrder 140 = .ok (.goto 4, 3) := by decide +kernel
theorem dX12_weekOrder_143 : decode cX12_weekOrder 143 = .ok (.iconst 0, 1) := by decide +kernel
theorem dX12_weekOrder_144 : decode cX12_weekOrder 144 = .ok (.ireturn, 1) := by decide +kernel
theorem dX12_weekOrder_145 : decode cX12_weekOrder 145 = .ok (.aload_n 0, 1) := by decide +kernel
theorem dX12_weekOrder_146 : decode cX12_weekOrder 146 = .ok (.iload_n 2, 1) := by decide +kernel
theorem dX12_weekOrder_147 : decode cX12_weekOrder 147 = .ok (.invokevirtual 254, 3) := by decide +kernel
theorem dX12_weekOrder_150 : decode cX12_weekOrder 150 = .ok (.ireturn, 1) := by decide +kernel
theorem dX12_weekOrder_151 : decode cX12_weekOrder 151 = .ok (.iconst 1, 1) := by decide +kernel
theorem dX12_weekOrder_152 : decode cX12_weekOrder 152 = .ok (.ireturn, 1) := by decide +kernel
noncomputable def fX12_weekOrder_j116 (rf : Nat → Nat → Nat) (a0 : Nat) (x2 : Int32) (μ0 : o_Mem) : Option (Int32 × o_Mem) :=
  o_bd (fX12_oldPersonTo rf a0 (x2 + 2) μ0) fun r1 μ1 =>
  if r1 = 0 then (
    some (0, μ1))
  else (
    o_bd (fX12_number rf a0 (x2 + 3) 1 99 μ1) fun r2 μ2 =>
    if r2 = 0 then (
      some (0, μ2))
    else (
      some (1, μ2)))
noncomputable def fX12_weekOrder (rf : Nat → Nat → Nat) (a0 : Nat) (x1 : Int32) (x2 : Int32) (μ0 : o_Mem) : Option (Int32 × o_Mem) :=
  if x1 = 15 then (
    o_bd (fX12_number rf a0 (x2 + 1) 1 20 μ0) fun r1 μ1 =>
    some (r1, μ1))
  else
  if x1 = 16 then (
    o_bd (fX12_oldPersonTo rf a0 (x2 + 1) μ0) fun r2 μ2 =>
    if r2 = 0 then (
      some (0, μ2))
    else (
      o_bd (fX12_isName rf a0 μ2) fun r3 μ3 =>
      if r3 = 0 then (
        fX12_weekOrder_j116 rf a0 x2 μ3)
      else (
        o_bd (fX12_findHere rf a0 10 (μ3.1 (rf a0 0) 2) μ3) fun r4 μ4 =>
        o_ck (0 ≤ ((x2 + 1)).toInt ∧ ((x2 + 1)).toInt < 3756) <|
        if r4 = (μ4.1 (rf a0 0) ((x2 + 1)).toNatClampNeg) then (
          o_bd (fX12_fails rf a0 5 μ4) fun r5 μ5 =>
          some (r5, μ5))
        else (
          fX12_weekOrder_j116 rf a0 x2 μ4))))
  else
  if x1 = 20 then (
    o_bd (fX12_test rf a0 x2 μ0) fun r6 μ6 =>
    some (r6, μ6))
  else
  if x1 = 21 then (
    o_bd (fX12_number rf a0 (x2 + 1) 1 99 μ0) fun r7 μ7 =>
    some (r7, μ7))
  else
    some (1, μ0)
set_option maxRecDepth 20000 in
theorem dnX12_weekOrder_j116 {X : o_Cx} (hX : o_ok X) {d : Nat} {a0 : Nat} {x2 : Int32} {μ0 : o_Mem} {q : Int32 → o_Mem → Prop} (h0 : o_is X a0 (.inl 12)) (h : o_Post (fX12_weekOrder_j116 (o_rf X) a0 x2 μ0) q) : o_Ev X (d + 8) mX12_weekOrder 116 [some (.ref (o_ad X a0)), none, some (.int x2)] [] μ0 (o_QZ q) := by
  unfold fX12_weekOrder_j116 at h
  refine s_aload_n (i := 0) dX12_weekOrder_116 rfl rfl ?_
  refine s_iload_n (i := 2) dX12_weekOrder_117 rfl rfl ?_
  refine s_iconst dX12_weekOrder_118 kI_2 ?_
  refine s_iadd dX12_weekOrder_119 ?_
  refine s_callVz (C := mX12_oldPersonTo) (As := [.int (x2 + 2)]) (rest := []) (L0 := [some (.ref (o_ad X a0)), some (.int (x2 + 2))]) hX h0 clX12_251 dX12_weekOrder_120 rfl rfl (Nat.le_of_ble_eq_true rfl) (Nat.le_of_ble_eq_true rfl) (dnX12_oldPersonTo hX h0 (o_bdp h)) (fun r1 μ1 zr1 h => ?_)
  refine s_if_eq (tgt := 143) dX12_weekOrder_123 rfl (fun c1 => ?_) (fun c1 => ?_)
  · have h := o_if_t c1 h
    refine s_iconst dX12_weekOrder_143 kI_0 ?_
    exact s_zreturn rfl (Or.inl rfl) dX12_weekOrder_144 ⟨_, rfl, (Or.inl rfl), o_ret h⟩
  · have h := o_if_f c1 h
    refine s_aload_n (i := 0) dX12_weekOrder_126 rfl rfl ?_
    refine s_iload_n (i := 2) dX12_weekOrder_127 rfl rfl ?_
    refine s_iconst dX12_weekOrder_128 kI_3 ?_
    refine s_iadd dX12_weekOrder_129 ?_
    refine s_iconst dX12_weekOrder_130 kI_1 ?_
    refine s_bipush dX12_weekOrder_131 kB_99 ?_
    refine s_callVz (C := mX12_number) (As := [.int (x2 + 3), .int 1, .int 99]) (rest := []) (L0 := [some (.ref (o_ad X a0)), some (.int (x2 + 3)), some (.int 1), some (.int 99)]) hX h0 clX12_202 dX12_weekOrder_133 rfl rfl (Nat.le_of_ble_eq_true rfl) (Nat.le_of_ble_eq_true rfl) (dnX12_number hX h0 (o_bdp h)) (fun r2 μ2 zr2 h => ?_)
    refine s_if_eq (tgt := 143) dX12_weekOrder_136 rfl (fun c1 => ?_) (fun c1 => ?_)
    · have h := o_if_t c1 h
      refine s_iconst dX12_weekOrder_143 kI_0 ?_
      exact s_zreturn rfl (Or.inl rfl) dX12_weekOrder_144 ⟨_, rfl, (Or.inl rfl), o_ret h⟩
    · have h := o_if_f c1 h
      refine s_iconst dX12_weekOrder_139 kI_1 ?_
      refine s_goto (tgt := 144) dX12_weekOrder_140 rfl ?_
      exact s_zreturn rfl (Or.inr rfl) dX12_weekOrder_144 ⟨_, rfl, (Or.inr rfl), o_ret h⟩
set_option maxRecDepth 20000 in
theorem dnX12_weekOrder {X : o_Cx} (hX : o_ok X) {d : Nat} {a0 : Nat} {x1 : Int32} {x2 : Int32} {μ0 : o_Mem} {q : Int32 → o_Mem → Prop} (h0 : o_is X a0 (.inl 12)) (h : o_Post (fX12_weekOrder (o_rf X) a0 x1 x2 μ0) q) : o_Ev X (d + 8) mX12_weekOrder 0 [some (.ref (o_ad X a0)), some (.int x1), some (.int x2)] [] μ0 (o_QZ q) := by
  unfold fX12_weekOrder at h
  refine s_iload_n (i := 1) dX12_weekOrder_0 rfl rfl ?_
  by_cases e15 : x1 = 15
  · have h := o_if_t e15 h
    refine s_table (off := 43) (tgt := 44) dX12_weekOrder_1 rfl (by rw [e15]; decide) rfl ?_
    refine s_aload_n (i := 0) dX12_weekOrder_44 rfl rfl ?_
    refine s_iload_n (i := 2) dX12_weekOrder_45 rfl rfl ?_
    refine s_iconst dX12_weekOrder_46 kI_1 ?_
    refine s_iadd dX12_weekOrder_47 ?_
    refine s_iconst dX12_weekOrder_48 kI_1 ?_
    refine s_bipush dX12_weekOrder_49 kB_20 ?_
    refine s_callVz (C := mX12_number) (As := [.int (x2 + 1), .int 1, .int 20]) (rest := []) (L0 := [some (.ref (o_ad X a0)), some (.int (x2 + 1)), some (.int 1), some (.int 20)]) hX h0 clX12_202 dX12_weekOrder_51 rfl rfl (Nat.le_of_ble_eq_true rfl) (Nat.le_of_ble_eq_true rfl) (dnX12_number hX h0 (o_bdp h)) (fun r1 μ1 zr1 h => ?_)
    exact s_zreturn rfl zr1 dX12_weekOrder_54 ⟨_, rfl, zr1, o_ret h⟩
  have h := o_if_f e15 h
  by_cases e16 : x1 = 16
  · have h := o_if_t e16 h
    refine s_table (off := 65) (tgt := 66) dX12_weekOrder_1 rfl (by rw [e16]; decide) rfl ?_
    refine s_aload_n (i := 0) dX12_weekOrder_66 rfl rfl ?_
    refine s_iload_n (i := 2) dX12_weekOrder_67 rfl rfl ?_
    refine s_iconst dX12_weekOrder_68 kI_1 ?_
    refine s_iadd dX12_weekOrder_69 ?_
    refine s_callVz (C := mX12_oldPersonTo) (As := [.int (x2 + 1)]) (rest := []) (L0 := [some (.ref (o_ad X a0)), some (.int (x2 + 1))]) hX h0 clX12_251 dX12_weekOrder_70 rfl rfl (Nat.le_of_ble_eq_true rfl) (Nat.le_of_ble_eq_true rfl) (dnX12_oldPersonTo hX h0 (o_bdp h)) (fun r2 μ2 zr2 h => ?_)
    refine s_if_ne (tgt := 78) dX12_weekOrder_73 rfl (fun c1 => ?_) (fun c1 => ?_)
    · have h := o_if_f c1 h
      refine s_aload_n (i := 0) dX12_weekOrder_78 rfl rfl ?_
      refine s_ldcS1 rfl dX12_weekOrder_79 ?_
      refine s_callVz (C := mX12_isName) (As := [.ref (o_aK X 1)]) (rest := []) (L0 := [some (.ref (o_ad X a0)), some (.ref (o_aK X 1))]) hX h0 clX12_182 dX12_weekOrder_81 rfl rfl (Nat.le_of_ble_eq_true rfl) (Nat.le_of_ble_eq_true rfl) (dnX12_isName hX h0 (o_bdp h)) (fun r3 μ3 zr3 h => ?_)
      refine s_if_eq (tgt := 116) dX12_weekOrder_84 rfl (fun c1 => ?_) (fun c1 => ?_)
      · have h := o_if_t c1 h
        refine s_mask [true, false, true] (L' := [some (.ref (o_ad X a0)), none, some (.int x2)]) rfl ?_
        exact dnX12_weekOrder_j116 hX h0 h
      · have h := o_if_f c1 h
        refine s_aload_n (i := 0) dX12_weekOrder_87 rfl rfl ?_
        refine s_bipush dX12_weekOrder_88 kB_10 ?_
        refine s_aload_n (i := 0) dX12_weekOrder_90 rfl rfl ?_
        refine s_getR hX h0 flX12_7 rfl dX12_weekOrder_91 (fun (g1 : o_is X (o_rf X a0 0) (.inr (0, 3756))) => ?_)
        refine s_iconst dX12_weekOrder_94 kI_2 ?_
        refine s_ialdK g1 ⟨by decide, by decide⟩ kN_2 dX12_weekOrder_95 ?_
        refine s_callVi (C := mX12_findHere) (As := [.int 10, .int (μ3.1 (o_rf X a0 0) 2)]) (rest := []) (L0 := [some (.ref (o_ad X a0)), some (.int 10), some (.int (μ3.1 (o_rf X a0 0) 2)), none]) hX h0 clX12_186 dX12_weekOrder_96 rfl rfl (Nat.le_of_ble_eq_true rfl) (Nat.le_of_ble_eq_true rfl) (dnX12_findHere hX h0 (o_bdp h)) (fun r4 μ4 h => ?_)
        refine s_aload_n (i := 0) dX12_weekOrder_99 rfl rfl ?_
        refine s_getR hX h0 flX12_7 rfl dX12_weekOrder_100 (fun (g2 : o_is X (o_rf X a0 0) (.inr (0, 3756))) => ?_)
        refine s_iload_n (i := 2) dX12_weekOrder_103 rfl rfl ?_
        refine s_iconst dX12_weekOrder_104 kI_1 ?_
        refine s_iadd dX12_weekOrder_105 ?_
        have hc := o_ck_c h
        have h := o_ck_k h
        refine s_ialdK g2 hc rfl dX12_weekOrder_106 ?_
        refine s_icmp_ne (tgt := 116) dX12_weekOrder_107 rfl (fun c1 => ?_) (fun c1 => ?_)
        · have h := o_if_f c1 h
          refine s_mask [true, false, true] (L' := [some (.ref (o_ad X a0)), none, some (.int x2)]) rfl ?_
          exact dnX12_weekOrder_j116 hX h0 h
        · have h := o_if_t c1 h
          refine s_aload_n (i := 0) dX12_weekOrder_110 rfl rfl ?_
          refine s_iconst dX12_weekOrder_111 kI_5 ?_
          refine s_callVz (C := mX12_fails) (As := [.int 5]) (rest := []) (L0 := [some (.ref (o_ad X a0)), some (.int 5)]) hX h0 clX12_169 dX12_weekOrder_112 rfl rfl (Nat.le_of_ble_eq_true rfl) (Nat.le_of_ble_eq_true rfl) (dnX12_fails hX h0 (o_bdp h)) (fun r5 μ5 zr5 h => ?_)
          exact s_zreturn rfl zr5 dX12_weekOrder_115 ⟨_, rfl, zr5, o_ret h⟩
    · have h := o_if_t c1 h
      refine s_iconst dX12_weekOrder_76 kI_0 ?_
      exact s_zreturn rfl (Or.inl rfl) dX12_weekOrder_77 ⟨_, rfl, (Or.inl rfl), o_ret h⟩
  have h := o_if_f e16 h
  by_cases e20 : x1 = 20
  · have h := o_if_t e20 h
    refine s_table (off := 144) (tgt := 145) dX12_weekOrder_1 rfl (by rw [e20]; decide) rfl ?_
    refine s_aload_n (i := 0) dX12_weekOrder_145 rfl rfl ?_
    refine s_iload_n (i := 2) dX12_weekOrder_146 rfl rfl ?_
    refine s_callVz (C := mX12_test) (As := [.int x2]) (rest := []) (L0 := [some (.ref (o_ad X a0)), some (.int x2), none]) hX h0 clX12_254 dX12_weekOrder_147 rfl rfl (Nat.le_of_ble_eq_true rfl) (Nat.le_of_ble_eq_true rfl) (dnX12_test hX h0 (o_bdp h)) (fun r6 μ6 zr6 h => ?_)
    exact s_zreturn rfl zr6 dX12_weekOrder_150 ⟨_, rfl, zr6, o_ret h⟩
  have h := o_if_f e20 h
  by_cases e21 : x1 = 21
  · have h := o_if_t e21 h
    refine s_table (off := 54) (tgt := 55) dX12_weekOrder_1 rfl (by rw [e21]; decide) rfl ?_
    refine s_aload_n (i := 0) dX12_weekOrder_55 rfl rfl ?_
    refine s_iload_n (i := 2) dX12_weekOrder_56 rfl rfl ?_
    refine s_iconst dX12_weekOrder_57 kI_1 ?_
    refine s_iadd dX12_weekOrder_58 ?_
    refine s_iconst dX12_weekOrder_59 kI_1 ?_
    refine s_bipush dX12_weekOrder_60 kB_99 ?_
    refine s_callVz (C := mX12_number) (As := [.int (x2 + 1), .int 1, .int 99]) (rest := []) (L0 := [some (.ref (o_ad X a0)), some (.int (x2 + 1)), some (.int 1), some (.int 99)]) hX h0 clX12_202 dX12_weekOrder_62 rfl rfl (Nat.le_of_ble_eq_true rfl) (Nat.le_of_ble_eq_true rfl) (dnX12_number hX h0 (o_bdp h)) (fun r7 μ7 zr7 h => ?_)
    exact s_zreturn rfl zr7 dX12_weekOrder_65 ⟨_, rfl, zr7, o_ret h⟩
  have h := o_if_f e21 h
  have n15 := lv_neT (a := 15) e15 (by decide)
  have n16 := lv_neT (a := 16) e16 (by decide)
  have n20 := lv_neT (a := 20) e20 (by decide)
  have n21 := lv_neT (a := 21) e21 (by decide)
  have hz : (x1).toInt < 15 ∨ 21 < (x1).toInt ∨ (x1).toInt = 17 ∨ (x1).toInt = 18 ∨ (x1).toInt = 19 := by omega
  refine s_table (off := 150) (tgt := 151) dX12_weekOrder_1 rfl (by rcases hz with hz | hz | hz | hz | hz; exact o_tabD (Or.inl hz); exact o_tabD (Or.inr hz); all_goals (rw [hz]; decide)) rfl ?_
  refine s_iconst dX12_weekOrder_151 kI_1 ?_
  exact s_zreturn rfl (Or.inr rfl) dX12_weekOrder_152 ⟨_, rfl, (Or.inr rfl), o_ret h⟩
theorem dX12_weekStep_0 : decode cX12_weekStep 0 = .ok (.aload_n 0, 1) := by decide +kernel
theorem dX12_weekStep_1 : decode cX12_weekStep 1 = .ok (.ldc 180, 2) := by decide +kernel
theorem dX12_weekStep_3 : decode cX12_weekStep 3 = .ok (.invokevirtual 172, 3) := by decide +kernel
theorem dX12_weekStep_6 : decode cX12_weekStep 6 = .ok (.istore_n 1, 1) := by decide +kernel
theorem dX12_weekStep_7 : decode cX12_weekStep 7 = .ok (.aload_n 0, 1) := by decide +kernel
theorem dX12_weekStep_8 : decode cX12_weekStep 8 = .ok (.getfield 7, 3) := by decide +kernel
theorem dX12_weekStep_11 : decode cX12_weekStep 11 = .ok (.sipush 2516, 3) := by decide +kernel
theorem dX12_weekStep_14 : decode cX12_weekStep 14 = .ok (.iaload, 1) := by decide +kernel
theorem dX12_weekStep_15 : decode cX12_weekStep 15 = .ok (.istore_n 2, 1) := by decide +kernel
theorem dX12_weekStep_16 : decode cX12_weekStep 16 = .ok (.sipush 2763, 3) := by decide +kernel
theorem dX12_weekStep_19 : decode cX12_weekStep 19 = .ok (.bipush 6, 2) := by decide +kernel
theorem dX12_weekStep_21 : decode cX12_weekStep 21 = .ok (.iload_n 2, 1) := by decide +kernel
theorem dX12_weekStep_22 : decode cX12_weekStep 22 = .ok (.imul, 1) := by decide +kernel
theorem dX12_weekStep_23 : decode cX12_weekStep 23 = .ok (.iadd, 1) := by decide +kernel
theorem dX12_weekStep_24 : decode cX12_weekStep 24 = .ok (.istore_n 3, 1) := by decide +kernel
theorem dX12_weekStep_25 : decode cX12_weekStep 25 = .ok (.iload_n 1, 1) := by decide +kernel
theorem dX12_weekStep_26 : decode cX12_weekStep 26 = .ok (.bipush 20, 2) := by decide +kernel
theorem dX12_weekStep_28 : decode cX12_weekStep 28 = .ok (.if_icmp .eq 9, 3) := by decide +kernel
theorem dX12_weekStep_31 : decode cX12_weekStep 31 = .ok (.iload_n 1, 1) := by decide +kernel
theorem dX12_weekStep_32 : decode cX12_weekStep 32 = .ok (.bipush 21, 2) := by decide +kernel
theorem dX12_weekStep_34 : decode cX12_weekStep 34 = .ok (.if_icmp .ne 7, 3) := by decide +kernel
theorem dX12_weekStep_37 : decode cX12_weekStep 37 = .ok (.iconst 1, 1) := by decide +kernel
theorem dX12_weekStep_38 : decode cX12_weekStep 38 = .ok (.goto 4, 3) := by decide +kernel
theorem dX12_weekStep_41 : decode cX12_weekStep 41 = .ok (.iconst 0, 1) := by decide +kernel
theorem dX12_weekStep_42 : decode cX12_weekStep 42 = .ok (.istore 4, 2) := by decide +kernel
theorem dX12_weekStep_44 : decode cX12_weekStep 44 = .ok (.iload_n 1, 1) := by decide +kernel
theorem dX12_weekStep_45 : decode cX12_weekStep 45 = .ok (.bipush 15, 2) := by decide +kernel
theorem dX12_weekStep_47 : decode cX12_weekStep 47 = .ok (.if_icmp .lt 22, 3) := by decide +kernel
theorem dX12_weekStep_50 : decode cX12_weekStep 50 = .ok (.iload_n 1, 1) := by decide +kernel
theorem dX12_weekStep_51 : decode cX12_weekStep 51 = .ok (.bipush 23, 2) := by decide +kernel
theorem dX12_weekStep_53 : decode cX12_weekStep 53 = .ok (.if_icmp .gt 16, 3) := by decide +kernel
theorem dX12_weekStep_56 : decode cX12_weekStep 56 = .ok (.iload_n 1, 1) := by decide +kernel
theorem dX12_weekStep_57 : decode cX12_weekStep 57 = .ok (.bipush 22, 2) := by decide +kernel
theorem dX12_weekStep_59 : decode cX12_weekStep 59 = .ok (.if_icmp .ne 16, 3) := by decide +kernel
theorem dX12_weekStep_62 : decode cX12_weekStep 62 = .ok (.aload_n 0, 1) := by decide +kernel
theorem dX12_weekStep_63 : decode cX12_weekStep 63 = .ok (.getfield 257, 3) := by decide +kernel
theorem dX12_weekStep_66 : decode cX12_weekStep 66 = .ok (.ifCond .ne 9, 3) := by decide +kernel
theorem dX12_weekStep_69 : decode cX12_weekStep 69 = .ok (.aload_n 0, 1) := by decide +kernel
theorem dX12_weekStep_70 : decode cX12_weekStep 70 = .ok (.iconst 2, 1) := by decide +kernel
theorem dX12_weekStep_71 : decode cX12_weekStep 71 = .ok (.invokevirtual 169, 3) := by decide +kernel
theorem dX12_weekStep_74 : decode cX12_weekStep 74 = .ok (.ireturn, 1) := by decide +kernel
theorem dX12_weekStep_75 : decode cX12_weekStep 75 = .ok (.iload_n 1, 1) := by decide +kernel
theorem dX12_weekStep_76 : decode cX12_weekStep 76 = .ok (.bipush 22, 2) := by decide +kernel
theorem dX12_weekStep_78 : decode cX12_weekStep 78 = .ok (.if_icmp .eq 19, 3) := by decide +kernel
theorem dX12_weekStep_81 : decode cX12_weekStep 81 = .ok (.aload_n 0, 1) := by decide +kernel
theorem dX12_weekStep_82 : decode cX12_weekStep 82 = .ok (.getfield 260, 3) := by decide +kernel
theorem dX12_weekStep_85 : decode cX12_weekStep 85 = .ok (.bipush 30, 2) := by decide +kernel
theorem dX12_weekStep_87 : decode cX12_weekStep 87 = .ok (.if_icmp .ne 10, 3) := by decide +kernel
theorem dX12_weekStep_90 : decode cX12_weekStep 90 = .ok (.aload_n 0, 1) := by decide +kernel
theorem dX12_weekStep_91 : decode cX12_weekStep 91 = .ok (.bipush 6, 2) := by decide +kernel
theorem dX12_weekStep_93 : decode cX12_weekStep 93 = .ok (.invokevirtual 169, 3) := by decide +kernel
theorem dX12_weekStep_96 : decode cX12_weekStep 96 = .ok (.ireturn, 1) := by decide +kernel
theorem dX12_weekStep_97 : decode cX12_weekStep 97 = .ok (.iload 4, 2) := by decide +kernel
theorem dX12_weekStep_99 : decode cX12_weekStep 99 = .ok (.ifCond .eq 18, 3) := by decide +kernel
theorem dX12_weekStep_102 : decode cX12_weekStep 102 = .ok (.aload_n 0, 1) := by decide +kernel
theorem dX12_weekStep_103 : decode cX12_weekStep 103 = .ok (.getfield 257, 3) := by decide +kernel
theorem dX12_weekStep_106 : decode cX12_weekStep 106 = .ok (.iconst 3, 1) := by decide +kernel
theorem dX12_weekStep_107 : decode cX12_weekStep 107 = .ok (.if_icmp .ne 10, 3) := by decide +kernel
theorem dX12_weekStep_110 : decode cX12_weekStep 110 = .ok (.aload_n 0, 1) := by decide +kernel
theorem dX12_weekStep_111 : decode cX12_weekStep 111 = .ok (.bipush 7, 2) := by decide +kernel
theorem dX12_weekStep_113 : decode cX12_weekStep 113 = .ok (.invokevirtual 169, 3) := by decide +kernel
theorem dX12_weekStep_116 : decode cX12_weekStep 116 = .ok (.ireturn, 1) := by decide +kernel
theorem dX12_weekStep_117 : decode cX12_weekStep 117 = .ok (.aload_n 0, 1) := by decide +kernel
theorem dX12_weekStep_118 : decode cX12_weekStep 118 = .ok (.dup, 1) := by decide +kernel
theorem dX12_weekStep_119 : decode cX12_weekStep 119 = .ok (.getfield 260, 3) := by decide +kernel
theorem dX12_weekStep_122 : decode cX12_weekStep 122 = .ok (.iload_n 1, 1) := by decide +kernel
theorem dX12_weekStep_123 : decode cX12_weekStep 123 = .ok (.bipush 22, 2) := by decide +kernel
theorem dX12_weekStep_125 : decode cX12_weekStep 125 = .ok (.if_icmp .ne 7, 3) := by decide +kernel
theorem dX12_weekStep_128 : decode cX12_weekStep 128 = .ok (.iconst 0, 1) := by decide +kernel
theorem dX12_weekStep_129 : decode cX12_weekStep 129 = .ok (.goto 4, 3) := by decide +kernel
theorem dX12_weekStep_132 : decode cX12_weekStep 132 = .ok (.iconst 1, 1) := by decide +kernel
theorem dX12_weekStep_133 : decode cX12_weekStep 133 = .ok (.iadd, 1) := by decide +kernel
theorem dX12_weekStep_134 : decode cX12_weekStep 134 = .ok (.putfield 260, 3) := by decide +kernel
theorem dX12_weekStep_137 : decode cX12_weekStep 137 = .ok (.aload_n 0, 1) := by decide +kernel
theorem dX12_weekStep_138 : decode cX12_weekStep 138 = .ok (.getfield 7, 3) := by decide +kernel
theorem dX12_weekStep_141 : decode cX12_weekStep 141 = .ok (.iload_n 3, 1) := by decide +kernel
theorem dX12_weekStep_142 : decode cX12_weekStep 142 = .ok (.iload_n 1, 1) := by decide +kernel
theorem dX12_weekStep_143 : decode cX12_weekStep 143 = .ok (.iastore, 1) := by decide +kernel
theorem dX12_weekStep_144 : decode cX12_weekStep 144 = .ok (.iconst 1, 1) := by decide +kernel
theorem dX12_weekStep_145 : decode cX12_weekStep 145 = .ok (.istore 5, 2) := by decide +kernel
theorem dX12_weekStep_147 : decode cX12_weekStep 147 = .ok (.iload 5, 2) := by decide +kernel
theorem dX12_weekStep_149 : decode cX12_weekStep 149 = .ok (.bipush 6, 2) := by decide +kernel
theorem dX12_weekStep_151 : decode cX12_weekStep 151 = .ok (.if_icmp .ge 19, 3) := by decide +kernel
theorem dX12_weekStep_154 : decode cX12_weekStep 154 = .ok (.aload_n 0, 1) := by decide +kernel
theorem dX12_weekStep_155 : decode cX12_weekStep 155 = .ok (.getfield 7, 3) := by decide +kernel
theorem dX12_weekStep_158 : decode cX12_weekStep 158 = .ok (.iload_n 3, 1) := by decide +kernel
theorem dX12_weekStep_159 : decode cX12_weekStep 159 = .ok (.iload 5, 2) := by decide +kernel
theorem dX12_weekStep_161 : decode cX12_weekStep 161 = .ok (.iadd, 1) := by decide +kernel
theorem dX12_weekStep_162 : decode cX12_weekStep 162 = .ok (.iconst 0, 1) := by decide +kernel
theorem dX12_weekStep_163 : decode cX12_weekStep 163 = .ok (.iastore, 1) := by decide +kernel
theorem dX12_weekStep_164 : decode cX12_weekStep 164 = .ok (.iinc 5 1, 3) := by decide +kernel
theorem dX12_weekStep_167 : decode cX12_weekStep 167 = .ok (.goto (-20), 3) := by decide +kernel
theorem dX12_weekStep_170 : decode cX12_weekStep 170 = .ok (.aload_n 0, 1) := by decide +kernel
theorem dX12_weekStep_171 : decode cX12_weekStep 171 = .ok (.getfield 7, 3) := by decide +kernel
theorem dX12_weekStep_174 : decode cX12_weekStep 174 = .ok (.sipush 2516, 3) := by decide +kernel
theorem dX12_weekStep_177 : decode cX12_weekStep 177 = .ok (.dup2, 1) := by decide +kernel
theorem dX12_weekStep_178 : decode cX12_weekStep 178 = .ok (.iaload, 1) := by decide +kernel
theorem dX12_weekStep_179 : decode cX12_weekStep 179 = .ok (.iconst 1, 1) := by decide +kernel
theorem dX12_weekStep_180 : decode cX12_weekStep 180 = .ok (.iadd, 1) := by decide +kernel
theorem dX12_weekStep_181 : decode cX12_weekStep 181 = .ok (.iastore, 1) := by decide +kernel
theorem dX12_weekStep_182 : decode cX12_weekStep 182 = .ok (.aload_n 0, 1) := by decide +kernel
theorem dX12_weekStep_183 : decode cX12_weekStep 183 = .ok (.invokevirtual 163, 3) := by decide +kernel
theorem dX12_weekStep_186 : decode cX12_weekStep 186 = .ok (.aload_n 0, 1) := by decide +kernel
theorem dX12_weekStep_187 : decode cX12_weekStep 187 = .ok (.iload_n 1, 1) := by decide +kernel
theorem dX12_weekStep_188 : decode cX12_weekStep 188 = .ok (.iload_n 3, 1) := by decide +kernel
theorem dX12_weekStep_189 : decode cX12_weekStep 189 = .ok (.invokevirtual 263, 3) := by decide +kernel
theorem dX12_weekStep_192 : decode cX12_weekStep 192 = .ok (.ifCond .ne 5, 3) := by decide +kernel
theorem dX12_weekStep_195 : decode cX12_weekStep 195 = .ok (.iconst 0, 1) := by decide +kernel
theorem dX12_weekStep_196 : decode cX12_weekStep 196 = .ok (.ireturn, 1) := by decide +kernel
theorem dX12_weekStep_197 : decode cX12_weekStep 197 = .ok (.iload 4, 2) := by decide +kernel
theorem dX12_weekStep_199 : decode cX12_weekStep 199 = .ok (.ifCond .eq 23, 3) := by decide +kernel
theorem dX12_weekStep_202 : decode cX12_weekStep 202 = .ok (.aload_n 0, 1) := by decide +kernel
theorem dX12_weekStep_203 : decode cX12_weekStep 203 = .ok (.getfield 44, 3) := by decide +kernel
theorem dX12_weekStep_206 : decode cX12_weekStep 206 = .ok (.aload_n 0, 1) := by decide +kernel
theorem dX12_weekStep_207 : decode cX12_weekStep 207 = .ok (.getfield 257, 3) := by decide +kernel
theorem dX12_weekStep_210 : decode cX12_weekStep 210 = .ok (.iload_n 2, 1) := by decide +kernel
theorem dX12_weekStep_211 : decode cX12_weekStep 211 = .ok (.iastore, 1) := by decide +kernel
theorem dX12_weekStep_212 : decode cX12_weekStep 212 = .ok (.aload_n 0, 1) := by decide +kernel
theorem dX12_weekStep_213 : decode cX12_weekStep 213 = .ok (.dup, 1) := by decide +kernel
theorem dX12_weekStep_214 : decode cX12_weekStep 214 = .ok (.getfield 257, 3) := by decide +kernel
theorem dX12_weekStep_217 : decode cX12_weekStep 217 = .ok (.iconst 1, 1) := by decide +kernel
theorem dX12_weekStep_218 : decode cX12_weekStep 218 = .ok (.iadd, 1) := by decide +kernel
theorem dX12_weekStep_219 : decode cX12_weekStep 219 = .ok (.putfield 257, 3) := by decide +kernel
theorem dX12_weekStep_222 : decode cX12_weekStep 222 = .ok (.iload_n 1, 1) := by decide +kernel
theorem dX12_weekStep_223 : decode cX12_weekStep 223 = .ok (.bipush 22, 2) := by decide +kernel
theorem dX12_weekStep_225 : decode cX12_weekStep 225 = .ok (.if_icmp .ne 54, 3) := by decide +kernel
theorem dX12_weekStep_228 : decode cX12_weekStep 228 = .ok (.aload_n 0, 1) := by decide +kernel
theorem dX12_weekStep_229 : decode cX12_weekStep 229 = .ok (.dup, 1) := by decide +kernel
theorem dX12_weekStep_230 : decode cX12_weekStep 230 = .ok (.getfield 257, 3) := by decide +kernel
theorem dX12_weekStep_233 : decode cX12_weekStep 233 = .ok (.iconst 1, 1) := by decide +kernel
theorem dX12_weekStep_234 : decode cX12_weekStep 234 = .ok (.isub, 1) := by decide +kernel
theorem dX12_weekStep_235 : decode cX12_weekStep 235 = .ok (.putfield 257, 3) := by decide +kernel
theorem dX12_weekStep_238 : decode cX12_weekStep 238 = .ok (.aload_n 0, 1) := by decide +kernel
theorem dX12_weekStep_239 : decode cX12_weekStep 239 = .ok (.getfield 7, 3) := by decide +kernel
theorem dX12_weekStep_242 : decode cX12_weekStep 242 = .ok (.iload_n 3, 1) := by decide +kernel
theorem dX12_weekStep_243 : decode cX12_weekStep 243 = .ok (.iconst 4, 1) := by decide +kernel
theorem dX12_weekStep_244 : decode cX12_weekStep 244 = .ok (.iadd, 1) := by decide +kernel
theorem dX12_weekStep_245 : decode cX12_weekStep 245 = .ok (.aload_n 0, 1) := by decide +kernel
theorem dX12_weekStep_246 : decode cX12_weekStep 246 = .ok (.getfield 44, 3) := by decide +kernel
theorem dX12_weekStep_249 : decode cX12_weekStep 249 = .ok (.aload_n 0, 1) := by decide +kernel
theorem dX12_weekStep_250 : decode cX12_weekStep 250 = .ok (.getfield 257, 3) := by decide +kernel
theorem dX12_weekStep_253 : decode cX12_weekStep 253 = .ok (.iaload, 1) := by decide +kernel
theorem dX12_weekStep_254 : decode cX12_weekStep 254 = .ok (.iastore, 1) := by decide +kernel
theorem dX12_weekStep_255 : decode cX12_weekStep 255 = .ok (.aload_n 0, 1) := by decide +kernel
theorem dX12_weekStep_256 : decode cX12_weekStep 256 = .ok (.getfield 7, 3) := by decide +kernel
theorem dX12_weekStep_259 : decode cX12_weekStep 259 = .ok (.sipush 2763, 3) := by decide +kernel
theorem dX12_weekStep_262 : decode cX12_weekStep 262 = .ok (.bipush 6, 2) := by decide +kernel
theorem dX12_weekStep_264 : decode cX12_weekStep 264 = .ok (.aload_n 0, 1) := by decide +kernel
theorem dX12_weekStep_265 : decode cX12_weekStep 265 = .ok (.getfield 44, 3) := by decide +kernel
theorem dX12_weekStep_268 : decode cX12_weekStep 268 = .ok (.aload_n 0, 1) := by decide +kernel
theorem dX12_weekStep_269 : decode cX12_weekStep 269 = .ok (.getfield 257, 3) := by decide +kernel
theorem dX12_weekStep_272 : decode cX12_weekStep 272 = .ok (.iaload, 1) := by decide +kernel
theorem dX12_weekStep_273 : decode cX12_weekStep 273 = .ok (.imul, 1) := by decide +kernel
theorem dX12_weekStep_274 : decode cX12_weekStep 274 = .ok (.iadd, 1) := by decide +kernel
theorem dX12_weekStep_275 : decode cX12_weekStep 275 = .ok (.iconst 4, 1) := by decide +kernel
theorem dX12_weekStep_276 : decode cX12_weekStep 276 = .ok (.iadd, 1) := by decide +kernel
theorem dX12_weekStep_277 : decode cX12_weekStep 277 = .ok (.iload_n 2, 1) := by decide +kernel
theorem dX12_weekStep_278 : decode cX12_weekStep 278 = .ok (.iastore, 1) := by decide +kernel
theorem dX12_weekStep_279 : decode cX12_weekStep 279 = .ok (.aload_n 0, 1) := by decide +kernel
theorem dX12_weekStep_280 : decode cX12_weekStep 280 = .ok (.bipush 59, 2) := by decide +kernel
theorem dX12_weekStep_282 : decode cX12_weekStep 282 = .ok (.invokevirtual 239, 3) := by decide +kernel
theorem dX12_weekStep_285 : decode cX12_weekStep 285 = .ok (.ireturn, 1) := by decide +kernel
noncomputable def fX12_weekStep_j69 (rf : Nat → Nat → Nat) (a0 : Nat) (μ0 : o_Mem) : Option (Int32 × o_Mem) :=
  o_bd (fX12_fails rf a0 2 μ0) fun r1 μ1 =>
  some (r1, μ1)
noncomputable def fX12_weekStep_s147 (rf : Nat → Nat → Nat) (a0 : Nat) (x1 : Int32) (x2 : Int32) (x3 : Int32) (x4 : Int32) (τ147 : Int32) (μ0 : o_Mem) : Option ((Nat × (Int32)) × o_Mem) :=
  if 6 ≤ τ147 then (
    some ((170, 0), μ0))
  else (
    o_ck (0 ≤ ((x3 + τ147)).toInt ∧ ((x3 + τ147)).toInt < 3756) <|
    o_seq (o_wI μ0 (rf a0 0) (((x3 + τ147)).toNatClampNeg) 0) fun μ1 =>
    some ((147, (τ147 + 1)), μ1))
noncomputable def fX12_weekStep_j279 (rf : Nat → Nat → Nat) (a0 : Nat) (μ0 : o_Mem) : Option (Int32 × o_Mem) :=
  o_bd (fX12_wantSign rf a0 59 μ0) fun r1 μ1 =>
  some (r1, μ1)
noncomputable def fX12_weekStep_j222 (rf : Nat → Nat → Nat) (a0 : Nat) (x1 : Int32) (x2 : Int32) (x3 : Int32) (μ0 : o_Mem) : Option (Int32 × o_Mem) :=
  if x1 = 22 then (
    o_seq (o_wI μ0 a0 22 ((μ0.1 a0 22) - 1)) fun μ1 =>
    o_ck (0 ≤ ((μ1.1 a0 22)).toInt ∧ ((μ1.1 a0 22)).toInt < 3) <|
    o_ck (0 ≤ ((x3 + 4)).toInt ∧ ((x3 + 4)).toInt < 3756) <|
    o_seq (o_wI μ1 (rf a0 0) (((x3 + 4)).toNatClampNeg) (μ1.1 (rf a0 21) ((μ1.1 a0 22)).toNatClampNeg)) fun μ2 =>
    o_ck (0 ≤ ((μ2.1 a0 22)).toInt ∧ ((μ2.1 a0 22)).toInt < 3) <|
    o_ck (0 ≤ (((2763 + (6 * (μ2.1 (rf a0 21) ((μ2.1 a0 22)).toNatClampNeg))) + 4)).toInt ∧ (((2763 + (6 * (μ2.1 (rf a0 21) ((μ2.1 a0 22)).toNatClampNeg))) + 4)).toInt < 3756) <|
    o_seq (o_wI μ2 (rf a0 0) ((((2763 + (6 * (μ2.1 (rf a0 21) ((μ2.1 a0 22)).toNatClampNeg))) + 4)).toNatClampNeg) x2) fun μ3 =>
    fX12_weekStep_j279 rf a0 μ3)
  else (
    fX12_weekStep_j279 rf a0 μ0)
noncomputable def fX12_weekStep_j133 (rf : Nat → Nat → Nat) (a0 : Nat) (x1 : Int32) (x2 : Int32) (x3 : Int32) (x4 : Int32) (b0 : Nat) (y1 : Int32) (y2 : Int32) (μ0 : o_Mem) : Option (Int32 × o_Mem) :=
  o_seq (o_wI μ0 b0 23 (y1 + y2)) fun μ1 =>
  o_ck (0 ≤ (x3).toInt ∧ (x3).toInt < 3756) <|
  o_seq (o_wI μ1 (rf a0 0) x3.toNatClampNeg x1) fun μ2 =>
  o_bd (o_lp 147 (fX12_weekStep_s147 rf a0 x1 x2 x3 x4) o_fuel (1 : Int32) μ2) fun ex3 μ3 =>
  if ex3.1 = 170 then (
    o_seq (o_wI μ3 (rf a0 0) 2516 ((μ3.1 (rf a0 0) 2516) + 1)) fun μ4 =>
    o_bd (fX12_ahead rf a0 μ4) fun _u μ5 =>
    o_bd (fX12_weekOrder rf a0 x1 x3 μ5) fun r1 μ6 =>
    if r1 = 0 then (
      some (0, μ6))
    else (
      if x4 = 0 then (
        fX12_weekStep_j222 rf a0 x1 x2 x3 μ6)
      else (
        o_ck (0 ≤ ((μ6.1 a0 22)).toInt ∧ ((μ6.1 a0 22)).toInt < 3) <|
        o_seq (o_wI μ6 (rf a0 21) (((μ6.1 a0 22)).toNatClampNeg) x2) fun μ7 =>
        o_seq (o_wI μ7 a0 22 ((μ7.1 a0 22) + 1)) fun μ8 =>
        fX12_weekStep_j222 rf a0 x1 x2 x3 μ8)))
  else
    none
noncomputable def fX12_weekStep_j117 (rf : Nat → Nat → Nat) (a0 : Nat) (x1 : Int32) (x2 : Int32) (x3 : Int32) (x4 : Int32) (μ0 : o_Mem) : Option (Int32 × o_Mem) :=
  if x1 = 22 then (
    fX12_weekStep_j133 rf a0 x1 x2 x3 x4 a0 (μ0.1 a0 23) 0 μ0)
  else (
    fX12_weekStep_j133 rf a0 x1 x2 x3 x4 a0 (μ0.1 a0 23) 1 μ0)
noncomputable def fX12_weekStep_j97 (rf : Nat → Nat → Nat) (a0 : Nat) (x1 : Int32) (x2 : Int32) (x3 : Int32) (x4 : Int32) (μ0 : o_Mem) : Option (Int32 × o_Mem) :=
  if x4 = 0 then (
    fX12_weekStep_j117 rf a0 x1 x2 x3 x4 μ0)
  else (
    if (μ0.1 a0 22) = 3 then (
      o_bd (fX12_fails rf a0 7 μ0) fun r1 μ1 =>
      some (r1, μ1))
    else (
      fX12_weekStep_j117 rf a0 x1 x2 x3 x4 μ0))
noncomputable def fX12_weekStep_j75 (rf : Nat → Nat → Nat) (a0 : Nat) (x1 : Int32) (x2 : Int32) (x3 : Int32) (x4 : Int32) (μ0 : o_Mem) : Option (Int32 × o_Mem) :=
  if x1 = 22 then (
    fX12_weekStep_j97 rf a0 x1 x2 x3 x4 μ0)
  else (
    if (μ0.1 a0 23) = 30 then (
      o_bd (fX12_fails rf a0 6 μ0) fun r1 μ1 =>
      some (r1, μ1))
    else (
      fX12_weekStep_j97 rf a0 x1 x2 x3 x4 μ0))
noncomputable def fX12_weekStep_j42 (rf : Nat → Nat → Nat) (a0 : Nat) (x1 : Int32) (x2 : Int32) (x3 : Int32) (y0 : Int32) (μ0 : o_Mem) : Option (Int32 × o_Mem) :=
  if x1 < 15 then (
    fX12_weekStep_j69 rf a0 μ0)
  else (
    if 23 < x1 then (
      fX12_weekStep_j69 rf a0 μ0)
    else (
      if x1 = 22 then (
        if (μ0.1 a0 22) = 0 then (
          fX12_weekStep_j69 rf a0 μ0)
        else (
          fX12_weekStep_j75 rf a0 x1 x2 x3 y0 μ0))
      else (
        fX12_weekStep_j75 rf a0 x1 x2 x3 y0 μ0)))
noncomputable def fX12_weekStep_j37 (rf : Nat → Nat → Nat) (a0 : Nat) (x1 : Int32) (x2 : Int32) (x3 : Int32) (μ0 : o_Mem) : Option (Int32 × o_Mem) :=
  fX12_weekStep_j42 rf a0 x1 x2 x3 1 μ0
noncomputable def fX12_weekStep (rf : Nat → Nat → Nat) (a0 : Nat) (μ0 : o_Mem) : Option (Int32 × o_Mem) :=
  o_bd (fX12_inWords rf a0 μ0) fun r1 μ1 =>
  if r1 = 20 then (
    fX12_weekStep_j37 rf a0 r1 (μ1.1 (rf a0 0) 2516) (2763 + (6 * (μ1.1 (rf a0 0) 2516))) μ1)
  else (
    if r1 = 21 then (
      fX12_weekStep_j37 rf a0 r1 (μ1.1 (rf a0 0) 2516) (2763 + (6 * (μ1.1 (rf a0 0) 2516))) μ1)
    else (
      fX12_weekStep_j42 rf a0 r1 (μ1.1 (rf a0 0) 2516) (2763 + (6 * (μ1.1 (rf a0 0) 2516))) 0 μ1))
set_option maxRecDepth 20000 in
theorem dnX12_weekStep_j69 {X : o_Cx} (hX : o_ok X) {d : Nat} {a0 : Nat} {μ0 : o_Mem} {q : Int32 → o_Mem → Prop} (h0 : o_is X a0 (.inl 12)) (h : o_Post (fX12_weekStep_j69 (o_rf X) a0 μ0) q) : o_Ev X (d + 9) mX12_weekStep 69 [some (.ref (o_ad X a0)), none, none, none, none, none] [] μ0 (o_QZ q) := by
  unfold fX12_weekStep_j69 at h
  refine s_aload_n (i := 0) dX12_weekStep_69 rfl rfl ?_
  refine s_iconst dX12_weekStep_70 kI_2 ?_
  refine s_callVz (C := mX12_fails) (As := [.int 2]) (rest := []) (L0 := [some (.ref (o_ad X a0)), some (.int 2)]) hX h0 clX12_169 dX12_weekStep_71 rfl rfl (Nat.le_of_ble_eq_true rfl) (Nat.le_of_ble_eq_true rfl) (dnX12_fails hX h0 (o_bdp h)) (fun r1 μ1 zr1 h => ?_)
  exact s_zreturn rfl zr1 dX12_weekStep_74 ⟨_, rfl, zr1, o_ret h⟩
set_option maxRecDepth 20000 in
theorem dnX12_weekStep_s147 {X : o_Cx} (hX : o_ok X) {d : Nat} {a0 : Nat} {x1 : Int32} {x2 : Int32} {x3 : Int32} {x4 : Int32} {τ147 : Int32} {μ0 : o_Mem} {K : (Nat × (Int32)) → o_Mem → Prop} {Q : Option Value → o_Mem → Prop} (h0 : o_is X a0 (.inl 12)) (h : o_Post (fX12_weekStep_s147 (o_rf X) a0 x1 x2 x3 x4 τ147 μ0) K) (kh : ∀ (τ147 : Int32) (μ : o_Mem), K (147, τ147) μ → o_Ev X (d + 9) mX12_weekStep 147 [some (.ref (o_ad X a0)), some (.int x1), some (.int x2), some (.int x3), some (.int x4), some (.int τ147)] [] μ Q) (k170 : ∀ (τ147 : Int32) (μ : o_Mem), K (170, τ147) μ → o_Ev X (d + 9) mX12_weekStep 170 [some (.ref (o_ad X a0)), some (.int x1), some (.int x2), some (.int x3), some (.int x4), none] [] μ Q) : o_Ev X (d + 9) mX12_weekStep 147 [some (.ref (o_ad X a0)), some (.int x1), some (.int x2), some (.int x3), some (.int x4), some (.int τ147)] [] μ0 Q := by
  unfold fX12_weekStep_s147 at h
  refine s_iload dX12_weekStep_147 rfl ?_
  refine s_bipush dX12_weekStep_149 kB_6 ?_
  refine s_icmp_ge (tgt := 170) dX12_weekStep_151 rfl (fun c1 => ?_) (fun c1 => ?_)
  · have h := o_if_t c1 h
    refine s_mask [true, true, true, true, true, false] (L' := [some (.ref (o_ad X a0)), some (.int x1), some (.int x2), some (.int x3), some (.int x4), none]) rfl ?_
    exact k170 0 _ (o_ret h)
  · have h := o_if_f c1 h
    refine s_aload_n (i := 0) dX12_weekStep_154 rfl rfl ?_
    refine s_getR hX h0 flX12_7 rfl dX12_weekStep_155 (fun (g1 : o_is X (o_rf X a0 0) (.inr (0, 3756))) => ?_)
    refine s_iload_n (i := 3) dX12_weekStep_158 rfl rfl ?_
    refine s_iload dX12_weekStep_159 rfl ?_
    refine s_iadd dX12_weekStep_161 ?_
    refine s_iconst dX12_weekStep_162 kI_0 ?_
    have hc := o_ck_c h
    have h := o_ck_k h
    refine s_iastK hX g1 hc rfl dX12_weekStep_163 (o_gen h (fun μ1 h => ?_))
    refine s_iinc (v := (τ147 + 1)) dX12_weekStep_164 rfl rfl (Nat.le_of_ble_eq_true rfl) rfl ?_
    refine s_goto (tgt := 147) dX12_weekStep_167 rfl ?_
    refine s_mask [true, true, true, true, true, true] (L' := [some (.ref (o_ad X a0)), some (.int x1), some (.int x2), some (.int x3), some (.int x4), some (.int (τ147 + 1))]) rfl ?_
    exact kh (τ147 + 1) _ (o_ret h)
set_option maxRecDepth 20000 in
theorem dnX12_weekStep_j279 {X : o_Cx} (hX : o_ok X) {d : Nat} {a0 : Nat} {μ0 : o_Mem} {q : Int32 → o_Mem → Prop} (h0 : o_is X a0 (.inl 12)) (h : o_Post (fX12_weekStep_j279 (o_rf X) a0 μ0) q) : o_Ev X (d + 9) mX12_weekStep 279 [some (.ref (o_ad X a0)), none, none, none, none, none] [] μ0 (o_QZ q) := by
  unfold fX12_weekStep_j279 at h
  refine s_aload_n (i := 0) dX12_weekStep_279 rfl rfl ?_
  refine s_bipush dX12_weekStep_280 kB_59 ?_
  refine s_callVz (C := mX12_wantSign) (As := [.int 59]) (rest := []) (L0 := [some (.ref (o_ad X a0)), some (.int 59)]) hX h0 clX12_239 dX12_weekStep_282 rfl rfl (Nat.le_of_ble_eq_true rfl) (Nat.le_of_ble_eq_true rfl) (dnX12_wantSign hX h0 (o_bdp h)) (fun r1 μ1 zr1 h => ?_)
  exact s_zreturn rfl zr1 dX12_weekStep_285 ⟨_, rfl, zr1, o_ret h⟩
set_option maxRecDepth 20000 in
theorem dnX12_weekStep_j222 {X : o_Cx} (hX : o_ok X) {d : Nat} {a0 : Nat} {x1 : Int32} {x2 : Int32} {x3 : Int32} {μ0 : o_Mem} {q : Int32 → o_Mem → Prop} (h0 : o_is X a0 (.inl 12)) (h : o_Post (fX12_weekStep_j222 (o_rf X) a0 x1 x2 x3 μ0) q) : o_Ev X (d + 9) mX12_weekStep 222 [some (.ref (o_ad X a0)), some (.int x1), some (.int x2), some (.int x3), none, none] [] μ0 (o_QZ q) := by
  unfold fX12_weekStep_j222 at h
  refine s_iload_n (i := 1) dX12_weekStep_222 rfl rfl ?_
  refine s_bipush dX12_weekStep_223 kB_22 ?_
  refine s_icmp_ne (tgt := 279) dX12_weekStep_225 rfl (fun c1 => ?_) (fun c1 => ?_)
  · have h := o_if_f c1 h
    refine s_mask [true, false, false, false, false, false] (L' := [some (.ref (o_ad X a0)), none, none, none, none, none]) rfl ?_
    exact dnX12_weekStep_j279 hX h0 h
  · have h := o_if_t c1 h
    refine s_aload_n (i := 0) dX12_weekStep_228 rfl rfl ?_
    refine s_dup dX12_weekStep_229 rfl ?_
    refine s_getI h0 flX12_257 rfl dX12_weekStep_230 ?_
    refine s_iconst dX12_weekStep_233 kI_1 ?_
    refine s_isub dX12_weekStep_234 ?_
    refine s_putI hX h0 fwX12_257 rfl dX12_weekStep_235 (o_gen h (fun μ1 h => ?_))
    refine s_aload_n (i := 0) dX12_weekStep_238 rfl rfl ?_
    refine s_getR hX h0 flX12_7 rfl dX12_weekStep_239 (fun (g1 : o_is X (o_rf X a0 0) (.inr (0, 3756))) => ?_)
    refine s_iload_n (i := 3) dX12_weekStep_242 rfl rfl ?_
    refine s_iconst dX12_weekStep_243 kI_4 ?_
    refine s_iadd dX12_weekStep_244 ?_
    refine s_aload_n (i := 0) dX12_weekStep_245 rfl rfl ?_
    refine s_getR hX h0 flX12_44 rfl dX12_weekStep_246 (fun (g2 : o_is X (o_rf X a0 21) (.inr (0, 3))) => ?_)
    refine s_aload_n (i := 0) dX12_weekStep_249 rfl rfl ?_
    refine s_getI h0 flX12_257 rfl dX12_weekStep_250 ?_
    have hc := o_ck_c h
    have h := o_ck_k h
    refine s_ialdK g2 hc rfl dX12_weekStep_253 ?_
    have hc := o_ck_c h
    have h := o_ck_k h
    refine s_iastK hX g1 hc rfl dX12_weekStep_254 (o_gen h (fun μ2 h => ?_))
    refine s_aload_n (i := 0) dX12_weekStep_255 rfl rfl ?_
    refine s_getR hX h0 flX12_7 rfl dX12_weekStep_256 (fun (g3 : o_is X (o_rf X a0 0) (.inr (0, 3756))) => ?_)
    refine s_sipush dX12_weekStep_259 kS_2763 ?_
    refine s_bipush dX12_weekStep_262 kB_6 ?_
    refine s_aload_n (i := 0) dX12_weekStep_264 rfl rfl ?_
    refine s_getR hX h0 flX12_44 rfl dX12_weekStep_265 (fun (g4 : o_is X (o_rf X a0 21) (.inr (0, 3))) => ?_)
    refine s_aload_n (i := 0) dX12_weekStep_268 rfl rfl ?_
    refine s_getI h0 flX12_257 rfl dX12_weekStep_269 ?_
    have hc := o_ck_c h
    have h := o_ck_k h
    refine s_ialdK g4 hc rfl dX12_weekStep_272 ?_
    refine s_imul dX12_weekStep_273 ?_
    refine s_iadd dX12_weekStep_274 ?_
    refine s_iconst dX12_weekStep_275 kI_4 ?_
    refine s_iadd dX12_weekStep_276 ?_
    refine s_iload_n (i := 2) dX12_weekStep_277 rfl rfl ?_
    have hc := o_ck_c h
    have h := o_ck_k h
    refine s_iastK hX g3 hc rfl dX12_weekStep_278 (o_gen h (fun μ3 h => ?_))
    refine s_mask [true, false, false, false, false, false] (L' := [some (.ref (o_ad X a0)), none, none, none, none, none]) rfl ?_
    exact dnX12_weekStep_j279 hX h0 h
set_option maxRecDepth 20000 in
theorem dnX12_weekStep_j133 {X : o_Cx} (hX : o_ok X) {d : Nat} {a0 : Nat} {x1 : Int32} {x2 : Int32} {x3 : Int32} {x4 : Int32} {b0 : Nat} {y1 : Int32} {y2 : Int32} {μ0 : o_Mem} {q : Int32 → o_Mem → Prop} (h0 : o_is X a0 (.inl 12)) (hb0 : o_is X b0 (.inl 12)) (h : o_Post (fX12_weekStep_j133 (o_rf X) a0 x1 x2 x3 x4 b0 y1 y2 μ0) q) : o_Ev X (d + 9) mX12_weekStep 133 [some (.ref (o_ad X a0)), some (.int x1), some (.int x2), some (.int x3), some (.int x4), none] [.int y2, .int y1, .ref (o_ad X b0)] μ0 (o_QZ q) := by
  unfold fX12_weekStep_j133 at h
  refine s_iadd dX12_weekStep_133 ?_
  refine s_putI hX hb0 fwX12_260 rfl dX12_weekStep_134 (o_gen h (fun μ1 h => ?_))
  refine s_aload_n (i := 0) dX12_weekStep_137 rfl rfl ?_
  refine s_getR hX h0 flX12_7 rfl dX12_weekStep_138 (fun (g1 : o_is X (o_rf X a0 0) (.inr (0, 3756))) => ?_)
  refine s_iload_n (i := 3) dX12_weekStep_141 rfl rfl ?_
  refine s_iload_n (i := 1) dX12_weekStep_142 rfl rfl ?_
  have hc := o_ck_c h
  have h := o_ck_k h
  refine s_iastK hX g1 hc rfl dX12_weekStep_143 (o_gen h (fun μ2 h => ?_))
  refine s_iconst dX12_weekStep_144 kI_1 ?_
  refine s_istore dX12_weekStep_145 (Nat.le_of_ble_eq_true rfl) rfl ?_
  refine s_mask [true, true, true, true, true, true] (L' := [some (.ref (o_ad X a0)), some (.int x1), some (.int x2), some (.int x3), some (.int x4), some (.int 1)]) rfl ?_
  refine o_lp_ev (fun τ147 => [some (.ref (o_ad X a0)), some (.int x1), some (.int x2), some (.int x3), some (.int x4), some (.int τ147)]) (fun τ147 μ _K h kv ke147 => dnX12_weekStep_s147 hX h0 h kv (fun τ147 μ3 h => ?_)) o_fuel 1 μ2 (o_bdp h)
  · have h := o_if_t rfl (ke147 (170, τ147) μ3 (o_ne rfl) h)
    refine s_aload_n (i := 0) dX12_weekStep_170 rfl rfl ?_
    refine s_getR hX h0 flX12_7 rfl dX12_weekStep_171 (fun (g2 : o_is X (o_rf X a0 0) (.inr (0, 3756))) => ?_)
    refine s_sipush dX12_weekStep_174 kS_2516 ?_
    refine s_dup2 dX12_weekStep_177 rfl rfl ?_
    refine s_ialdK g2 ⟨by decide, by decide⟩ kN_2516 dX12_weekStep_178 ?_
    refine s_iconst dX12_weekStep_179 kI_1 ?_
    refine s_iadd dX12_weekStep_180 ?_
    refine s_iastK hX g2 ⟨by decide, by decide⟩ kN_2516 dX12_weekStep_181 (o_gen h (fun μ4 h => ?_))
    refine s_aload_n (i := 0) dX12_weekStep_182 rfl rfl ?_
    refine s_callVu (C := mX12_ahead) (As := []) (rest := []) (L0 := [some (.ref (o_ad X a0)), none]) hX h0 clX12_163 dX12_weekStep_183 rfl rfl (Nat.le_of_ble_eq_true rfl) (Nat.le_of_ble_eq_true rfl) (dnX12_ahead hX h0 (o_bdp h)) (fun _u μ5 h => ?_)
    refine s_aload_n (i := 0) dX12_weekStep_186 rfl rfl ?_
    refine s_iload_n (i := 1) dX12_weekStep_187 rfl rfl ?_
    refine s_iload_n (i := 3) dX12_weekStep_188 rfl rfl ?_
    refine s_callVz (C := mX12_weekOrder) (As := [.int x1, .int x3]) (rest := []) (L0 := [some (.ref (o_ad X a0)), some (.int x1), some (.int x3)]) hX h0 clX12_263 dX12_weekStep_189 rfl rfl (Nat.le_of_ble_eq_true rfl) (Nat.le_of_ble_eq_true rfl) (dnX12_weekOrder hX h0 (o_bdp h)) (fun r1 μ6 zr1 h => ?_)
    refine s_if_ne (tgt := 197) dX12_weekStep_192 rfl (fun c1 => ?_) (fun c1 => ?_)
    · have h := o_if_f c1 h
      refine s_iload dX12_weekStep_197 rfl ?_
      refine s_if_eq (tgt := 222) dX12_weekStep_199 rfl (fun c1 => ?_) (fun c1 => ?_)
      · have h := o_if_t c1 h
        refine s_mask [true, true, true, true, false, false] (L' := [some (.ref (o_ad X a0)), some (.int x1), some (.int x2), some (.int x3), none, none]) rfl ?_
        exact dnX12_weekStep_j222 hX h0 h
      · have h := o_if_f c1 h
        refine s_aload_n (i := 0) dX12_weekStep_202 rfl rfl ?_
        refine s_getR hX h0 flX12_44 rfl dX12_weekStep_203 (fun (g3 : o_is X (o_rf X a0 21) (.inr (0, 3))) => ?_)
        refine s_aload_n (i := 0) dX12_weekStep_206 rfl rfl ?_
        refine s_getI h0 flX12_257 rfl dX12_weekStep_207 ?_
        refine s_iload_n (i := 2) dX12_weekStep_210 rfl rfl ?_
        have hc := o_ck_c h
        have h := o_ck_k h
        refine s_iastK hX g3 hc rfl dX12_weekStep_211 (o_gen h (fun μ7 h => ?_))
        refine s_aload_n (i := 0) dX12_weekStep_212 rfl rfl ?_
        refine s_dup dX12_weekStep_213 rfl ?_
        refine s_getI h0 flX12_257 rfl dX12_weekStep_214 ?_
        refine s_iconst dX12_weekStep_217 kI_1 ?_
        refine s_iadd dX12_weekStep_218 ?_
        refine s_putI hX h0 fwX12_257 rfl dX12_weekStep_219 (o_gen h (fun μ8 h => ?_))
        refine s_mask [true, true, true, true, false, false] (L' := [some (.ref (o_ad X a0)), some (.int x1), some (.int x2), some (.int x3), none, none]) rfl ?_
        exact dnX12_weekStep_j222 hX h0 h
    · have h := o_if_t c1 h
      refine s_iconst dX12_weekStep_195 kI_0 ?_
      exact s_zreturn rfl (Or.inl rfl) dX12_weekStep_196 ⟨_, rfl, (Or.inl rfl), o_ret h⟩
set_option maxRecDepth 20000 in
theorem dnX12_weekStep_j117 {X : o_Cx} (hX : o_ok X) {d : Nat} {a0 : Nat} {x1 : Int32} {x2 : Int32} {x3 : Int32} {x4 : Int32} {μ0 : o_Mem} {q : Int32 → o_Mem → Prop} (h0 : o_is X a0 (.inl 12)) (h : o_Post (fX12_weekStep_j117 (o_rf X) a0 x1 x2 x3 x4 μ0) q) : o_Ev X (d + 9) mX12_weekStep 117 [some (.ref (o_ad X a0)), some (.int x1), some (.int x2), some (.int x3), some (.int x4), none] [] μ0 (o_QZ q) := by
  unfold fX12_weekStep_j117 at h
  refine s_aload_n (i := 0) dX12_weekStep_117 rfl rfl ?_
  refine s_dup dX12_weekStep_118 rfl ?_
  refine s_getI h0 flX12_260 rfl dX12_weekStep_119 ?_
  refine s_iload_n (i := 1) dX12_weekStep_122 rfl rfl ?_
  refine s_bipush dX12_weekStep_123 kB_22 ?_
  refine s_icmp_ne (tgt := 132) dX12_weekStep_125 rfl (fun c1 => ?_) (fun c1 => ?_)
  · have h := o_if_f c1 h
    refine s_iconst dX12_weekStep_132 kI_1 ?_
    refine s_mask [true, true, true, true, true, false] (L' := [some (.ref (o_ad X a0)), some (.int x1), some (.int x2), some (.int x3), some (.int x4), none]) rfl ?_
    exact dnX12_weekStep_j133 hX h0 h0 h
  · have h := o_if_t c1 h
    refine s_iconst dX12_weekStep_128 kI_0 ?_
    refine s_goto (tgt := 133) dX12_weekStep_129 rfl ?_
    refine s_mask [true, true, true, true, true, false] (L' := [some (.ref (o_ad X a0)), some (.int x1), some (.int x2), some (.int x3), some (.int x4), none]) rfl ?_
    exact dnX12_weekStep_j133 hX h0 h0 h
set_option maxRecDepth 20000 in
theorem dnX12_weekStep_j97 {X : o_Cx} (hX : o_ok X) {d : Nat} {a0 : Nat} {x1 : Int32} {x2 : Int32} {x3 : Int32} {x4 : Int32} {μ0 : o_Mem} {q : Int32 → o_Mem → Prop} (h0 : o_is X a0 (.inl 12)) (h : o_Post (fX12_weekStep_j97 (o_rf X) a0 x1 x2 x3 x4 μ0) q) : o_Ev X (d + 9) mX12_weekStep 97 [some (.ref (o_ad X a0)), some (.int x1), some (.int x2), some (.int x3), some (.int x4), none] [] μ0 (o_QZ q) := by
  unfold fX12_weekStep_j97 at h
  refine s_iload dX12_weekStep_97 rfl ?_
  refine s_if_eq (tgt := 117) dX12_weekStep_99 rfl (fun c1 => ?_) (fun c1 => ?_)
  · have h := o_if_t c1 h
    refine s_mask [true, true, true, true, true, false] (L' := [some (.ref (o_ad X a0)), some (.int x1), some (.int x2), some (.int x3), some (.int x4), none]) rfl ?_
    exact dnX12_weekStep_j117 hX h0 h
  · have h := o_if_f c1 h
    refine s_aload_n (i := 0) dX12_weekStep_102 rfl rfl ?_
    refine s_getI h0 flX12_257 rfl dX12_weekStep_103 ?_
    refine s_iconst dX12_weekStep_106 kI_3 ?_
    refine s_icmp_ne (tgt := 117) dX12_weekStep_107 rfl (fun c1 => ?_) (fun c1 => ?_)
    · have h := o_if_f c1 h
      refine s_mask [true, true, true, true, true, false] (L' := [some (.ref (o_ad X a0)), some (.int x1), some (.int x2), some (.int x3), some (.int x4), none]) rfl ?_
      exact dnX12_weekStep_j117 hX h0 h
    · have h := o_if_t c1 h
      refine s_aload_n (i := 0) dX12_weekStep_110 rfl rfl ?_
      refine s_bipush dX12_weekStep_111 kB_7 ?_
      refine s_callVz (C := mX12_fails) (As := [.int 7]) (rest := []) (L0 := [some (.ref (o_ad X a0)), some (.int 7)]) hX h0 clX12_169 dX12_weekStep_113 rfl rfl (Nat.le_of_ble_eq_true rfl) (Nat.le_of_ble_eq_true rfl) (dnX12_fails hX h0 (o_bdp h)) (fun r1 μ1 zr1 h => ?_)
      exact s_zreturn rfl zr1 dX12_weekStep_116 ⟨_, rfl, zr1, o_ret h⟩
set_option maxRecDepth 20000 in
theorem dnX12_weekStep_j75 {X : o_Cx} (hX : o_ok X) {d : Nat} {a0 : Nat} {x1 : Int32} {x2 : Int32} {x3 : Int32} {x4 : Int32} {μ0 : o_Mem} {q : Int32 → o_Mem → Prop} (h0 : o_is X a0 (.inl 12)) (h : o_Post (fX12_weekStep_j75 (o_rf X) a0 x1 x2 x3 x4 μ0) q) : o_Ev X (d + 9) mX12_weekStep 75 [some (.ref (o_ad X a0)), some (.int x1), some (.int x2), some (.int x3), some (.int x4), none] [] μ0 (o_QZ q) := by
  unfold fX12_weekStep_j75 at h
  refine s_iload_n (i := 1) dX12_weekStep_75 rfl rfl ?_
  refine s_bipush dX12_weekStep_76 kB_22 ?_
  refine s_icmp_eq (tgt := 97) dX12_weekStep_78 rfl (fun c1 => ?_) (fun c1 => ?_)
  · have h := o_if_t c1 h
    refine s_mask [true, true, true, true, true, false] (L' := [some (.ref (o_ad X a0)), some (.int x1), some (.int x2), some (.int x3), some (.int x4), none]) rfl ?_
    exact dnX12_weekStep_j97 hX h0 h
  · have h := o_if_f c1 h
    refine s_aload_n (i := 0) dX12_weekStep_81 rfl rfl ?_
    refine s_getI h0 flX12_260 rfl dX12_weekStep_82 ?_
    refine s_bipush dX12_weekStep_85 kB_30 ?_
    refine s_icmp_ne (tgt := 97) dX12_weekStep_87 rfl (fun c1 => ?_) (fun c1 => ?_)
    · have h := o_if_f c1 h
      refine s_mask [true, true, true, true, true, false] (L' := [some (.ref (o_ad X a0)), some (.int x1), some (.int x2), some (.int x3), some (.int x4), none]) rfl ?_
      exact dnX12_weekStep_j97 hX h0 h
    · have h := o_if_t c1 h
      refine s_aload_n (i := 0) dX12_weekStep_90 rfl rfl ?_
      refine s_bipush dX12_weekStep_91 kB_6 ?_
      refine s_callVz (C := mX12_fails) (As := [.int 6]) (rest := []) (L0 := [some (.ref (o_ad X a0)), some (.int 6)]) hX h0 clX12_169 dX12_weekStep_93 rfl rfl (Nat.le_of_ble_eq_true rfl) (Nat.le_of_ble_eq_true rfl) (dnX12_fails hX h0 (o_bdp h)) (fun r1 μ1 zr1 h => ?_)
      exact s_zreturn rfl zr1 dX12_weekStep_96 ⟨_, rfl, zr1, o_ret h⟩
set_option maxRecDepth 20000 in
theorem dnX12_weekStep_j42 {X : o_Cx} (hX : o_ok X) {d : Nat} {a0 : Nat} {x1 : Int32} {x2 : Int32} {x3 : Int32} {y0 : Int32} {μ0 : o_Mem} {q : Int32 → o_Mem → Prop} (h0 : o_is X a0 (.inl 12)) (h : o_Post (fX12_weekStep_j42 (o_rf X) a0 x1 x2 x3 y0 μ0) q) : o_Ev X (d + 9) mX12_weekStep 42 [some (.ref (o_ad X a0)), some (.int x1), some (.int x2), some (.int x3), none, none] [.int y0] μ0 (o_QZ q) := by
  unfold fX12_weekStep_j42 at h
  refine s_istore dX12_weekStep_42 (Nat.le_of_ble_eq_true rfl) rfl ?_
  refine s_iload_n (i := 1) dX12_weekStep_44 rfl rfl ?_
  refine s_bipush dX12_weekStep_45 kB_15 ?_
  refine s_icmp_lt (tgt := 69) dX12_weekStep_47 rfl (fun c1 => ?_) (fun c1 => ?_)
  · have h := o_if_t c1 h
    refine s_mask [true, false, false, false, false, false] (L' := [some (.ref (o_ad X a0)), none, none, none, none, none]) rfl ?_
    exact dnX12_weekStep_j69 hX h0 h
  · have h := o_if_f c1 h
    refine s_iload_n (i := 1) dX12_weekStep_50 rfl rfl ?_
    refine s_bipush dX12_weekStep_51 kB_23 ?_
    refine s_icmp_gt (tgt := 69) dX12_weekStep_53 rfl (fun c1 => ?_) (fun c1 => ?_)
    · have h := o_if_t c1 h
      refine s_mask [true, false, false, false, false, false] (L' := [some (.ref (o_ad X a0)), none, none, none, none, none]) rfl ?_
      exact dnX12_weekStep_j69 hX h0 h
    · have h := o_if_f c1 h
      refine s_iload_n (i := 1) dX12_weekStep_56 rfl rfl ?_
      refine s_bipush dX12_weekStep_57 kB_22 ?_
      refine s_icmp_ne (tgt := 75) dX12_weekStep_59 rfl (fun c1 => ?_) (fun c1 => ?_)
      · have h := o_if_f c1 h
        refine s_mask [true, true, true, true, true, false] (L' := [some (.ref (o_ad X a0)), some (.int x1), some (.int x2), some (.int x3), some (.int y0), none]) rfl ?_
        exact dnX12_weekStep_j75 hX h0 h
      · have h := o_if_t c1 h
        refine s_aload_n (i := 0) dX12_weekStep_62 rfl rfl ?_
        refine s_getI h0 flX12_257 rfl dX12_weekStep_63 ?_
        refine s_if_ne (tgt := 75) dX12_weekStep_66 rfl (fun c1 => ?_) (fun c1 => ?_)
        · have h := o_if_f c1 h
          refine s_mask [true, true, true, true, true, false] (L' := [some (.ref (o_ad X a0)), some (.int x1), some (.int x2), some (.int x3), some (.int y0), none]) rfl ?_
          exact dnX12_weekStep_j75 hX h0 h
        · have h := o_if_t c1 h
          refine s_mask [true, false, false, false, false, false] (L' := [some (.ref (o_ad X a0)), none, none, none, none, none]) rfl ?_
          exact dnX12_weekStep_j69 hX h0 h
set_option maxRecDepth 20000 in
theorem dnX12_weekStep_j37 {X : o_Cx} (hX : o_ok X) {d : Nat} {a0 : Nat} {x1 : Int32} {x2 : Int32} {x3 : Int32} {μ0 : o_Mem} {q : Int32 → o_Mem → Prop} (h0 : o_is X a0 (.inl 12)) (h : o_Post (fX12_weekStep_j37 (o_rf X) a0 x1 x2 x3 μ0) q) : o_Ev X (d + 9) mX12_weekStep 37 [some (.ref (o_ad X a0)), some (.int x1), some (.int x2), some (.int x3), none, none] [] μ0 (o_QZ q) := by
  unfold fX12_weekStep_j37 at h
  refine s_iconst dX12_weekStep_37 kI_1 ?_
  refine s_goto (tgt := 42) dX12_weekStep_38 rfl ?_
  refine s_mask [true, true, true, true, false, false] (L' := [some (.ref (o_ad X a0)), some (.int x1), some (.int x2), some (.int x3), none, none]) rfl ?_
  exact dnX12_weekStep_j42 hX h0 h
set_option maxRecDepth 20000 in
theorem dnX12_weekStep {X : o_Cx} (hX : o_ok X) {d : Nat} {a0 : Nat} {μ0 : o_Mem} {q : Int32 → o_Mem → Prop} (h0 : o_is X a0 (.inl 12)) (h : o_Post (fX12_weekStep (o_rf X) a0 μ0) q) : o_Ev X (d + 9) mX12_weekStep 0 [some (.ref (o_ad X a0)), none, none, none, none, none] [] μ0 (o_QZ q) := by
  unfold fX12_weekStep at h
  refine s_aload_n (i := 0) dX12_weekStep_0 rfl rfl ?_
  refine s_ldcS1 rfl dX12_weekStep_1 ?_
  refine s_callVi (C := mX12_inWords) (As := [.ref (o_aK X 1)]) (rest := []) (L0 := [some (.ref (o_ad X a0)), some (.ref (o_aK X 1)), none, none, none, none, none]) hX h0 clX12_172 dX12_weekStep_3 rfl rfl (Nat.le_of_ble_eq_true rfl) (Nat.le_of_ble_eq_true rfl) (dnX12_inWords hX h0 (o_bdp h)) (fun r1 μ1 h => ?_)
  refine s_istore_n (i := 1) dX12_weekStep_6 rfl (Nat.le_of_ble_eq_true rfl) rfl ?_
  refine s_aload_n (i := 0) dX12_weekStep_7 rfl rfl ?_
  refine s_getR hX h0 flX12_7 rfl dX12_weekStep_8 (fun (g1 : o_is X (o_rf X a0 0) (.inr (0, 3756))) => ?_)
  refine s_sipush dX12_weekStep_11 kS_2516 ?_
  refine s_ialdK g1 ⟨by decide, by decide⟩ kN_2516 dX12_weekStep_14 ?_
  refine s_istore_n (i := 2) dX12_weekStep_15 rfl (Nat.le_of_ble_eq_true rfl) rfl ?_
  refine s_sipush dX12_weekStep_16 kS_2763 ?_
  refine s_bipush dX12_weekStep_19 kB_6 ?_
  refine s_iload_n (i := 2) dX12_weekStep_21 rfl rfl ?_
  refine s_imul dX12_weekStep_22 ?_
  refine s_iadd dX12_weekStep_23 ?_
  refine s_istore_n (i := 3) dX12_weekStep_24 rfl (Nat.le_of_ble_eq_true rfl) rfl ?_
  refine s_iload_n (i := 1) dX12_weekStep_25 rfl rfl ?_
  refine s_bipush dX12_weekStep_26 kB_20 ?_
  refine s_icmp_eq (tgt := 37) dX12_weekStep_28 rfl (fun c1 => ?_) (fun c1 => ?_)
  · have h := o_if_t c1 h
    refine s_mask [true, true, true, true, false, false] (L' := [some (.ref (o_ad X a0)), some (.int r1), some (.int (μ1.1 (o_rf X a0 0) 2516)), some (.int (2763 + (6 * (μ1.1 (o_rf X a0 0) 2516)))), none, none]) rfl ?_
    exact dnX12_weekStep_j37 hX h0 h
  · have h := o_if_f c1 h
    refine s_iload_n (i := 1) dX12_weekStep_31 rfl rfl ?_
    refine s_bipush dX12_weekStep_32 kB_21 ?_
    refine s_icmp_ne (tgt := 41) dX12_weekStep_34 rfl (fun c1 => ?_) (fun c1 => ?_)
    · have h := o_if_f c1 h
      refine s_iconst dX12_weekStep_41 kI_0 ?_
      refine s_mask [true, true, true, true, false, false] (L' := [some (.ref (o_ad X a0)), some (.int r1), some (.int (μ1.1 (o_rf X a0 0) 2516)), some (.int (2763 + (6 * (μ1.1 (o_rf X a0 0) 2516)))), none, none]) rfl ?_
      exact dnX12_weekStep_j42 hX h0 h
    · have h := o_if_t c1 h
      refine s_mask [true, true, true, true, false, false] (L' := [some (.ref (o_ad X a0)), some (.int r1), some (.int (μ1.1 (o_rf X a0 0) 2516)), some (.int (2763 + (6 * (μ1.1 (o_rf X a0 0) 2516)))), none, none]) rfl ?_
      exact dnX12_weekStep_j37 hX h0 h
theorem dX12_weeks_0 : decode cX12_weeks 0 = .ok (.aload_n 0, 1) := by decide +kernel
theorem dX12_weeks_1 : decode cX12_weeks 1 = .ok (.iload_n 1, 1) := by decide +kernel
theorem dX12_weeks_2 : decode cX12_weeks 2 = .ok (.sipush 300, 3) := by decide +kernel
theorem dX12_weeks_5 : decode cX12_weeks 5 = .ok (.invokevirtual 242, 3) := by decide +kernel
theorem dX12_weeks_8 : decode cX12_weeks 8 = .ok (.ifCond .ne 9, 3) := by decide +kernel
theorem dX12_weeks_11 : decode cX12_weeks 11 = .ok (.aload_n 0, 1) := by decide +kernel
theorem dX12_weeks_12 : decode cX12_weeks 12 = .ok (.iconst 1, 1) := by decide +kernel
theorem dX12_weeks_13 : decode cX12_weeks 13 = .ok (.invokevirtual 87, 3) := by decide +kernel
theorem dX12_weeks_16 : decode cX12_weeks 16 = .ok (.ireturn, 1) := by decide +kernel
theorem dX12_weeks_17 : decode cX12_weeks 17 = .ok (.aload_n 0, 1) := by decide +kernel
theorem dX12_weeks_18 : decode cX12_weeks 18 = .ok (.getfield 7, 3) := by decide +kernel
theorem dX12_weeks_21 : decode cX12_weeks 21 = .ok (.sipush 2516, 3) := by decide +kernel
theorem dX12_weeks_24 : decode cX12_weeks 24 = .ok (.iconst 0, 1) := by decide +kernel
theorem dX12_weeks_25 : decode cX12_weeks 25 = .ok (.iastore, 1) := by decide +kernel
theorem dX12_weeks_26 : decode cX12_weeks 26 = .ok (.aload_n 0, 1) := by decide +kernel
theorem dX12_weeks_27 : decode cX12_weeks 27 = .ok (.iconst 0, 1) := by decide +kernel
theorem dX12_weeks_28 : decode cX12_weeks 28 = .ok (.putfield 257, 3) := by decide +kernel
theorem dX12_weeks_31 : decode cX12_weeks 31 = .ok (.aload_n 0, 1) := by decide +kernel
theorem dX12_weeks_32 : decode cX12_weeks 32 = .ok (.iconst 0, 1) := by decide +kernel
theorem dX12_weeks_33 : decode cX12_weeks 33 = .ok (.putfield 260, 3) := by decide +kernel
theorem dX12_weeks_36 : decode cX12_weeks 36 = .ok (.iconst 1, 1) := by decide +kernel
theorem dX12_weeks_37 : decode cX12_weeks 37 = .ok (.istore_n 2, 1) := by decide +kernel
theorem dX12_weeks_38 : decode cX12_weeks 38 = .ok (.iload_n 2, 1) := by decide +kernel
theorem dX12_weeks_39 : decode cX12_weeks 39 = .ok (.ifCond .eq 18, 3) := by decide +kernel
theorem dX12_weeks_42 : decode cX12_weeks 42 = .ok (.aload_n 0, 1) := by decide +kernel
theorem dX12_weeks_43 : decode cX12_weeks 43 = .ok (.getfield 132, 3) := by decide +kernel
theorem dX12_weeks_46 : decode cX12_weeks 46 = .ok (.ifCond .eq 11, 3) := by decide +kernel
theorem dX12_weeks_49 : decode cX12_weeks 49 = .ok (.aload_n 0, 1) := by decide +kernel
theorem dX12_weeks_50 : decode cX12_weeks 50 = .ok (.invokevirtual 266, 3) := by decide +kernel
theorem dX12_weeks_53 : decode cX12_weeks 53 = .ok (.istore_n 2, 1) := by decide +kernel
theorem dX12_weeks_54 : decode cX12_weeks 54 = .ok (.goto (-16), 3) := by decide +kernel
theorem dX12_weeks_57 : decode cX12_weeks 57 = .ok (.aload_n 0, 1) := by decide +kernel
theorem dX12_weeks_58 : decode cX12_weeks 58 = .ok (.getfield 157, 3) := by decide +kernel
theorem dX12_weeks_61 : decode cX12_weeks 61 = .ok (.ifCond .ne 16, 3) := by decide +kernel
theorem dX12_weeks_64 : decode cX12_weeks 64 = .ok (.aload_n 0, 1) := by decide +kernel
theorem dX12_weeks_65 : decode cX12_weeks 65 = .ok (.getfield 257, 3) := by decide +kernel
theorem dX12_weeks_68 : decode cX12_weeks 68 = .ok (.ifCond .le 9, 3) := by decide +kernel
theorem dX12_weeks_71 : decode cX12_weeks 71 = .ok (.aload_n 0, 1) := by decide +kernel
theorem dX12_weeks_72 : decode cX12_weeks 72 = .ok (.iconst 2, 1) := by decide +kernel
theorem dX12_weeks_73 : decode cX12_weeks 73 = .ok (.invokevirtual 169, 3) := by decide +kernel
theorem dX12_weeks_76 : decode cX12_weeks 76 = .ok (.pop, 1) := by decide +kernel
theorem dX12_weeks_77 : decode cX12_weeks 77 = .ok (.aload_n 0, 1) := by decide +kernel
theorem dX12_weeks_78 : decode cX12_weeks 78 = .ok (.getfield 157, 3) := by decide +kernel
theorem dX12_weeks_81 : decode cX12_weeks 81 = .ok (.ifCond .ne 51, 3) := by decide +kernel
theorem dX12_weeks_84 : decode cX12_weeks 84 = .ok (.aload_n 0, 1) := by decide +kernel
theorem dX12_weeks_85 : decode cX12_weeks 85 = .ok (.getfield 7, 3) := by decide +kernel
theorem dX12_weeks_88 : decode cX12_weeks 88 = .ok (.bipush 12, 2) := by decide +kernel
theorem dX12_weeks_90 : decode cX12_weeks 90 = .ok (.aload_n 0, 1) := by decide +kernel
theorem dX12_weeks_91 : decode cX12_weeks 91 = .ok (.getfield 7, 3) := by decide +kernel
theorem dX12_weeks_94 : decode cX12_weeks 94 = .ok (.sipush 2516, 3) := by decide +kernel
theorem dX12_weeks_97 : decode cX12_weeks 97 = .ok (.iaload, 1) := by decide +kernel
theorem dX12_weeks_98 : decode cX12_weeks 98 = .ok (.iastore, 1) := by decide +kernel
theorem dX12_weeks_99 : decode cX12_weeks 99 = .ok (.sipush 259, 3) := by decide +kernel
theorem dX12_weeks_102 : decode cX12_weeks 102 = .ok (.istore_n 3, 1) := by decide +kernel
theorem dX12_weeks_103 : decode cX12_weeks 103 = .ok (.iload_n 3, 1) := by decide +kernel
theorem dX12_weeks_104 : decode cX12_weeks 104 = .ok (.sipush 619, 3) := by decide +kernel
theorem dX12_weeks_107 : decode cX12_weeks 107 = .ok (.if_icmp .ge 25, 3) := by decide +kernel
theorem dX12_weeks_110 : decode cX12_weeks 110 = .ok (.aload_n 0, 1) := by decide +kernel
theorem dX12_weeks_111 : decode cX12_weeks 111 = .ok (.getfield 7, 3) := by decide +kernel
theorem dX12_weeks_114 : decode cX12_weeks 114 = .ok (.iload_n 3, 1) := by decide +kernel
theorem dX12_weeks_115 : decode cX12_weeks 115 = .ok (.aload_n 0, 1) := by decide +kernel
theorem dX12_weeks_116 : decode cX12_weeks 116 = .ok (.getfield 7, 3) := by decide +kernel
theorem dX12_weeks_119 : decode cX12_weeks 119 = .ok (.sipush 2504, 3) := by decide +kernel
theorem dX12_weeks_122 : decode cX12_weeks 122 = .ok (.iload_n 3, 1) := by decide +kernel
theorem dX12_weeks_123 : decode cX12_weeks 123 = .ok (.iadd, 1) := by decide +kernel
theorem dX12_weeks_124 : decode cX12_weeks 124 = .ok (.iaload, 1) := by decide +kernel
theorem dX12_weeks_125 : decode cX12_weeks 125 = .ok (.iastore, 1) := by decide +kernel
theorem dX12_weeks_126 : decode cX12_weeks 126 = .ok (.iinc 3 1, 3) := by decide +kernel
theorem dX12_weeks_129 : decode cX12_weeks 129 = .ok (.goto (-26), 3) := by decide +kernel
theorem dX12_weeks_132 : decode cX12_weeks 132 = .ok (.aload_n 0, 1) := by decide +kernel
theorem dX12_weeks_133 : decode cX12_weeks 133 = .ok (.aload_n 0, 1) := by decide +kernel
theorem dX12_weeks_134 : decode cX12_weeks 134 = .ok (.getfield 260, 3) := by decide +kernel
theorem dX12_weeks_137 : decode cX12_weeks 137 = .ok (.invokevirtual 248, 3) := by decide +kernel
theorem dX12_weeks_140 : decode cX12_weeks 140 = .ok (.ireturn, 1) := by decide +kernel
noncomputable def fX12_weeks_s38 (rf : Nat → Nat → Nat) (a0 : Nat) (τ38 : Int32) (μ0 : o_Mem) : Option ((Nat × (Int32)) × o_Mem) :=
  if τ38 = 0 then (
    some ((57, 0), μ0))
  else (
    if (μ0.1 a0 12) = 0 then (
      some ((57, 0), μ0))
    else (
      o_bd (fX12_weekStep rf a0 μ0) fun r1 μ1 =>
      some ((38, r1), μ1)))
noncomputable def fX12_weeks_j132 (rf : Nat → Nat → Nat) (a0 : Nat) (μ0 : o_Mem) : Option (Int32 × o_Mem) :=
  o_bd (fX12_taken rf a0 (μ0.1 a0 23) μ0) fun r1 μ1 =>
  some (r1, μ1)
noncomputable def fX12_weeks_s103 (rf : Nat → Nat → Nat) (a0 : Nat) (τ103 : Int32) (μ0 : o_Mem) : Option ((Nat × (Int32)) × o_Mem) :=
  if 619 ≤ τ103 then (
    some ((132, 0), μ0))
  else (
    o_ck (0 ≤ ((2504 + τ103)).toInt ∧ ((2504 + τ103)).toInt < 3756) <|
    o_ck (0 ≤ (τ103).toInt ∧ (τ103).toInt < 3756) <|
    o_seq (o_wI μ0 (rf a0 0) τ103.toNatClampNeg (μ0.1 (rf a0 0) ((2504 + τ103)).toNatClampNeg)) fun μ1 =>
    some ((103, (τ103 + 1)), μ1))
noncomputable def fX12_weeks_j77 (rf : Nat → Nat → Nat) (a0 : Nat) (μ0 : o_Mem) : Option (Int32 × o_Mem) :=
  if (μ0.1 a0 18) = 0 then (
    o_seq (o_wI μ0 (rf a0 0) 12 (μ0.1 (rf a0 0) 2516)) fun μ1 =>
    o_bd (o_lp 103 (fX12_weeks_s103 rf a0) o_fuel (259 : Int32) μ1) fun ex2 μ2 =>
    if ex2.1 = 132 then (
      fX12_weeks_j132 rf a0 μ2)
    else
      none)
  else (
    fX12_weeks_j132 rf a0 μ0)
noncomputable def fX12_weeks_j57 (rf : Nat → Nat → Nat) (a0 : Nat) (μ0 : o_Mem) : Option (Int32 × o_Mem) :=
  if (μ0.1 a0 18) = 0 then (
    if (μ0.1 a0 22) ≤ 0 then (
      fX12_weeks_j77 rf a0 μ0)
    else (
      o_bd (fX12_fails rf a0 2 μ0) fun r1 μ1 =>
      fX12_weeks_j77 rf a0 μ1))
  else (
    fX12_weeks_j77 rf a0 μ0)
noncomputable def fX12_weeks (rf : Nat → Nat → Nat) (a0 : Nat) (x1 : Int32) (μ0 : o_Mem) : Option (Int32 × o_Mem) :=
  o_bd (fX12_begins rf a0 x1 300 μ0) fun r1 μ1 =>
  if r1 = 0 then (
    o_bd (fX12_refuse rf a0 1 μ1) fun r2 μ6 =>
    some (r2, μ6))
  else (
    o_seq (o_wI μ1 (rf a0 0) 2516 0) fun μ2 =>
    o_seq (o_wI μ2 a0 22 0) fun μ3 =>
    o_seq (o_wI μ3 a0 23 0) fun μ4 =>
    o_bd (o_lp 38 (fX12_weeks_s38 rf a0) o_fuel (1 : Int32) μ4) fun ex5 μ5 =>
    if ex5.1 = 57 then (
      fX12_weeks_j57 rf a0 μ5)
    else
      none)
set_option maxRecDepth 20000 in
theorem dnX12_weeks_s38 {X : o_Cx} (hX : o_ok X) {d : Nat} {a0 : Nat} {τ38 : Int32} {μ0 : o_Mem} {K : (Nat × (Int32)) → o_Mem → Prop} {Q : Option Value → o_Mem → Prop} (h0 : o_is X a0 (.inl 12)) (h : o_Post (fX12_weeks_s38 (o_rf X) a0 τ38 μ0) K) (kh : ∀ (τ38 : Int32) (μ : o_Mem), K (38, τ38) μ → o_Ev X (d + 10) mX12_weeks 38 [some (.ref (o_ad X a0)), none, some (.int τ38), none] [] μ Q) (k57 : ∀ (τ38 : Int32) (μ : o_Mem), K (57, τ38) μ → o_Ev X (d + 10) mX12_weeks 57 [some (.ref (o_ad X a0)), none, none, none] [] μ Q) : o_Ev X (d + 10) mX12_weeks 38 [some (.ref (o_ad X a0)), none, some (.int τ38), none] [] μ0 Q := by
  unfold fX12_weeks_s38 at h
  refine s_iload_n (i := 2) dX12_weeks_38 rfl rfl ?_
  refine s_if_eq (tgt := 57) dX12_weeks_39 rfl (fun c1 => ?_) (fun c1 => ?_)
  · have h := o_if_t c1 h
    refine s_mask [true, false, false, false] (L' := [some (.ref (o_ad X a0)), none, none, none]) rfl ?_
    exact k57 0 _ (o_ret h)
  · have h := o_if_f c1 h
    refine s_aload_n (i := 0) dX12_weeks_42 rfl rfl ?_
    refine s_getI h0 flX12_132 rfl dX12_weeks_43 ?_
    refine s_if_eq (tgt := 57) dX12_weeks_46 rfl (fun c1 => ?_) (fun c1 => ?_)
    · have h := o_if_t c1 h
      refine s_mask [true, false, false, false] (L' := [some (.ref (o_ad X a0)), none, none, none]) rfl ?_
      exact k57 0 _ (o_ret h)
    · have h := o_if_f c1 h
      refine s_aload_n (i := 0) dX12_weeks_49 rfl rfl ?_
      refine s_callVz (C := mX12_weekStep) (As := []) (rest := []) (L0 := [some (.ref (o_ad X a0)), none, none, none, none, none]) hX h0 clX12_266 dX12_weeks_50 rfl rfl (Nat.le_of_ble_eq_true rfl) (Nat.le_of_ble_eq_true rfl) (dnX12_weekStep hX h0 (o_bdp h)) (fun r1 μ1 zr1 h => ?_)
      refine s_istore_n (i := 2) dX12_weeks_53 rfl (Nat.le_of_ble_eq_true rfl) rfl ?_
      refine s_goto (tgt := 38) dX12_weeks_54 rfl ?_
      refine s_mask [true, false, true, false] (L' := [some (.ref (o_ad X a0)), none, some (.int r1), none]) rfl ?_
      exact kh r1 _ (o_ret h)
set_option maxRecDepth 20000 in
theorem dnX12_weeks_j132 {X : o_Cx} (hX : o_ok X) {d : Nat} {a0 : Nat} {μ0 : o_Mem} {q : Int32 → o_Mem → Prop} (h0 : o_is X a0 (.inl 12)) (h : o_Post (fX12_weeks_j132 (o_rf X) a0 μ0) q) : o_Ev X (d + 10) mX12_weeks 132 [some (.ref (o_ad X a0)), none, none, none] [] μ0 (o_QI q) := by
  unfold fX12_weeks_j132 at h
  refine s_aload_n (i := 0) dX12_weeks_132 rfl rfl ?_
  refine s_aload_n (i := 0) dX12_weeks_133 rfl rfl ?_
  refine s_getI h0 flX12_260 rfl dX12_weeks_134 ?_
  refine s_callVi (C := mX12_taken) (As := [.int (μ0.1 a0 23)]) (rest := []) (L0 := [some (.ref (o_ad X a0)), some (.int (μ0.1 a0 23))]) hX h0 clX12_248 dX12_weeks_137 rfl rfl (Nat.le_of_ble_eq_true rfl) (Nat.le_of_ble_eq_true rfl) (dnX12_taken hX h0 (o_bdp h)) (fun r1 μ1 h => ?_)
  exact s_ireturn rfl dX12_weeks_140 ⟨_, rfl, o_ret h⟩
set_option maxRecDepth 20000 in
theorem dnX12_weeks_s103 {X : o_Cx} (hX : o_ok X) {d : Nat} {a0 : Nat} {τ103 : Int32} {μ0 : o_Mem} {K : (Nat × (Int32)) → o_Mem → Prop} {Q : Option Value → o_Mem → Prop} (h0 : o_is X a0 (.inl 12)) (h : o_Post (fX12_weeks_s103 (o_rf X) a0 τ103 μ0) K) (kh : ∀ (τ103 : Int32) (μ : o_Mem), K (103, τ103) μ → o_Ev X (d + 10) mX12_weeks 103 [some (.ref (o_ad X a0)), none, none, some (.int τ103)] [] μ Q) (k132 : ∀ (τ103 : Int32) (μ : o_Mem), K (132, τ103) μ → o_Ev X (d + 10) mX12_weeks 132 [some (.ref (o_ad X a0)), none, none, none] [] μ Q) : o_Ev X (d + 10) mX12_weeks 103 [some (.ref (o_ad X a0)), none, none, some (.int τ103)] [] μ0 Q := by
  unfold fX12_weeks_s103 at h
  refine s_iload_n (i := 3) dX12_weeks_103 rfl rfl ?_
  refine s_sipush dX12_weeks_104 kS_619 ?_
  refine s_icmp_ge (tgt := 132) dX12_weeks_107 rfl (fun c1 => ?_) (fun c1 => ?_)
  · have h := o_if_t c1 h
    refine s_mask [true, false, false, false] (L' := [some (.ref (o_ad X a0)), none, none, none]) rfl ?_
    exact k132 0 _ (o_ret h)
  · have h := o_if_f c1 h
    refine s_aload_n (i := 0) dX12_weeks_110 rfl rfl ?_
    refine s_getR hX h0 flX12_7 rfl dX12_weeks_111 (fun (g1 : o_is X (o_rf X a0 0) (.inr (0, 3756))) => ?_)
    refine s_iload_n (i := 3) dX12_weeks_114 rfl rfl ?_
    refine s_aload_n (i := 0) dX12_weeks_115 rfl rfl ?_
    refine s_getR hX h0 flX12_7 rfl dX12_weeks_116 (fun (g2 : o_is X (o_rf X a0 0) (.inr (0, 3756))) => ?_)
    refine s_sipush dX12_weeks_119 kS_2504 ?_
    refine s_iload_n (i := 3) dX12_weeks_122 rfl rfl ?_
    refine s_iadd dX12_weeks_123 ?_
    have hc := o_ck_c h
    have h := o_ck_k h
    refine s_ialdK g2 hc rfl dX12_weeks_124 ?_
    have hc := o_ck_c h
    have h := o_ck_k h
    refine s_iastK hX g1 hc rfl dX12_weeks_125 (o_gen h (fun μ1 h => ?_))
    refine s_iinc (v := (τ103 + 1)) dX12_weeks_126 rfl rfl (Nat.le_of_ble_eq_true rfl) rfl ?_
    refine s_goto (tgt := 103) dX12_weeks_129 rfl ?_
    refine s_mask [true, false, false, true] (L' := [some (.ref (o_ad X a0)), none, none, some (.int (τ103 + 1))]) rfl ?_
    exact kh (τ103 + 1) _ (o_ret h)
set_option maxRecDepth 20000 in
theorem dnX12_weeks_j77 {X : o_Cx} (hX : o_ok X) {d : Nat} {a0 : Nat} {μ0 : o_Mem} {q : Int32 → o_Mem → Prop} (h0 : o_is X a0 (.inl 12)) (h : o_Post (fX12_weeks_j77 (o_rf X) a0 μ0) q) : o_Ev X (d + 10) mX12_weeks 77 [some (.ref (o_ad X a0)), none, none, none] [] μ0 (o_QI q) := by
  unfold fX12_weeks_j77 at h
  refine s_aload_n (i := 0) dX12_weeks_77 rfl rfl ?_
  refine s_getI h0 flX12_157 rfl dX12_weeks_78 ?_
  refine s_if_ne (tgt := 132) dX12_weeks_81 rfl (fun c1 => ?_) (fun c1 => ?_)
  · have h := o_if_f c1 h
    refine s_mask [true, false, false, false] (L' := [some (.ref (o_ad X a0)), none, none, none]) rfl ?_
    exact dnX12_weeks_j132 hX h0 h
  · have h := o_if_t c1 h
    refine s_aload_n (i := 0) dX12_weeks_84 rfl rfl ?_
    refine s_getR hX h0 flX12_7 rfl dX12_weeks_85 (fun (g1 : o_is X (o_rf X a0 0) (.inr (0, 3756))) => ?_)
    refine s_bipush dX12_weeks_88 kB_12 ?_
    refine s_aload_n (i := 0) dX12_weeks_90 rfl rfl ?_
    refine s_getR hX h0 flX12_7 rfl dX12_weeks_91 (fun (g2 : o_is X (o_rf X a0 0) (.inr (0, 3756))) => ?_)
    refine s_sipush dX12_weeks_94 kS_2516 ?_
    refine s_ialdK g2 ⟨by decide, by decide⟩ kN_2516 dX12_weeks_97 ?_
    refine s_iastK hX g1 ⟨by decide, by decide⟩ kN_12 dX12_weeks_98 (o_gen h (fun μ1 h => ?_))
    refine s_sipush dX12_weeks_99 kS_259 ?_
    refine s_istore_n (i := 3) dX12_weeks_102 rfl (Nat.le_of_ble_eq_true rfl) rfl ?_
    refine s_mask [true, false, false, true] (L' := [some (.ref (o_ad X a0)), none, none, some (.int 259)]) rfl ?_
    refine o_lp_ev (fun τ103 => [some (.ref (o_ad X a0)), none, none, some (.int τ103)]) (fun τ103 μ _K h kv ke103 => dnX12_weeks_s103 hX h0 h kv (fun τ103 μ2 h => ?_)) o_fuel 259 μ1 (o_bdp h)
    · have h := o_if_t rfl (ke103 (132, τ103) μ2 (o_ne rfl) h)
      refine s_mask [true, false, false, false] (L' := [some (.ref (o_ad X a0)), none, none, none]) rfl ?_
      exact dnX12_weeks_j132 hX h0 h
set_option maxRecDepth 20000 in
theorem dnX12_weeks_j57 {X : o_Cx} (hX : o_ok X) {d : Nat} {a0 : Nat} {μ0 : o_Mem} {q : Int32 → o_Mem → Prop} (h0 : o_is X a0 (.inl 12)) (h : o_Post (fX12_weeks_j57 (o_rf X) a0 μ0) q) : o_Ev X (d + 10) mX12_weeks 57 [some (.ref (o_ad X a0)), none, none, none] [] μ0 (o_QI q) := by
  unfold fX12_weeks_j57 at h
  refine s_aload_n (i := 0) dX12_weeks_57 rfl rfl ?_
  refine s_getI h0 flX12_157 rfl dX12_weeks_58 ?_
  refine s_if_ne (tgt := 77) dX12_weeks_61 rfl (fun c1 => ?_) (fun c1 => ?_)
  · have h := o_if_f c1 h
    refine s_mask [true, false, false, false] (L' := [some (.ref (o_ad X a0)), none, none, none]) rfl ?_
    exact dnX12_weeks_j77 hX h0 h
  · have h := o_if_t c1 h
    refine s_aload_n (i := 0) dX12_weeks_64 rfl rfl ?_
    refine s_getI h0 flX12_257 rfl dX12_weeks_65 ?_
    refine s_if_le (tgt := 77) dX12_weeks_68 rfl (fun c1 => ?_) (fun c1 => ?_)
    · have h := o_if_t c1 h
      refine s_mask [true, false, false, false] (L' := [some (.ref (o_ad X a0)), none, none, none]) rfl ?_
      exact dnX12_weeks_j77 hX h0 h
    · have h := o_if_f c1 h
      refine s_aload_n (i := 0) dX12_weeks_71 rfl rfl ?_
      refine s_iconst dX12_weeks_72 kI_2 ?_
      refine s_callVz (C := mX12_fails) (As := [.int 2]) (rest := []) (L0 := [some (.ref (o_ad X a0)), some (.int 2)]) hX h0 clX12_169 dX12_weeks_73 rfl rfl (Nat.le_of_ble_eq_true rfl) (Nat.le_of_ble_eq_true rfl) (dnX12_fails hX h0 (o_bdp h)) (fun r1 μ1 zr1 h => ?_)
      refine s_pop dX12_weeks_76 rfl ?_
      refine s_mask [true, false, false, false] (L' := [some (.ref (o_ad X a0)), none, none, none]) rfl ?_
      exact dnX12_weeks_j77 hX h0 h
set_option maxRecDepth 20000 in
theorem dnX12_weeks {X : o_Cx} (hX : o_ok X) {d : Nat} {a0 : Nat} {x1 : Int32} {μ0 : o_Mem} {q : Int32 → o_Mem → Prop} (h0 : o_is X a0 (.inl 12)) (h : o_Post (fX12_weeks (o_rf X) a0 x1 μ0) q) : o_Ev X (d + 10) mX12_weeks 0 [some (.ref (o_ad X a0)), some (.int x1), none, none] [] μ0 (o_QI q) := by
  unfold fX12_weeks at h
  refine s_aload_n (i := 0) dX12_weeks_0 rfl rfl ?_
  refine s_iload_n (i := 1) dX12_weeks_1 rfl rfl ?_
  refine s_sipush dX12_weeks_2 kS_300 ?_
  refine s_callVz (C := mX12_begins) (As := [.int x1, .int 300]) (rest := []) (L0 := [some (.ref (o_ad X a0)), some (.int x1), some (.int 300), none]) hX h0 clX12_242 dX12_weeks_5 rfl rfl (Nat.le_of_ble_eq_true rfl) (Nat.le_of_ble_eq_true rfl) (dnX12_begins hX h0 (o_bdp h)) (fun r1 μ1 zr1 h => ?_)
  refine s_if_ne (tgt := 17) dX12_weeks_8 rfl (fun c1 => ?_) (fun c1 => ?_)
  · have h := o_if_f c1 h
    refine s_aload_n (i := 0) dX12_weeks_17 rfl rfl ?_
    refine s_getR hX h0 flX12_7 rfl dX12_weeks_18 (fun (g1 : o_is X (o_rf X a0 0) (.inr (0, 3756))) => ?_)
    refine s_sipush dX12_weeks_21 kS_2516 ?_
    refine s_iconst dX12_weeks_24 kI_0 ?_
    refine s_iastK hX g1 ⟨by decide, by decide⟩ kN_2516 dX12_weeks_25 (o_gen h (fun μ2 h => ?_))
    refine s_aload_n (i := 0) dX12_weeks_26 rfl rfl ?_
    refine s_iconst dX12_weeks_27 kI_0 ?_
    refine s_putI hX h0 fwX12_257 rfl dX12_weeks_28 (o_gen h (fun μ3 h => ?_))
    refine s_aload_n (i := 0) dX12_weeks_31 rfl rfl ?_
    refine s_iconst dX12_weeks_32 kI_0 ?_
    refine s_putI hX h0 fwX12_260 rfl dX12_weeks_33 (o_gen h (fun μ4 h => ?_))
    refine s_iconst dX12_weeks_36 kI_1 ?_
    refine s_istore_n (i := 2) dX12_weeks_37 rfl (Nat.le_of_ble_eq_true rfl) rfl ?_
    refine s_mask [true, false, true, false] (L' := [some (.ref (o_ad X a0)), none, some (.int 1), none]) rfl ?_
    refine o_lp_ev (fun τ38 => [some (.ref (o_ad X a0)), none, some (.int τ38), none]) (fun τ38 μ _K h kv ke38 => dnX12_weeks_s38 hX h0 h kv (fun τ38 μ5 h => ?_)) o_fuel 1 μ4 (o_bdp h)
    · have h := o_if_t rfl (ke38 (57, τ38) μ5 (o_ne rfl) h)
      refine s_mask [true, false, false, false] (L' := [some (.ref (o_ad X a0)), none, none, none]) rfl ?_
      exact dnX12_weeks_j57 hX h0 h
  · have h := o_if_t c1 h
    refine s_aload_n (i := 0) dX12_weeks_11 rfl rfl ?_
    refine s_iconst dX12_weeks_12 kI_1 ?_
    refine s_callVi (C := mX12_refuse) (As := [.int 1]) (rest := []) (L0 := [some (.ref (o_ad X a0)), some (.int 1)]) hX h0 clX12_87 dX12_weeks_13 rfl rfl (Nat.le_of_ble_eq_true rfl) (Nat.le_of_ble_eq_true rfl) (dnX12_refuse hX h0 (o_bdp h)) (fun r2 μ6 h => ?_)
    exact s_ireturn rfl dX12_weeks_16 ⟨_, rfl, o_ret h⟩
