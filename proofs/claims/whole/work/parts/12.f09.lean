theorem dX10_takeEnd_0 : decode cX10_takeEnd 0 = .ok (.aload_n 0, 1) := by decide +kernel
theorem dX10_takeEnd_1 : decode cX10_takeEnd 1 = .ok (.getfield 42, 3) := by decide +kernel
theorem dX10_takeEnd_4 : decode cX10_takeEnd 4 = .ok (.ifCond .gt 12, 3) := by decide +kernel
theorem dX10_takeEnd_7 : decode cX10_takeEnd 7 = .ok (.aload_n 0, 1) := by decide +kernel
theorem dX10_takeEnd_8 : decode cX10_takeEnd 8 = .ok (.getfield 15, 3) := by decide +kernel
theorem dX10_takeEnd_11 : decode cX10_takeEnd 11 = .ok (.iconst 2, 1) := by decide +kernel
theorem dX10_takeEnd_12 : decode cX10_takeEnd 12 = .ok (.invokevirtual 66, 3) := by decide +kernel
theorem dX10_takeEnd_15 : decode cX10_takeEnd 15 = .ok (.ireturn, 1) := by decide +kernel
theorem dX10_takeEnd_16 : decode cX10_takeEnd 16 = .ok (.aload_n 0, 1) := by decide +kernel
theorem dX10_takeEnd_17 : decode cX10_takeEnd 17 = .ok (.dup, 1) := by decide +kernel
theorem dX10_takeEnd_18 : decode cX10_takeEnd 18 = .ok (.getfield 42, 3) := by decide +kernel
theorem dX10_takeEnd_21 : decode cX10_takeEnd 21 = .ok (.iconst 1, 1) := by decide +kernel
theorem dX10_takeEnd_22 : decode cX10_takeEnd 22 = .ok (.isub, 1) := by decide +kernel
theorem dX10_takeEnd_23 : decode cX10_takeEnd 23 = .ok (.putfield 42, 3) := by decide +kernel
theorem dX10_takeEnd_26 : decode cX10_takeEnd 26 = .ok (.aload_n 0, 1) := by decide +kernel
theorem dX10_takeEnd_27 : decode cX10_takeEnd 27 = .ok (.getfield 23, 3) := by decide +kernel
theorem dX10_takeEnd_30 : decode cX10_takeEnd 30 = .ok (.getfield 69, 3) := by decide +kernel
theorem dX10_takeEnd_33 : decode cX10_takeEnd 33 = .ok (.aload_n 0, 1) := by decide +kernel
theorem dX10_takeEnd_34 : decode cX10_takeEnd 34 = .ok (.getfield 9, 3) := by decide +kernel
theorem dX10_takeEnd_37 : decode cX10_takeEnd 37 = .ok (.aload_n 0, 1) := by decide +kernel
theorem dX10_takeEnd_38 : decode cX10_takeEnd 38 = .ok (.getfield 42, 3) := by decide +kernel
theorem dX10_takeEnd_41 : decode cX10_takeEnd 41 = .ok (.iaload, 1) := by decide +kernel
theorem dX10_takeEnd_42 : decode cX10_takeEnd 42 = .ok (.aload_n 0, 1) := by decide +kernel
theorem dX10_takeEnd_43 : decode cX10_takeEnd 43 = .ok (.getfield 23, 3) := by decide +kernel
theorem dX10_takeEnd_46 : decode cX10_takeEnd 46 = .ok (.getfield 72, 3) := by decide +kernel
theorem dX10_takeEnd_49 : decode cX10_takeEnd 49 = .ok (.iastore, 1) := by decide +kernel
theorem dX10_takeEnd_50 : decode cX10_takeEnd 50 = .ok (.aload_n 0, 1) := by decide +kernel
theorem dX10_takeEnd_51 : decode cX10_takeEnd 51 = .ok (.getfield 23, 3) := by decide +kernel
theorem dX10_takeEnd_54 : decode cX10_takeEnd 54 = .ok (.bipush 25, 2) := by decide +kernel
theorem dX10_takeEnd_56 : decode cX10_takeEnd 56 = .ok (.iconst 0, 1) := by decide +kernel
theorem dX10_takeEnd_57 : decode cX10_takeEnd 57 = .ok (.iconst 0, 1) := by decide +kernel
theorem dX10_takeEnd_58 : decode cX10_takeEnd 58 = .ok (.aload_n 0, 1) := by decide +kernel
theorem dX10_takeEnd_59 : decode cX10_takeEnd 59 = .ok (.getfield 9, 3) := by decide +kernel
theorem dX10_takeEnd_62 : decode cX10_takeEnd 62 = .ok (.aload_n 0, 1) := by decide +kernel
theorem dX10_takeEnd_63 : decode cX10_takeEnd 63 = .ok (.getfield 42, 3) := by decide +kernel
theorem dX10_takeEnd_66 : decode cX10_takeEnd 66 = .ok (.iaload, 1) := by decide +kernel
theorem dX10_takeEnd_67 : decode cX10_takeEnd 67 = .ok (.invokevirtual 75, 3) := by decide +kernel
theorem dX10_takeEnd_70 : decode cX10_takeEnd 70 = .ok (.aload_n 0, 1) := by decide +kernel
theorem dX10_takeEnd_71 : decode cX10_takeEnd 71 = .ok (.getfield 15, 3) := by decide +kernel
theorem dX10_takeEnd_74 : decode cX10_takeEnd 74 = .ok (.invokevirtual 79, 3) := by decide +kernel
theorem dX10_takeEnd_77 : decode cX10_takeEnd 77 = .ok (.aload_n 0, 1) := by decide +kernel
theorem dX10_takeEnd_78 : decode cX10_takeEnd 78 = .ok (.getfield 15, 3) := by decide +kernel
theorem dX10_takeEnd_81 : decode cX10_takeEnd 81 = .ok (.invokevirtual 63, 3) := by decide +kernel
theorem dX10_takeEnd_84 : decode cX10_takeEnd 84 = .ok (.ireturn, 1) := by decide +kernel
noncomputable def fX10_takeEnd (rf : Nat → Nat → Nat) (a0 : Nat) (μ0 : o_Mem) : Option (Int32 × o_Mem) :=
  if 0 < (μ0.1 a0 4) then (
    o_seq (o_wI μ0 a0 4 ((μ0.1 a0 4) - 1)) fun μ1 =>
    o_ck (0 ≤ ((μ1.1 a0 4)).toInt ∧ ((μ1.1 a0 4)).toInt < 3) <|
    o_ck (0 ≤ ((μ1.1 (rf a0 3) ((μ1.1 a0 4)).toNatClampNeg)).toInt ∧ ((μ1.1 (rf a0 3) ((μ1.1 a0 4)).toNatClampNeg)).toInt < 60) <|
    o_seq (o_wI μ1 (rf (rf a0 2) 6) (((μ1.1 (rf a0 3) ((μ1.1 a0 4)).toNatClampNeg)).toNatClampNeg) (μ1.1 (rf a0 2) 2)) fun μ2 =>
    o_ck (0 ≤ ((μ2.1 a0 4)).toInt ∧ ((μ2.1 a0 4)).toInt < 3) <|
    o_bd (fX3_add rf (rf a0 2) 25 0 0 (μ2.1 (rf a0 3) ((μ2.1 a0 4)).toNatClampNeg) μ2) fun _u μ3 =>
    o_bd (fX4_next rf (rf a0 0) μ3) fun _u μ4 =>
    o_bd (fX4_wantClose rf (rf a0 0) μ4) fun r1 μ5 =>
    some (r1, μ5))
  else (
    o_bd (fX4_fail rf (rf a0 0) 2 μ0) fun r2 μ6 =>
    some (r2, μ6))
set_option maxRecDepth 20000 in
theorem dnX10_takeEnd {X : o_Cx} (hX : o_ok X) {d : Nat} {a0 : Nat} {μ0 : o_Mem} {q : Int32 → o_Mem → Prop} (h0 : o_is X a0 (.inl 10)) (h : o_Post (fX10_takeEnd (o_rf X) a0 μ0) q) : o_Ev X (d + 7) mX10_takeEnd 0 [some (.ref (o_ad X a0))] [] μ0 (o_QZ q) := by
  unfold fX10_takeEnd at h
  refine s_aload_n (i := 0) dX10_takeEnd_0 rfl rfl ?_
  refine s_getI h0 flX10_42 rfl dX10_takeEnd_1 ?_
  refine s_if_gt (tgt := 16) dX10_takeEnd_4 rfl (fun c1 => ?_) (fun c1 => ?_)
  · have h := o_if_t c1 h
    refine s_aload_n (i := 0) dX10_takeEnd_16 rfl rfl ?_
    refine s_dup dX10_takeEnd_17 rfl ?_
    refine s_getI h0 flX10_42 rfl dX10_takeEnd_18 ?_
    refine s_iconst dX10_takeEnd_21 kI_1 ?_
    refine s_isub dX10_takeEnd_22 ?_
    refine s_putI hX h0 fwX10_42 rfl dX10_takeEnd_23 (o_gen h (fun μ1 h => ?_))
    refine s_aload_n (i := 0) dX10_takeEnd_26 rfl rfl ?_
    refine s_getR hX h0 flX10_23 rfl dX10_takeEnd_27 (fun (g1 : o_is X (o_rf X a0 2) (.inl 3)) => ?_)
    refine s_getR hX g1 flX10_69 rfl dX10_takeEnd_30 (fun (g2 : o_is X (o_rf X (o_rf X a0 2) 6) (.inr (0, 60))) => ?_)
    refine s_aload_n (i := 0) dX10_takeEnd_33 rfl rfl ?_
    refine s_getR hX h0 flX10_9 rfl dX10_takeEnd_34 (fun (g3 : o_is X (o_rf X a0 3) (.inr (0, 3))) => ?_)
    refine s_aload_n (i := 0) dX10_takeEnd_37 rfl rfl ?_
    refine s_getI h0 flX10_42 rfl dX10_takeEnd_38 ?_
    have hc := o_ck_c h
    have h := o_ck_k h
    refine s_ialdK g3 hc rfl dX10_takeEnd_41 ?_
    refine s_aload_n (i := 0) dX10_takeEnd_42 rfl rfl ?_
    refine s_getR hX h0 flX10_23 rfl dX10_takeEnd_43 (fun (g4 : o_is X (o_rf X a0 2) (.inl 3)) => ?_)
    refine s_getI g4 flX10_72 rfl dX10_takeEnd_46 ?_
    have hc := o_ck_c h
    have h := o_ck_k h
    refine s_iastK hX g2 hc rfl dX10_takeEnd_49 (o_gen h (fun μ2 h => ?_))
    refine s_aload_n (i := 0) dX10_takeEnd_50 rfl rfl ?_
    refine s_getR hX h0 flX10_23 rfl dX10_takeEnd_51 (fun (g5 : o_is X (o_rf X a0 2) (.inl 3)) => ?_)
    refine s_bipush dX10_takeEnd_54 kB_25 ?_
    refine s_iconst dX10_takeEnd_56 kI_0 ?_
    refine s_iconst dX10_takeEnd_57 kI_0 ?_
    refine s_aload_n (i := 0) dX10_takeEnd_58 rfl rfl ?_
    refine s_getR hX h0 flX10_9 rfl dX10_takeEnd_59 (fun (g6 : o_is X (o_rf X a0 3) (.inr (0, 3))) => ?_)
    refine s_aload_n (i := 0) dX10_takeEnd_62 rfl rfl ?_
    refine s_getI h0 flX10_42 rfl dX10_takeEnd_63 ?_
    have hc := o_ck_c h
    have h := o_ck_k h
    refine s_ialdK g6 hc rfl dX10_takeEnd_66 ?_
    refine s_callVu (C := mX3_add) (As := [.int 25, .int 0, .int 0, .int (μ2.1 (o_rf X a0 3) ((μ2.1 a0 4)).toNatClampNeg)]) (rest := []) (L0 := [some (.ref (o_ad X (o_rf X a0 2))), some (.int 25), some (.int 0), some (.int 0), some (.int (μ2.1 (o_rf X a0 3) ((μ2.1 a0 4)).toNatClampNeg))]) hX g5 clX10_75 dX10_takeEnd_67 rfl rfl (Nat.le_of_ble_eq_true rfl) (Nat.le_of_ble_eq_true rfl) (dnX3_add hX g5 (o_bdp h)) (fun _u μ3 h => ?_)
    refine s_aload_n (i := 0) dX10_takeEnd_70 rfl rfl ?_
    refine s_getR hX h0 flX10_15 rfl dX10_takeEnd_71 (fun (g7 : o_is X (o_rf X a0 0) (.inl 4)) => ?_)
    refine s_callVu (C := mX4_next) (As := []) (rest := []) (L0 := [some (.ref (o_ad X (o_rf X a0 0)))]) hX g7 clX10_79 dX10_takeEnd_74 rfl rfl (Nat.le_of_ble_eq_true rfl) (Nat.le_of_ble_eq_true rfl) (dnX4_next hX g7 (o_bdp h)) (fun _u μ4 h => ?_)
    refine s_aload_n (i := 0) dX10_takeEnd_77 rfl rfl ?_
    refine s_getR hX h0 flX10_15 rfl dX10_takeEnd_78 (fun (g8 : o_is X (o_rf X a0 0) (.inl 4)) => ?_)
    refine s_callVz (C := mX4_wantClose) (As := []) (rest := []) (L0 := [some (.ref (o_ad X (o_rf X a0 0)))]) hX g8 clX10_63 dX10_takeEnd_81 rfl rfl (Nat.le_of_ble_eq_true rfl) (Nat.le_of_ble_eq_true rfl) (dnX4_wantClose hX g8 (o_bdp h)) (fun r1 μ5 zr1 h => ?_)
    exact s_zreturn rfl zr1 dX10_takeEnd_84 ⟨_, rfl, zr1, o_ret h⟩
  · have h := o_if_f c1 h
    refine s_aload_n (i := 0) dX10_takeEnd_7 rfl rfl ?_
    refine s_getR hX h0 flX10_15 rfl dX10_takeEnd_8 (fun (g9 : o_is X (o_rf X a0 0) (.inl 4)) => ?_)
    refine s_iconst dX10_takeEnd_11 kI_2 ?_
    refine s_callVz (C := mX4_fail) (As := [.int 2]) (rest := []) (L0 := [some (.ref (o_ad X (o_rf X a0 0))), some (.int 2)]) hX g9 clX10_66 dX10_takeEnd_12 rfl rfl (Nat.le_of_ble_eq_true rfl) (Nat.le_of_ble_eq_true rfl) (dnX4_fail hX g9 (o_bdp h)) (fun r2 μ6 zr2 h => ?_)
    exact s_zreturn rfl zr2 dX10_takeEnd_15 ⟨_, rfl, zr2, o_ret h⟩
theorem dX10_accept_0 : decode cX10_accept 0 = .ok (.aload_n 0, 1) := by decide +kernel
theorem dX10_accept_1 : decode cX10_accept 1 = .ok (.getfield 15, 3) := by decide +kernel
theorem dX10_accept_4 : decode cX10_accept 4 = .ok (.iload_n 1, 1) := by decide +kernel
theorem dX10_accept_5 : decode cX10_accept 5 = .ok (.invokevirtual 27, 3) := by decide +kernel
theorem dX10_accept_8 : decode cX10_accept 8 = .ok (.aload_n 0, 1) := by decide +kernel
theorem dX10_accept_9 : decode cX10_accept 9 = .ok (.getfield 23, 3) := by decide +kernel
theorem dX10_accept_12 : decode cX10_accept 12 = .ok (.invokevirtual 33, 3) := by decide +kernel
theorem dX10_accept_15 : decode cX10_accept 15 = .ok (.aload_n 0, 1) := by decide +kernel
theorem dX10_accept_16 : decode cX10_accept 16 = .ok (.getfield 23, 3) := by decide +kernel
theorem dX10_accept_19 : decode cX10_accept 19 = .ok (.iconst 1, 1) := by decide +kernel
theorem dX10_accept_20 : decode cX10_accept 20 = .ok (.putfield 38, 3) := by decide +kernel
theorem dX10_accept_23 : decode cX10_accept 23 = .ok (.aload_n 0, 1) := by decide +kernel
theorem dX10_accept_24 : decode cX10_accept 24 = .ok (.iconst 0, 1) := by decide +kernel
theorem dX10_accept_25 : decode cX10_accept 25 = .ok (.putfield 42, 3) := by decide +kernel
theorem dX10_accept_28 : decode cX10_accept 28 = .ok (.iconst 1, 1) := by decide +kernel
theorem dX10_accept_29 : decode cX10_accept 29 = .ok (.istore_n 2, 1) := by decide +kernel
theorem dX10_accept_30 : decode cX10_accept 30 = .ok (.iconst 0, 1) := by decide +kernel
theorem dX10_accept_31 : decode cX10_accept 31 = .ok (.istore_n 3, 1) := by decide +kernel
theorem dX10_accept_32 : decode cX10_accept 32 = .ok (.iload_n 3, 1) := by decide +kernel
theorem dX10_accept_33 : decode cX10_accept 33 = .ok (.sipush 300, 3) := by decide +kernel
theorem dX10_accept_36 : decode cX10_accept 36 = .ok (.if_icmp .gt 80, 3) := by decide +kernel
theorem dX10_accept_39 : decode cX10_accept 39 = .ok (.iload_n 2, 1) := by decide +kernel
theorem dX10_accept_40 : decode cX10_accept 40 = .ok (.ifCond .eq 76, 3) := by decide +kernel
theorem dX10_accept_43 : decode cX10_accept 43 = .ok (.aload_n 0, 1) := by decide +kernel
theorem dX10_accept_44 : decode cX10_accept 44 = .ok (.getfield 15, 3) := by decide +kernel
theorem dX10_accept_47 : decode cX10_accept 47 = .ok (.getfield 46, 3) := by decide +kernel
theorem dX10_accept_50 : decode cX10_accept 50 = .ok (.ifCond .eq 66, 3) := by decide +kernel
theorem dX10_accept_53 : decode cX10_accept 53 = .ok (.aload_n 0, 1) := by decide +kernel
theorem dX10_accept_54 : decode cX10_accept 54 = .ok (.getfield 15, 3) := by decide +kernel
theorem dX10_accept_57 : decode cX10_accept 57 = .ok (.getfield 49, 3) := by decide +kernel
theorem dX10_accept_60 : decode cX10_accept 60 = .ok (.istore 4, 2) := by decide +kernel
theorem dX10_accept_62 : decode cX10_accept 62 = .ok (.iload 4, 2) := by decide +kernel
theorem dX10_accept_64 : decode cX10_accept 64 = .ok (.bipush 25, 2) := by decide +kernel
theorem dX10_accept_66 : decode cX10_accept 66 = .ok (.if_icmp .ne 10, 3) := by decide +kernel
theorem dX10_accept_69 : decode cX10_accept 69 = .ok (.aload_n 0, 1) := by decide +kernel
theorem dX10_accept_70 : decode cX10_accept 70 = .ok (.invokevirtual 52, 3) := by decide +kernel
theorem dX10_accept_73 : decode cX10_accept 73 = .ok (.goto 36, 3) := by decide +kernel
theorem dX10_accept_76 : decode cX10_accept 76 = .ok (.aload_n 0, 1) := by decide +kernel
theorem dX10_accept_77 : decode cX10_accept 77 = .ok (.iload 4, 2) := by decide +kernel
theorem dX10_accept_79 : decode cX10_accept 79 = .ok (.invokevirtual 56, 3) := by decide +kernel
theorem dX10_accept_82 : decode cX10_accept 82 = .ok (.ifCond .eq 26, 3) := by decide +kernel
theorem dX10_accept_85 : decode cX10_accept 85 = .ok (.aload_n 0, 1) := by decide +kernel
theorem dX10_accept_86 : decode cX10_accept 86 = .ok (.iload 4, 2) := by decide +kernel
theorem dX10_accept_88 : decode cX10_accept 88 = .ok (.invokevirtual 60, 3) := by decide +kernel
theorem dX10_accept_91 : decode cX10_accept 91 = .ok (.ifCond .eq 17, 3) := by decide +kernel
theorem dX10_accept_94 : decode cX10_accept 94 = .ok (.aload_n 0, 1) := by decide +kernel
theorem dX10_accept_95 : decode cX10_accept 95 = .ok (.getfield 15, 3) := by decide +kernel
theorem dX10_accept_98 : decode cX10_accept 98 = .ok (.invokevirtual 63, 3) := by decide +kernel
theorem dX10_accept_101 : decode cX10_accept 101 = .ok (.ifCond .eq 7, 3) := by decide +kernel
theorem dX10_accept_104 : decode cX10_accept 104 = .ok (.iconst 1, 1) := by decide +kernel
theorem dX10_accept_105 : decode cX10_accept 105 = .ok (.goto 4, 3) := by decide +kernel
theorem dX10_accept_108 : decode cX10_accept 108 = .ok (.iconst 0, 1) := by decide +kernel
theorem dX10_accept_109 : decode cX10_accept 109 = .ok (.istore_n 2, 1) := by decide +kernel
theorem dX10_accept_110 : decode cX10_accept 110 = .ok (.iinc 3 1, 3) := by decide +kernel
theorem dX10_accept_113 : decode cX10_accept 113 = .ok (.goto (-81), 3) := by decide +kernel
theorem dX10_accept_116 : decode cX10_accept 116 = .ok (.iload_n 2, 1) := by decide +kernel
theorem dX10_accept_117 : decode cX10_accept 117 = .ok (.ifCond .eq 19, 3) := by decide +kernel
theorem dX10_accept_120 : decode cX10_accept 120 = .ok (.aload_n 0, 1) := by decide +kernel
theorem dX10_accept_121 : decode cX10_accept 121 = .ok (.getfield 42, 3) := by decide +kernel
theorem dX10_accept_124 : decode cX10_accept 124 = .ok (.ifCond .le 12, 3) := by decide +kernel
theorem dX10_accept_127 : decode cX10_accept 127 = .ok (.aload_n 0, 1) := by decide +kernel
theorem dX10_accept_128 : decode cX10_accept 128 = .ok (.getfield 15, 3) := by decide +kernel
theorem dX10_accept_131 : decode cX10_accept 131 = .ok (.iconst 2, 1) := by decide +kernel
theorem dX10_accept_132 : decode cX10_accept 132 = .ok (.invokevirtual 66, 3) := by decide +kernel
theorem dX10_accept_135 : decode cX10_accept 135 = .ok (.istore_n 2, 1) := by decide +kernel
theorem dX10_accept_136 : decode cX10_accept 136 = .ok (.iload_n 2, 1) := by decide +kernel
theorem dX10_accept_137 : decode cX10_accept 137 = .ok (.ireturn, 1) := by decide +kernel
noncomputable def fX10_accept_j108 (rf : Nat → Nat → Nat) (a0 : Nat) (x3 : Int32) (μ0 : o_Mem) : Option ((Nat × (Int32 × Int32)) × o_Mem) :=
  some ((32, (0, (x3 + 1))), μ0)
noncomputable def fX10_accept_s32 (rf : Nat → Nat → Nat) (a0 : Nat) (τ32 : Int32 × Int32) (μ0 : o_Mem) : Option ((Nat × (Int32 × Int32)) × o_Mem) :=
  if 300 < τ32.2 then (
    some ((116, (τ32.1, 0)), μ0))
  else (
    if τ32.1 = 0 then (
      some ((116, (τ32.1, 0)), μ0))
    else (
      if (μ0.1 (rf a0 0) 7) = 0 then (
        some ((116, (τ32.1, 0)), μ0))
      else (
        if (μ0.1 (rf a0 0) 8) = 25 then (
          o_bd (fX10_takeEnd rf a0 μ0) fun r4 μ4 =>
          some ((32, (r4, (τ32.2 + 1))), μ4))
        else (
          o_bd (fX10_beginStep rf a0 (μ0.1 (rf a0 0) 8) μ0) fun r1 μ1 =>
          if r1 = 0 then (
            fX10_accept_j108 rf a0 τ32.2 μ1)
          else (
            o_bd (fX10_takeRest rf a0 (μ0.1 (rf a0 0) 8) μ1) fun r2 μ2 =>
            if r2 = 0 then (
              fX10_accept_j108 rf a0 τ32.2 μ2)
            else (
              o_bd (fX4_wantClose rf (rf a0 0) μ2) fun r3 μ3 =>
              if r3 = 0 then (
                fX10_accept_j108 rf a0 τ32.2 μ3)
              else (
                some ((32, (1, (τ32.2 + 1))), μ3))))))))
noncomputable def fX10_accept_j116 (rf : Nat → Nat → Nat) (a0 : Nat) (x2 : Int32) (μ0 : o_Mem) : Option (Int32 × o_Mem) :=
  if x2 = 0 then (
    o_ck (x2 = 0 ∨ x2 = 1) <|
    some (x2, μ0))
  else (
    if (μ0.1 a0 4) ≤ 0 then (
      o_ck (x2 = 0 ∨ x2 = 1) <|
      some (x2, μ0))
    else (
      o_bd (fX4_fail rf (rf a0 0) 2 μ0) fun r1 μ1 =>
      some (r1, μ1)))
noncomputable def fX10_accept (rf : Nat → Nat → Nat) (a0 : Nat) (x1 : Int32) (μ0 : o_Mem) : Option (Int32 × o_Mem) :=
  o_bd (fX4_begin rf (rf a0 0) x1 μ0) fun _u μ1 =>
  o_bd (fX3_clear rf (rf a0 2) μ1) fun _u μ2 =>
  o_seq (o_wI μ2 (rf a0 2) 0 1) fun μ3 =>
  o_seq (o_wI μ3 a0 4 0) fun μ4 =>
  o_bd (o_lp 32 (fX10_accept_s32 rf a0) o_fuel (1, 0) μ4) fun ex5 μ5 =>
  if ex5.1 = 116 then (
    fX10_accept_j116 rf a0 ex5.2.1 μ5)
  else
    none
set_option maxRecDepth 20000 in
theorem dnX10_accept_j108 {X : o_Cx} (hX : o_ok X) {d : Nat} {a0 : Nat} {x3 : Int32} {μ0 : o_Mem} {K : (Nat × (Int32 × Int32)) → o_Mem → Prop} {Q : Option Value → o_Mem → Prop} (h0 : o_is X a0 (.inl 10)) (h : o_Post (fX10_accept_j108 (o_rf X) a0 x3 μ0) K) (kh : ∀ (τ32 : Int32 × Int32) (μ : o_Mem), K (32, τ32) μ → o_Ev X (d + 9) mX10_accept 32 [some (.ref (o_ad X a0)), none, some (.int τ32.1), some (.int τ32.2), none] [] μ Q) (k116 : ∀ (τ32 : Int32 × Int32) (μ : o_Mem), K (116, τ32) μ → o_Ev X (d + 9) mX10_accept 116 [some (.ref (o_ad X a0)), none, some (.int τ32.1), none, none] [] μ Q) : o_Ev X (d + 9) mX10_accept 108 [some (.ref (o_ad X a0)), none, none, some (.int x3), none] [] μ0 Q := by
  unfold fX10_accept_j108 at h
  refine s_iconst dX10_accept_108 kI_0 ?_
  refine s_istore_n (i := 2) dX10_accept_109 rfl (Nat.le_of_ble_eq_true rfl) rfl ?_
  refine s_iinc (v := (x3 + 1)) dX10_accept_110 rfl rfl (Nat.le_of_ble_eq_true rfl) rfl ?_
  refine s_goto (tgt := 32) dX10_accept_113 rfl ?_
  refine s_mask [true, false, true, true, false] (L' := [some (.ref (o_ad X a0)), none, some (.int 0), some (.int (x3 + 1)), none]) rfl ?_
  exact kh (0, (x3 + 1)) _ (o_ret h)
set_option maxRecDepth 20000 in
theorem dnX10_accept_s32 {X : o_Cx} (hX : o_ok X) {d : Nat} {a0 : Nat} {τ32 : Int32 × Int32} {μ0 : o_Mem} {K : (Nat × (Int32 × Int32)) → o_Mem → Prop} {Q : Option Value → o_Mem → Prop} (h0 : o_is X a0 (.inl 10)) (h : o_Post (fX10_accept_s32 (o_rf X) a0 τ32 μ0) K) (kh : ∀ (τ32 : Int32 × Int32) (μ : o_Mem), K (32, τ32) μ → o_Ev X (d + 9) mX10_accept 32 [some (.ref (o_ad X a0)), none, some (.int τ32.1), some (.int τ32.2), none] [] μ Q) (k116 : ∀ (τ32 : Int32 × Int32) (μ : o_Mem), K (116, τ32) μ → o_Ev X (d + 9) mX10_accept 116 [some (.ref (o_ad X a0)), none, some (.int τ32.1), none, none] [] μ Q) : o_Ev X (d + 9) mX10_accept 32 [some (.ref (o_ad X a0)), none, some (.int τ32.1), some (.int τ32.2), none] [] μ0 Q := by
  unfold fX10_accept_s32 at h
  refine s_iload_n (i := 3) dX10_accept_32 rfl rfl ?_
  refine s_sipush dX10_accept_33 kS_300 ?_
  refine s_icmp_gt (tgt := 116) dX10_accept_36 rfl (fun c1 => ?_) (fun c1 => ?_)
  · have h := o_if_t c1 h
    refine s_mask [true, false, true, false, false] (L' := [some (.ref (o_ad X a0)), none, some (.int τ32.1), none, none]) rfl ?_
    exact k116 (τ32.1, 0) _ (o_ret h)
  · have h := o_if_f c1 h
    refine s_iload_n (i := 2) dX10_accept_39 rfl rfl ?_
    refine s_if_eq (tgt := 116) dX10_accept_40 rfl (fun c1 => ?_) (fun c1 => ?_)
    · have h := o_if_t c1 h
      refine s_mask [true, false, true, false, false] (L' := [some (.ref (o_ad X a0)), none, some (.int τ32.1), none, none]) rfl ?_
      exact k116 (τ32.1, 0) _ (o_ret h)
    · have h := o_if_f c1 h
      refine s_aload_n (i := 0) dX10_accept_43 rfl rfl ?_
      refine s_getR hX h0 flX10_15 rfl dX10_accept_44 (fun (g1 : o_is X (o_rf X a0 0) (.inl 4)) => ?_)
      refine s_getI g1 flX10_46 rfl dX10_accept_47 ?_
      refine s_if_eq (tgt := 116) dX10_accept_50 rfl (fun c1 => ?_) (fun c1 => ?_)
      · have h := o_if_t c1 h
        refine s_mask [true, false, true, false, false] (L' := [some (.ref (o_ad X a0)), none, some (.int τ32.1), none, none]) rfl ?_
        exact k116 (τ32.1, 0) _ (o_ret h)
      · have h := o_if_f c1 h
        refine s_aload_n (i := 0) dX10_accept_53 rfl rfl ?_
        refine s_getR hX h0 flX10_15 rfl dX10_accept_54 (fun (g2 : o_is X (o_rf X a0 0) (.inl 4)) => ?_)
        refine s_getI g2 flX10_49 rfl dX10_accept_57 ?_
        refine s_istore dX10_accept_60 (Nat.le_of_ble_eq_true rfl) rfl ?_
        refine s_iload dX10_accept_62 rfl ?_
        refine s_bipush dX10_accept_64 kB_25 ?_
        refine s_icmp_ne (tgt := 76) dX10_accept_66 rfl (fun c1 => ?_) (fun c1 => ?_)
        · have h := o_if_f c1 h
          refine s_aload_n (i := 0) dX10_accept_76 rfl rfl ?_
          refine s_iload dX10_accept_77 rfl ?_
          refine s_callVz (C := mX10_beginStep) (As := [.int (μ0.1 (o_rf X a0 0) 8)]) (rest := []) (L0 := [some (.ref (o_ad X a0)), some (.int (μ0.1 (o_rf X a0 0) 8)), none]) hX h0 clX10_56 dX10_accept_79 rfl rfl (Nat.le_of_ble_eq_true rfl) (Nat.le_of_ble_eq_true rfl) (dnX10_beginStep hX h0 (o_bdp h)) (fun r1 μ1 zr1 h => ?_)
          refine s_if_eq (tgt := 108) dX10_accept_82 rfl (fun c1 => ?_) (fun c1 => ?_)
          · have h := o_if_t c1 h
            refine s_mask [true, false, false, true, false] (L' := [some (.ref (o_ad X a0)), none, none, some (.int τ32.2), none]) rfl ?_
            exact dnX10_accept_j108 hX h0 h kh k116
          · have h := o_if_f c1 h
            refine s_aload_n (i := 0) dX10_accept_85 rfl rfl ?_
            refine s_iload dX10_accept_86 rfl ?_
            refine s_callVz (C := mX10_takeRest) (As := [.int (μ0.1 (o_rf X a0 0) 8)]) (rest := []) (L0 := [some (.ref (o_ad X a0)), some (.int (μ0.1 (o_rf X a0 0) 8))]) hX h0 clX10_60 dX10_accept_88 rfl rfl (Nat.le_of_ble_eq_true rfl) (Nat.le_of_ble_eq_true rfl) (dnX10_takeRest hX h0 (o_bdp h)) (fun r2 μ2 zr2 h => ?_)
            refine s_if_eq (tgt := 108) dX10_accept_91 rfl (fun c1 => ?_) (fun c1 => ?_)
            · have h := o_if_t c1 h
              refine s_mask [true, false, false, true, false] (L' := [some (.ref (o_ad X a0)), none, none, some (.int τ32.2), none]) rfl ?_
              exact dnX10_accept_j108 hX h0 h kh k116
            · have h := o_if_f c1 h
              refine s_aload_n (i := 0) dX10_accept_94 rfl rfl ?_
              refine s_getR hX h0 flX10_15 rfl dX10_accept_95 (fun (g3 : o_is X (o_rf X a0 0) (.inl 4)) => ?_)
              refine s_callVz (C := mX4_wantClose) (As := []) (rest := []) (L0 := [some (.ref (o_ad X (o_rf X a0 0)))]) hX g3 clX10_63 dX10_accept_98 rfl rfl (Nat.le_of_ble_eq_true rfl) (Nat.le_of_ble_eq_true rfl) (dnX4_wantClose hX g3 (o_bdp h)) (fun r3 μ3 zr3 h => ?_)
              refine s_if_eq (tgt := 108) dX10_accept_101 rfl (fun c1 => ?_) (fun c1 => ?_)
              · have h := o_if_t c1 h
                refine s_mask [true, false, false, true, false] (L' := [some (.ref (o_ad X a0)), none, none, some (.int τ32.2), none]) rfl ?_
                exact dnX10_accept_j108 hX h0 h kh k116
              · have h := o_if_f c1 h
                refine s_iconst dX10_accept_104 kI_1 ?_
                refine s_goto (tgt := 109) dX10_accept_105 rfl ?_
                refine s_istore_n (i := 2) dX10_accept_109 rfl (Nat.le_of_ble_eq_true rfl) rfl ?_
                refine s_iinc (v := (τ32.2 + 1)) dX10_accept_110 rfl rfl (Nat.le_of_ble_eq_true rfl) rfl ?_
                refine s_goto (tgt := 32) dX10_accept_113 rfl ?_
                refine s_mask [true, false, true, true, false] (L' := [some (.ref (o_ad X a0)), none, some (.int 1), some (.int (τ32.2 + 1)), none]) rfl ?_
                exact kh (1, (τ32.2 + 1)) _ (o_ret h)
        · have h := o_if_t c1 h
          refine s_aload_n (i := 0) dX10_accept_69 rfl rfl ?_
          refine s_callVz (C := mX10_takeEnd) (As := []) (rest := []) (L0 := [some (.ref (o_ad X a0))]) hX h0 clX10_52 dX10_accept_70 rfl rfl (Nat.le_of_ble_eq_true rfl) (Nat.le_of_ble_eq_true rfl) (dnX10_takeEnd hX h0 (o_bdp h)) (fun r4 μ4 zr4 h => ?_)
          refine s_goto (tgt := 109) dX10_accept_73 rfl ?_
          refine s_istore_n (i := 2) dX10_accept_109 rfl (Nat.le_of_ble_eq_true rfl) rfl ?_
          refine s_iinc (v := (τ32.2 + 1)) dX10_accept_110 rfl rfl (Nat.le_of_ble_eq_true rfl) rfl ?_
          refine s_goto (tgt := 32) dX10_accept_113 rfl ?_
          refine s_mask [true, false, true, true, false] (L' := [some (.ref (o_ad X a0)), none, some (.int r4), some (.int (τ32.2 + 1)), none]) rfl ?_
          exact kh (r4, (τ32.2 + 1)) _ (o_ret h)
set_option maxRecDepth 20000 in
theorem dnX10_accept_j116 {X : o_Cx} (hX : o_ok X) {d : Nat} {a0 : Nat} {x2 : Int32} {μ0 : o_Mem} {q : Int32 → o_Mem → Prop} (h0 : o_is X a0 (.inl 10)) (h : o_Post (fX10_accept_j116 (o_rf X) a0 x2 μ0) q) : o_Ev X (d + 9) mX10_accept 116 [some (.ref (o_ad X a0)), none, some (.int x2), none, none] [] μ0 (o_QZ q) := by
  unfold fX10_accept_j116 at h
  refine s_iload_n (i := 2) dX10_accept_116 rfl rfl ?_
  refine s_if_eq (tgt := 136) dX10_accept_117 rfl (fun c1 => ?_) (fun c1 => ?_)
  · have h := o_if_t c1 h
    refine s_iload_n (i := 2) dX10_accept_136 rfl rfl ?_
    exact s_zreturn rfl (o_ck_c h) dX10_accept_137 ⟨_, rfl, o_ck_c h, o_ret (o_ck_k h)⟩
  · have h := o_if_f c1 h
    refine s_aload_n (i := 0) dX10_accept_120 rfl rfl ?_
    refine s_getI h0 flX10_42 rfl dX10_accept_121 ?_
    refine s_if_le (tgt := 136) dX10_accept_124 rfl (fun c1 => ?_) (fun c1 => ?_)
    · have h := o_if_t c1 h
      refine s_iload_n (i := 2) dX10_accept_136 rfl rfl ?_
      exact s_zreturn rfl (o_ck_c h) dX10_accept_137 ⟨_, rfl, o_ck_c h, o_ret (o_ck_k h)⟩
    · have h := o_if_f c1 h
      refine s_aload_n (i := 0) dX10_accept_127 rfl rfl ?_
      refine s_getR hX h0 flX10_15 rfl dX10_accept_128 (fun (g1 : o_is X (o_rf X a0 0) (.inl 4)) => ?_)
      refine s_iconst dX10_accept_131 kI_2 ?_
      refine s_callVz (C := mX4_fail) (As := [.int 2]) (rest := []) (L0 := [some (.ref (o_ad X (o_rf X a0 0))), some (.int 2)]) hX g1 clX10_66 dX10_accept_132 rfl rfl (Nat.le_of_ble_eq_true rfl) (Nat.le_of_ble_eq_true rfl) (dnX4_fail hX g1 (o_bdp h)) (fun r1 μ1 zr1 h => ?_)
      refine s_istore_n (i := 2) dX10_accept_135 rfl (Nat.le_of_ble_eq_true rfl) rfl ?_
      refine s_iload_n (i := 2) dX10_accept_136 rfl rfl ?_
      exact s_zreturn rfl zr1 dX10_accept_137 ⟨_, rfl, zr1, o_ret h⟩
set_option maxRecDepth 20000 in
theorem dnX10_accept {X : o_Cx} (hX : o_ok X) {d : Nat} {a0 : Nat} {x1 : Int32} {μ0 : o_Mem} {q : Int32 → o_Mem → Prop} (h0 : o_is X a0 (.inl 10)) (h : o_Post (fX10_accept (o_rf X) a0 x1 μ0) q) : o_Ev X (d + 9) mX10_accept 0 [some (.ref (o_ad X a0)), some (.int x1), none, none, none] [] μ0 (o_QZ q) := by
  unfold fX10_accept at h
  refine s_aload_n (i := 0) dX10_accept_0 rfl rfl ?_
  refine s_getR hX h0 flX10_15 rfl dX10_accept_1 (fun (g1 : o_is X (o_rf X a0 0) (.inl 4)) => ?_)
  refine s_iload_n (i := 1) dX10_accept_4 rfl rfl ?_
  refine s_callVu (C := mX4_begin) (As := [.int x1]) (rest := []) (L0 := [some (.ref (o_ad X (o_rf X a0 0))), some (.int x1)]) hX g1 clX10_27 dX10_accept_5 rfl rfl (Nat.le_of_ble_eq_true rfl) (Nat.le_of_ble_eq_true rfl) (dnX4_begin hX g1 (o_bdp h)) (fun _u μ1 h => ?_)
  refine s_aload_n (i := 0) dX10_accept_8 rfl rfl ?_
  refine s_getR hX h0 flX10_23 rfl dX10_accept_9 (fun (g2 : o_is X (o_rf X a0 2) (.inl 3)) => ?_)
  refine s_callVu (C := mX3_clear) (As := []) (rest := []) (L0 := [some (.ref (o_ad X (o_rf X a0 2)))]) hX g2 clX10_33 dX10_accept_12 rfl rfl (Nat.le_of_ble_eq_true rfl) (Nat.le_of_ble_eq_true rfl) (dnX3_clear hX g2 (o_bdp h)) (fun _u μ2 h => ?_)
  refine s_aload_n (i := 0) dX10_accept_15 rfl rfl ?_
  refine s_getR hX h0 flX10_23 rfl dX10_accept_16 (fun (g3 : o_is X (o_rf X a0 2) (.inl 3)) => ?_)
  refine s_iconst dX10_accept_19 kI_1 ?_
  refine s_putZ hX g3 fwX10_38 rfl (Or.inr rfl) dX10_accept_20 (o_gen h (fun μ3 h => ?_))
  refine s_aload_n (i := 0) dX10_accept_23 rfl rfl ?_
  refine s_iconst dX10_accept_24 kI_0 ?_
  refine s_putI hX h0 fwX10_42 rfl dX10_accept_25 (o_gen h (fun μ4 h => ?_))
  refine s_iconst dX10_accept_28 kI_1 ?_
  refine s_istore_n (i := 2) dX10_accept_29 rfl (Nat.le_of_ble_eq_true rfl) rfl ?_
  refine s_iconst dX10_accept_30 kI_0 ?_
  refine s_istore_n (i := 3) dX10_accept_31 rfl (Nat.le_of_ble_eq_true rfl) rfl ?_
  refine s_mask [true, false, true, true, false] (L' := [some (.ref (o_ad X a0)), none, some (.int 1), some (.int 0), none]) rfl ?_
  refine o_lp_ev (fun τ32 => [some (.ref (o_ad X a0)), none, some (.int τ32.1), some (.int τ32.2), none]) (fun τ32 μ _K h kv ke32 => dnX10_accept_s32 hX h0 h kv (fun τ32 μ5 h => ?_)) o_fuel (1, 0) μ4 (o_bdp h)
  · have h := o_if_t rfl (ke32 (116, τ32) μ5 (o_ne rfl) h)
    refine s_mask [true, false, true, false, false] (L' := [some (.ref (o_ad X a0)), none, some (.int τ32.1), none, none]) rfl ?_
    exact dnX10_accept_j116 hX h0 h
theorem dX11_status_0 : decode cX11_status 0 = .ok (.aload_n 0, 1) := by decide +kernel
theorem dX11_status_1 : decode cX11_status 1 = .ok (.getfield 105, 3) := by decide +kernel
theorem dX11_status_4 : decode cX11_status 4 = .ok (.ireturn, 1) := by decide +kernel
noncomputable def fX11_status (rf : Nat → Nat → Nat) (a0 : Nat) (μ0 : o_Mem) : Option (Int32 × o_Mem) :=
  some ((μ0.1 a0 0), μ0)
set_option maxRecDepth 20000 in
theorem dnX11_status {X : o_Cx} (hX : o_ok X) {d : Nat} {a0 : Nat} {μ0 : o_Mem} {q : Int32 → o_Mem → Prop} (h0 : o_is X a0 (.inl 11)) (h : o_Post (fX11_status (o_rf X) a0 μ0) q) : o_Ev X (d + 0) mX11_status 0 [some (.ref (o_ad X a0))] [] μ0 (o_QI q) := by
  unfold fX11_status at h
  refine s_aload_n (i := 0) dX11_status_0 rfl rfl ?_
  refine s_getI h0 flX11_105 rfl dX11_status_1 ?_
  exact s_ireturn rfl dX11_status_4 ⟨_, rfl, o_ret h⟩
theorem dX11_top_0 : decode cX11_top 0 = .ok (.aload_n 0, 1) := by decide +kernel
theorem dX11_top_1 : decode cX11_top 1 = .ok (.getfield 109, 3) := by decide +kernel
theorem dX11_top_4 : decode cX11_top 4 = .ok (.lreturn, 1) := by decide +kernel
noncomputable def fX11_top (rf : Nat → Nat → Nat) (a0 : Nat) (μ0 : o_Mem) : Option (Int64 × o_Mem) :=
  some ((μ0.2 a0 1), μ0)
set_option maxRecDepth 20000 in
theorem dnX11_top {X : o_Cx} (hX : o_ok X) {d : Nat} {a0 : Nat} {μ0 : o_Mem} {q : Int64 → o_Mem → Prop} (h0 : o_is X a0 (.inl 11)) (h : o_Post (fX11_top (o_rf X) a0 μ0) q) : o_Ev X (d + 0) mX11_top 0 [some (.ref (o_ad X a0))] [] μ0 (o_QL q) := by
  unfold fX11_top at h
  refine s_aload_n (i := 0) dX11_top_0 rfl rfl ?_
  refine s_getL h0 flX11_109 rfl dX11_top_1 ?_
  exact s_lreturn rfl dX11_top_4 ⟨_, rfl, o_ret h⟩
theorem dX11_bottom_0 : decode cX11_bottom 0 = .ok (.aload_n 0, 1) := by decide +kernel
theorem dX11_bottom_1 : decode cX11_bottom 1 = .ok (.getfield 9, 3) := by decide +kernel
theorem dX11_bottom_4 : decode cX11_bottom 4 = .ok (.lreturn, 1) := by decide +kernel
noncomputable def fX11_bottom (rf : Nat → Nat → Nat) (a0 : Nat) (μ0 : o_Mem) : Option (Int64 × o_Mem) :=
  some ((μ0.2 a0 2), μ0)
set_option maxRecDepth 20000 in
theorem dnX11_bottom {X : o_Cx} (hX : o_ok X) {d : Nat} {a0 : Nat} {μ0 : o_Mem} {q : Int64 → o_Mem → Prop} (h0 : o_is X a0 (.inl 11)) (h : o_Post (fX11_bottom (o_rf X) a0 μ0) q) : o_Ev X (d + 0) mX11_bottom 0 [some (.ref (o_ad X a0))] [] μ0 (o_QL q) := by
  unfold fX11_bottom at h
  refine s_aload_n (i := 0) dX11_bottom_0 rfl rfl ?_
  refine s_getL h0 flX11_9 rfl dX11_bottom_1 ?_
  exact s_lreturn rfl dX11_bottom_4 ⟨_, rfl, o_ret h⟩
theorem dX11_isTray_0 : decode cX11_isTray 0 = .ok (.iload_n 0, 1) := by decide +kernel
theorem dX11_isTray_1 : decode cX11_isTray 1 = .ok (.i2l, 1) := by decide +kernel
theorem dX11_isTray_2 : decode cX11_isTray 2 = .ok (.lconst 0, 1) := by decide +kernel
theorem dX11_isTray_3 : decode cX11_isTray 3 = .ok (.ldc2_w 116, 3) := by decide +kernel
theorem dX11_isTray_6 : decode cX11_isTray 6 = .ok (.invokestatic 118, 3) := by decide +kernel
theorem dX11_isTray_9 : decode cX11_isTray 9 = .ok (.ireturn, 1) := by decide +kernel
noncomputable def fX11_isTray (rf : Nat → Nat → Nat) (x0 : Int32) (μ0 : o_Mem) : Option (Int32 × o_Mem) :=
  o_bd (fX11_within rf x0.toInt64 (0 : Int64) (3 : Int64) μ0) fun r1 μ1 =>
  some (r1, μ1)
set_option maxRecDepth 20000 in
theorem dnX11_isTray {X : o_Cx} (hX : o_ok X) {d : Nat} {x0 : Int32} {μ0 : o_Mem} {q : Int32 → o_Mem → Prop}  (h : o_Post (fX11_isTray (o_rf X) x0 μ0) q) : o_Ev X (d + 1) mX11_isTray 0 [some (.int x0)] [] μ0 (o_QZ q) := by
  unfold fX11_isTray at h
  refine s_iload_n (i := 0) dX11_isTray_0 rfl rfl ?_
  refine s_i2l dX11_isTray_1 ?_
  refine s_lconst (v := 0) dX11_isTray_2 rfl ?_
  refine s_ldc2 (v := 3) w_3_33 dX11_isTray_3 ?_
  refine s_callSz (C := mX11_within) (As := [.long x0.toInt64, .long (0 : Int64), .long (3 : Int64)]) (rest := []) (L0 := [some (.long x0.toInt64), none, some (.long (0 : Int64)), none, some (.long (3 : Int64)), none]) clX11_118 dX11_isTray_6 rfl rfl (Nat.le_of_ble_eq_true rfl) (Nat.le_of_ble_eq_true rfl) (dnX11_within hX  (o_bdp h)) (fun r1 μ1 zr1 h => ?_)
  exact s_zreturn rfl zr1 dX11_isTray_9 ⟨_, rfl, zr1, o_ret h⟩
theorem dX11_ends_0 : decode cX11_ends 0 = .ok (.aload_n 0, 1) := by decide +kernel
theorem dX11_ends_1 : decode cX11_ends 1 = .ok (.iload_n 1, 1) := by decide +kernel
theorem dX11_ends_2 : decode cX11_ends 2 = .ok (.putfield 105, 3) := by decide +kernel
theorem dX11_ends_5 : decode cX11_ends 5 = .ok (.iload_n 1, 1) := by decide +kernel
theorem dX11_ends_6 : decode cX11_ends 6 = .ok (.ifCond .ne 7, 3) := by decide +kernel
theorem dX11_ends_9 : decode cX11_ends 9 = .ok (.iconst 1, 1) := by decide +kernel
theorem dX11_ends_10 : decode cX11_ends 10 = .ok (.goto 4, 3) := by decide +kernel
theorem dX11_ends_13 : decode cX11_ends 13 = .ok (.iconst 0, 1) := by decide +kernel
theorem dX11_ends_14 : decode cX11_ends 14 = .ok (.ireturn, 1) := by decide +kernel
noncomputable def fX11_ends (rf : Nat → Nat → Nat) (a0 : Nat) (x1 : Int32) (μ0 : o_Mem) : Option (Int32 × o_Mem) :=
  o_seq (o_wI μ0 a0 0 x1) fun μ1 =>
  if x1 = 0 then (
    some (1, μ1))
  else (
    some (0, μ1))
set_option maxRecDepth 20000 in
theorem dnX11_ends {X : o_Cx} (hX : o_ok X) {d : Nat} {a0 : Nat} {x1 : Int32} {μ0 : o_Mem} {q : Int32 → o_Mem → Prop} (h0 : o_is X a0 (.inl 11)) (h : o_Post (fX11_ends (o_rf X) a0 x1 μ0) q) : o_Ev X (d + 0) mX11_ends 0 [some (.ref (o_ad X a0)), some (.int x1)] [] μ0 (o_QZ q) := by
  unfold fX11_ends at h
  refine s_aload_n (i := 0) dX11_ends_0 rfl rfl ?_
  refine s_iload_n (i := 1) dX11_ends_1 rfl rfl ?_
  refine s_putI hX h0 fwX11_105 rfl dX11_ends_2 (o_gen h (fun μ1 h => ?_))
  refine s_iload_n (i := 1) dX11_ends_5 rfl rfl ?_
  refine s_if_ne (tgt := 13) dX11_ends_6 rfl (fun c1 => ?_) (fun c1 => ?_)
  · have h := o_if_f c1 h
    refine s_iconst dX11_ends_13 kI_0 ?_
    exact s_zreturn rfl (Or.inl rfl) dX11_ends_14 ⟨_, rfl, (Or.inl rfl), o_ret h⟩
  · have h := o_if_t c1 h
    refine s_iconst dX11_ends_9 kI_1 ?_
    refine s_goto (tgt := 14) dX11_ends_10 rfl ?_
    exact s_zreturn rfl (Or.inr rfl) dX11_ends_14 ⟨_, rfl, (Or.inr rfl), o_ret h⟩
theorem dX11_tray_0 : decode cX11_tray 0 = .ok (.iload_n 1, 1) := by decide +kernel
theorem dX11_tray_1 : decode cX11_tray 1 = .ok (.invokestatic 112, 3) := by decide +kernel
theorem dX11_tray_4 : decode cX11_tray 4 = .ok (.ifCond .eq 27, 3) := by decide +kernel
theorem dX11_tray_7 : decode cX11_tray 7 = .ok (.iload_n 2, 1) := by decide +kernel
theorem dX11_tray_8 : decode cX11_tray 8 = .ok (.i2l, 1) := by decide +kernel
theorem dX11_tray_9 : decode cX11_tray 9 = .ok (.lconst 0, 1) := by decide +kernel
theorem dX11_tray_10 : decode cX11_tray 10 = .ok (.ldc2_w 116, 3) := by decide +kernel
theorem dX11_tray_13 : decode cX11_tray 13 = .ok (.invokestatic 118, 3) := by decide +kernel
theorem dX11_tray_16 : decode cX11_tray 16 = .ok (.ifCond .eq 15, 3) := by decide +kernel
theorem dX11_tray_19 : decode cX11_tray 19 = .ok (.iload_n 3, 1) := by decide +kernel
theorem dX11_tray_20 : decode cX11_tray 20 = .ok (.i2l, 1) := by decide +kernel
theorem dX11_tray_21 : decode cX11_tray 21 = .ok (.lconst 0, 1) := by decide +kernel
theorem dX11_tray_22 : decode cX11_tray 22 = .ok (.ldc2_w 122, 3) := by decide +kernel
theorem dX11_tray_25 : decode cX11_tray 25 = .ok (.invokestatic 118, 3) := by decide +kernel
theorem dX11_tray_28 : decode cX11_tray 28 = .ok (.ifCond .ne 9, 3) := by decide +kernel
theorem dX11_tray_31 : decode cX11_tray 31 = .ok (.aload_n 0, 1) := by decide +kernel
theorem dX11_tray_32 : decode cX11_tray 32 = .ok (.iconst 1, 1) := by decide +kernel
theorem dX11_tray_33 : decode cX11_tray 33 = .ok (.invokevirtual 124, 3) := by decide +kernel
theorem dX11_tray_36 : decode cX11_tray 36 = .ok (.ireturn, 1) := by decide +kernel
theorem dX11_tray_37 : decode cX11_tray 37 = .ok (.aload_n 0, 1) := by decide +kernel
theorem dX11_tray_38 : decode cX11_tray 38 = .ok (.getfield 15, 3) := by decide +kernel
theorem dX11_tray_41 : decode cX11_tray 41 = .ok (.iload_n 1, 1) := by decide +kernel
theorem dX11_tray_42 : decode cX11_tray 42 = .ok (.aaload, 1) := by decide +kernel
theorem dX11_tray_43 : decode cX11_tray 43 = .ok (.iload_n 2, 1) := by decide +kernel
theorem dX11_tray_44 : decode cX11_tray 44 = .ok (.iload_n 3, 1) := by decide +kernel
theorem dX11_tray_45 : decode cX11_tray 45 = .ok (.invokevirtual 127, 3) := by decide +kernel
theorem dX11_tray_48 : decode cX11_tray 48 = .ok (.aload_n 0, 1) := by decide +kernel
theorem dX11_tray_49 : decode cX11_tray 49 = .ok (.iconst 0, 1) := by decide +kernel
theorem dX11_tray_50 : decode cX11_tray 50 = .ok (.invokevirtual 124, 3) := by decide +kernel
theorem dX11_tray_53 : decode cX11_tray 53 = .ok (.ireturn, 1) := by decide +kernel
noncomputable def fX11_tray_j31 (rf : Nat → Nat → Nat) (a0 : Nat) (μ0 : o_Mem) : Option (Int32 × o_Mem) :=
  o_bd (fX11_ends rf a0 1 μ0) fun r1 μ1 =>
  some (r1, μ1)
noncomputable def fX11_tray (rf : Nat → Nat → Nat) (a0 : Nat) (x1 : Int32) (x2 : Int32) (x3 : Int32) (μ0 : o_Mem) : Option (Int32 × o_Mem) :=
  o_bd (fX11_isTray rf x1 μ0) fun r1 μ1 =>
  if r1 = 0 then (
    fX11_tray_j31 rf a0 μ1)
  else (
    o_bd (fX11_within rf x2.toInt64 (0 : Int64) (3 : Int64) μ1) fun r2 μ2 =>
    if r2 = 0 then (
      fX11_tray_j31 rf a0 μ2)
    else (
      o_bd (fX11_within rf x3.toInt64 (0 : Int64) (60 : Int64) μ2) fun r3 μ3 =>
      if r3 = 0 then (
        fX11_tray_j31 rf a0 μ3)
      else (
        o_ck (0 ≤ (x1).toInt ∧ (x1).toInt < 4) <|
        o_bd (fX7_make rf (rf (rf a0 3) x1.toNatClampNeg) x2 x3 μ3) fun _u μ4 =>
        o_bd (fX11_ends rf a0 0 μ4) fun r4 μ5 =>
        some (r4, μ5))))
set_option maxRecDepth 20000 in
theorem dnX11_tray_j31 {X : o_Cx} (hX : o_ok X) {d : Nat} {a0 : Nat} {μ0 : o_Mem} {q : Int32 → o_Mem → Prop} (h0 : o_is X a0 (.inl 11)) (h : o_Post (fX11_tray_j31 (o_rf X) a0 μ0) q) : o_Ev X (d + 2) mX11_tray 31 [some (.ref (o_ad X a0)), none, none, none] [] μ0 (o_QZ q) := by
  unfold fX11_tray_j31 at h
  refine s_aload_n (i := 0) dX11_tray_31 rfl rfl ?_
  refine s_iconst dX11_tray_32 kI_1 ?_
  refine s_callVz (C := mX11_ends) (As := [.int 1]) (rest := []) (L0 := [some (.ref (o_ad X a0)), some (.int 1)]) hX h0 clX11_124 dX11_tray_33 rfl rfl (Nat.le_of_ble_eq_true rfl) (Nat.le_of_ble_eq_true rfl) (dnX11_ends hX h0 (o_bdp h)) (fun r1 μ1 zr1 h => ?_)
  exact s_zreturn rfl zr1 dX11_tray_36 ⟨_, rfl, zr1, o_ret h⟩
set_option maxRecDepth 20000 in
theorem dnX11_tray {X : o_Cx} (hX : o_ok X) {d : Nat} {a0 : Nat} {x1 : Int32} {x2 : Int32} {x3 : Int32} {μ0 : o_Mem} {q : Int32 → o_Mem → Prop} (h0 : o_is X a0 (.inl 11)) (h : o_Post (fX11_tray (o_rf X) a0 x1 x2 x3 μ0) q) : o_Ev X (d + 2) mX11_tray 0 [some (.ref (o_ad X a0)), some (.int x1), some (.int x2), some (.int x3)] [] μ0 (o_QZ q) := by
  unfold fX11_tray at h
  refine s_iload_n (i := 1) dX11_tray_0 rfl rfl ?_
  refine s_callSz (C := mX11_isTray) (As := [.int x1]) (rest := []) (L0 := [some (.int x1)]) clX11_112 dX11_tray_1 rfl rfl (Nat.le_of_ble_eq_true rfl) (Nat.le_of_ble_eq_true rfl) (dnX11_isTray hX  (o_bdp h)) (fun r1 μ1 zr1 h => ?_)
  refine s_if_eq (tgt := 31) dX11_tray_4 rfl (fun c1 => ?_) (fun c1 => ?_)
  · have h := o_if_t c1 h
    refine s_mask [true, false, false, false] (L' := [some (.ref (o_ad X a0)), none, none, none]) rfl ?_
    exact dnX11_tray_j31 hX h0 h
  · have h := o_if_f c1 h
    refine s_iload_n (i := 2) dX11_tray_7 rfl rfl ?_
    refine s_i2l dX11_tray_8 ?_
    refine s_lconst (v := 0) dX11_tray_9 rfl ?_
    refine s_ldc2 (v := 3) w_3_33 dX11_tray_10 ?_
    refine s_callSz (C := mX11_within) (As := [.long x2.toInt64, .long (0 : Int64), .long (3 : Int64)]) (rest := []) (L0 := [some (.long x2.toInt64), none, some (.long (0 : Int64)), none, some (.long (3 : Int64)), none]) clX11_118 dX11_tray_13 rfl rfl (Nat.le_of_ble_eq_true rfl) (Nat.le_of_ble_eq_true rfl) (dnX11_within hX  (o_bdp h)) (fun r2 μ2 zr2 h => ?_)
    refine s_if_eq (tgt := 31) dX11_tray_16 rfl (fun c1 => ?_) (fun c1 => ?_)
    · have h := o_if_t c1 h
      refine s_mask [true, false, false, false] (L' := [some (.ref (o_ad X a0)), none, none, none]) rfl ?_
      exact dnX11_tray_j31 hX h0 h
    · have h := o_if_f c1 h
      refine s_iload_n (i := 3) dX11_tray_19 rfl rfl ?_
      refine s_i2l dX11_tray_20 ?_
      refine s_lconst (v := 0) dX11_tray_21 rfl ?_
      refine s_ldc2 (v := 60) w_3_37 dX11_tray_22 ?_
      refine s_callSz (C := mX11_within) (As := [.long x3.toInt64, .long (0 : Int64), .long (60 : Int64)]) (rest := []) (L0 := [some (.long x3.toInt64), none, some (.long (0 : Int64)), none, some (.long (60 : Int64)), none]) clX11_118 dX11_tray_25 rfl rfl (Nat.le_of_ble_eq_true rfl) (Nat.le_of_ble_eq_true rfl) (dnX11_within hX  (o_bdp h)) (fun r3 μ3 zr3 h => ?_)
      refine s_if_ne (tgt := 37) dX11_tray_28 rfl (fun c1 => ?_) (fun c1 => ?_)
      · have h := o_if_f c1 h
        refine s_aload_n (i := 0) dX11_tray_37 rfl rfl ?_
        refine s_getR hX h0 flX11_15 rfl dX11_tray_38 (fun (g1 : o_is X (o_rf X a0 3) (.inr (3, 4))) => ?_)
        refine s_iload_n (i := 1) dX11_tray_41 rfl rfl ?_
        have hc := o_ck_c h
        have h := o_ck_k h
        refine s_aaldK hX g1 (by decide) rfl hc rfl dX11_tray_42 (fun (g2 : o_is X (o_rf X (o_rf X a0 3) x1.toNatClampNeg) (.inl 7)) => ?_)
        refine s_iload_n (i := 2) dX11_tray_43 rfl rfl ?_
        refine s_iload_n (i := 3) dX11_tray_44 rfl rfl ?_
        refine s_callVu (C := mX7_make) (As := [.int x2, .int x3]) (rest := []) (L0 := [some (.ref (o_ad X (o_rf X (o_rf X a0 3) x1.toNatClampNeg))), some (.int x2), some (.int x3)]) hX g2 clX11_127 dX11_tray_45 rfl rfl (Nat.le_of_ble_eq_true rfl) (Nat.le_of_ble_eq_true rfl) (dnX7_make hX g2 (o_bdp h)) (fun _u μ4 h => ?_)
        refine s_aload_n (i := 0) dX11_tray_48 rfl rfl ?_
        refine s_iconst dX11_tray_49 kI_0 ?_
        refine s_callVz (C := mX11_ends) (As := [.int 0]) (rest := []) (L0 := [some (.ref (o_ad X a0)), some (.int 0)]) hX h0 clX11_124 dX11_tray_50 rfl rfl (Nat.le_of_ble_eq_true rfl) (Nat.le_of_ble_eq_true rfl) (dnX11_ends hX h0 (o_bdp h)) (fun r4 μ5 zr4 h => ?_)
        exact s_zreturn rfl zr4 dX11_tray_53 ⟨_, rfl, zr4, o_ret h⟩
      · have h := o_if_t c1 h
        refine s_mask [true, false, false, false] (L' := [some (.ref (o_ad X a0)), none, none, none]) rfl ?_
        exact dnX11_tray_j31 hX h0 h
theorem dX11_placeStatus_0 : decode cX11_placeStatus 0 = .ok (.iload_n 1, 1) := by decide +kernel
theorem dX11_placeStatus_1 : decode cX11_placeStatus 1 = .ok (.invokestatic 112, 3) := by decide +kernel
theorem dX11_placeStatus_4 : decode cX11_placeStatus 4 = .ok (.ifCond .ne 5, 3) := by decide +kernel
theorem dX11_placeStatus_7 : decode cX11_placeStatus 7 = .ok (.iconst 1, 1) := by decide +kernel
theorem dX11_placeStatus_8 : decode cX11_placeStatus 8 = .ok (.ireturn, 1) := by decide +kernel
theorem dX11_placeStatus_9 : decode cX11_placeStatus 9 = .ok (.aload_n 0, 1) := by decide +kernel
theorem dX11_placeStatus_10 : decode cX11_placeStatus 10 = .ok (.getfield 15, 3) := by decide +kernel
theorem dX11_placeStatus_13 : decode cX11_placeStatus 13 = .ok (.iload_n 1, 1) := by decide +kernel
theorem dX11_placeStatus_14 : decode cX11_placeStatus 14 = .ok (.aaload, 1) := by decide +kernel
theorem dX11_placeStatus_15 : decode cX11_placeStatus 15 = .ok (.getfield 147, 3) := by decide +kernel
theorem dX11_placeStatus_18 : decode cX11_placeStatus 18 = .ok (.ifCond .ne 5, 3) := by decide +kernel
theorem dX11_placeStatus_21 : decode cX11_placeStatus 21 = .ok (.iconst 2, 1) := by decide +kernel
theorem dX11_placeStatus_22 : decode cX11_placeStatus 22 = .ok (.ireturn, 1) := by decide +kernel
theorem dX11_placeStatus_23 : decode cX11_placeStatus 23 = .ok (.iload_n 2, 1) := by decide +kernel
theorem dX11_placeStatus_24 : decode cX11_placeStatus 24 = .ok (.i2l, 1) := by decide +kernel
theorem dX11_placeStatus_25 : decode cX11_placeStatus 25 = .ok (.lconst 0, 1) := by decide +kernel
theorem dX11_placeStatus_26 : decode cX11_placeStatus 26 = .ok (.aload_n 0, 1) := by decide +kernel
theorem dX11_placeStatus_27 : decode cX11_placeStatus 27 = .ok (.getfield 15, 3) := by decide +kernel
theorem dX11_placeStatus_30 : decode cX11_placeStatus 30 = .ok (.iload_n 1, 1) := by decide +kernel
theorem dX11_placeStatus_31 : decode cX11_placeStatus 31 = .ok (.aaload, 1) := by decide +kernel
theorem dX11_placeStatus_32 : decode cX11_placeStatus 32 = .ok (.getfield 154, 3) := by decide +kernel
theorem dX11_placeStatus_35 : decode cX11_placeStatus 35 = .ok (.iconst 1, 1) := by decide +kernel
theorem dX11_placeStatus_36 : decode cX11_placeStatus 36 = .ok (.isub, 1) := by decide +kernel
theorem dX11_placeStatus_37 : decode cX11_placeStatus 37 = .ok (.i2l, 1) := by decide +kernel
theorem dX11_placeStatus_38 : decode cX11_placeStatus 38 = .ok (.invokestatic 118, 3) := by decide +kernel
theorem dX11_placeStatus_41 : decode cX11_placeStatus 41 = .ok (.ifCond .eq 7, 3) := by decide +kernel
theorem dX11_placeStatus_44 : decode cX11_placeStatus 44 = .ok (.iconst 0, 1) := by decide +kernel
theorem dX11_placeStatus_45 : decode cX11_placeStatus 45 = .ok (.goto 4, 3) := by decide +kernel
theorem dX11_placeStatus_48 : decode cX11_placeStatus 48 = .ok (.iconst 3, 1) := by decide +kernel
theorem dX11_placeStatus_49 : decode cX11_placeStatus 49 = .ok (.ireturn, 1) := by decide +kernel
noncomputable def fX11_placeStatus (rf : Nat → Nat → Nat) (a0 : Nat) (x1 : Int32) (x2 : Int32) (μ0 : o_Mem) : Option (Int32 × o_Mem) :=
  o_bd (fX11_isTray rf x1 μ0) fun r1 μ1 =>
  if r1 = 0 then (
    some (1, μ1))
  else (
    o_ck (0 ≤ (x1).toInt ∧ (x1).toInt < 4) <|
    if (μ1.1 (rf (rf a0 3) x1.toNatClampNeg) 0) = 0 then (
      some (2, μ1))
    else (
      o_ck (0 ≤ (x1).toInt ∧ (x1).toInt < 4) <|
      o_bd (fX11_within rf x2.toInt64 (0 : Int64) (((μ1.1 (rf (rf a0 3) x1.toNatClampNeg) 2) - 1).toInt64) μ1) fun r2 μ2 =>
      if r2 = 0 then (
        some (3, μ2))
      else (
        some (0, μ2))))
set_option maxRecDepth 20000 in
theorem dnX11_placeStatus {X : o_Cx} (hX : o_ok X) {d : Nat} {a0 : Nat} {x1 : Int32} {x2 : Int32} {μ0 : o_Mem} {q : Int32 → o_Mem → Prop} (h0 : o_is X a0 (.inl 11)) (h : o_Post (fX11_placeStatus (o_rf X) a0 x1 x2 μ0) q) : o_Ev X (d + 2) mX11_placeStatus 0 [some (.ref (o_ad X a0)), some (.int x1), some (.int x2)] [] μ0 (o_QI q) := by
  unfold fX11_placeStatus at h
  refine s_iload_n (i := 1) dX11_placeStatus_0 rfl rfl ?_
  refine s_callSz (C := mX11_isTray) (As := [.int x1]) (rest := []) (L0 := [some (.int x1)]) clX11_112 dX11_placeStatus_1 rfl rfl (Nat.le_of_ble_eq_true rfl) (Nat.le_of_ble_eq_true rfl) (dnX11_isTray hX  (o_bdp h)) (fun r1 μ1 zr1 h => ?_)
  refine s_if_ne (tgt := 9) dX11_placeStatus_4 rfl (fun c1 => ?_) (fun c1 => ?_)
  · have h := o_if_f c1 h
    refine s_aload_n (i := 0) dX11_placeStatus_9 rfl rfl ?_
    refine s_getR hX h0 flX11_15 rfl dX11_placeStatus_10 (fun (g1 : o_is X (o_rf X a0 3) (.inr (3, 4))) => ?_)
    refine s_iload_n (i := 1) dX11_placeStatus_13 rfl rfl ?_
    have hc := o_ck_c h
    have h := o_ck_k h
    refine s_aaldK hX g1 (by decide) rfl hc rfl dX11_placeStatus_14 (fun (g2 : o_is X (o_rf X (o_rf X a0 3) x1.toNatClampNeg) (.inl 7)) => ?_)
    refine s_getI g2 flX11_147 rfl dX11_placeStatus_15 ?_
    refine s_if_ne (tgt := 23) dX11_placeStatus_18 rfl (fun c1 => ?_) (fun c1 => ?_)
    · have h := o_if_f c1 h
      refine s_iload_n (i := 2) dX11_placeStatus_23 rfl rfl ?_
      refine s_i2l dX11_placeStatus_24 ?_
      refine s_lconst (v := 0) dX11_placeStatus_25 rfl ?_
      refine s_aload_n (i := 0) dX11_placeStatus_26 rfl rfl ?_
      refine s_getR hX h0 flX11_15 rfl dX11_placeStatus_27 (fun (g3 : o_is X (o_rf X a0 3) (.inr (3, 4))) => ?_)
      refine s_iload_n (i := 1) dX11_placeStatus_30 rfl rfl ?_
      have hc := o_ck_c h
      have h := o_ck_k h
      refine s_aaldK hX g3 (by decide) rfl hc rfl dX11_placeStatus_31 (fun (g4 : o_is X (o_rf X (o_rf X a0 3) x1.toNatClampNeg) (.inl 7)) => ?_)
      refine s_getI g4 flX11_154 rfl dX11_placeStatus_32 ?_
      refine s_iconst dX11_placeStatus_35 kI_1 ?_
      refine s_isub dX11_placeStatus_36 ?_
      refine s_i2l dX11_placeStatus_37 ?_
      refine s_callSz (C := mX11_within) (As := [.long x2.toInt64, .long (0 : Int64), .long (((μ1.1 (o_rf X (o_rf X a0 3) x1.toNatClampNeg) 2) - 1).toInt64)]) (rest := []) (L0 := [some (.long x2.toInt64), none, some (.long (0 : Int64)), none, some (.long (((μ1.1 (o_rf X (o_rf X a0 3) x1.toNatClampNeg) 2) - 1).toInt64)), none]) clX11_118 dX11_placeStatus_38 rfl rfl (Nat.le_of_ble_eq_true rfl) (Nat.le_of_ble_eq_true rfl) (dnX11_within hX  (o_bdp h)) (fun r2 μ2 zr2 h => ?_)
      refine s_if_eq (tgt := 48) dX11_placeStatus_41 rfl (fun c1 => ?_) (fun c1 => ?_)
      · have h := o_if_t c1 h
        refine s_iconst dX11_placeStatus_48 kI_3 ?_
        exact s_ireturn rfl dX11_placeStatus_49 ⟨_, rfl, o_ret h⟩
      · have h := o_if_f c1 h
        refine s_iconst dX11_placeStatus_44 kI_0 ?_
        refine s_goto (tgt := 49) dX11_placeStatus_45 rfl ?_
        exact s_ireturn rfl dX11_placeStatus_49 ⟨_, rfl, o_ret h⟩
    · have h := o_if_t c1 h
      refine s_iconst dX11_placeStatus_21 kI_2 ?_
      exact s_ireturn rfl dX11_placeStatus_22 ⟨_, rfl, o_ret h⟩
  · have h := o_if_t c1 h
    refine s_iconst dX11_placeStatus_7 kI_1 ?_
    exact s_ireturn rfl dX11_placeStatus_8 ⟨_, rfl, o_ret h⟩
theorem dX11_write_0 : decode cX11_write 0 = .ok (.aload_n 0, 1) := by decide +kernel
theorem dX11_write_1 : decode cX11_write 1 = .ok (.iload_n 1, 1) := by decide +kernel
theorem dX11_write_2 : decode cX11_write 2 = .ok (.iload_n 2, 1) := by decide +kernel
theorem dX11_write_3 : decode cX11_write 3 = .ok (.invokevirtual 131, 3) := by decide +kernel
theorem dX11_write_6 : decode cX11_write 6 = .ok (.istore 5, 2) := by decide +kernel
theorem dX11_write_8 : decode cX11_write 8 = .ok (.iload 5, 2) := by decide +kernel
theorem dX11_write_10 : decode cX11_write 10 = .ok (.ifCond .ne 14, 3) := by decide +kernel
theorem dX11_write_13 : decode cX11_write 13 = .ok (.aload_n 0, 1) := by decide +kernel
theorem dX11_write_14 : decode cX11_write 14 = .ok (.getfield 15, 3) := by decide +kernel
theorem dX11_write_17 : decode cX11_write 17 = .ok (.iload_n 1, 1) := by decide +kernel
theorem dX11_write_18 : decode cX11_write 18 = .ok (.aaload, 1) := by decide +kernel
theorem dX11_write_19 : decode cX11_write 19 = .ok (.iload_n 2, 1) := by decide +kernel
theorem dX11_write_20 : decode cX11_write 20 = .ok (.lload_n 3, 1) := by decide +kernel
theorem dX11_write_21 : decode cX11_write 21 = .ok (.invokevirtual 135, 3) := by decide +kernel
theorem dX11_write_24 : decode cX11_write 24 = .ok (.aload_n 0, 1) := by decide +kernel
theorem dX11_write_25 : decode cX11_write 25 = .ok (.iload 5, 2) := by decide +kernel
theorem dX11_write_27 : decode cX11_write 27 = .ok (.invokevirtual 124, 3) := by decide +kernel
theorem dX11_write_30 : decode cX11_write 30 = .ok (.ireturn, 1) := by decide +kernel
noncomputable def fX11_write_j24 (rf : Nat → Nat → Nat) (a0 : Nat) (x5 : Int32) (μ0 : o_Mem) : Option (Int32 × o_Mem) :=
  o_bd (fX11_ends rf a0 x5 μ0) fun r1 μ1 =>
  some (r1, μ1)
noncomputable def fX11_write (rf : Nat → Nat → Nat) (a0 : Nat) (x1 : Int32) (x2 : Int32) (x3 : Int64) (μ0 : o_Mem) : Option (Int32 × o_Mem) :=
  o_bd (fX11_placeStatus rf a0 x1 x2 μ0) fun r1 μ1 =>
  if r1 = 0 then (
    o_ck (0 ≤ (x1).toInt ∧ (x1).toInt < 4) <|
    o_bd (fX7_put rf (rf (rf a0 3) x1.toNatClampNeg) x2 x3 μ1) fun _u μ2 =>
    fX11_write_j24 rf a0 r1 μ2)
  else (
    fX11_write_j24 rf a0 r1 μ1)
set_option maxRecDepth 20000 in
theorem dnX11_write_j24 {X : o_Cx} (hX : o_ok X) {d : Nat} {a0 : Nat} {x5 : Int32} {μ0 : o_Mem} {q : Int32 → o_Mem → Prop} (h0 : o_is X a0 (.inl 11)) (h : o_Post (fX11_write_j24 (o_rf X) a0 x5 μ0) q) : o_Ev X (d + 3) mX11_write 24 [some (.ref (o_ad X a0)), none, none, none, none, some (.int x5)] [] μ0 (o_QZ q) := by
  unfold fX11_write_j24 at h
  refine s_aload_n (i := 0) dX11_write_24 rfl rfl ?_
  refine s_iload dX11_write_25 rfl ?_
  refine s_callVz (C := mX11_ends) (As := [.int x5]) (rest := []) (L0 := [some (.ref (o_ad X a0)), some (.int x5)]) hX h0 clX11_124 dX11_write_27 rfl rfl (Nat.le_of_ble_eq_true rfl) (Nat.le_of_ble_eq_true rfl) (dnX11_ends hX h0 (o_bdp h)) (fun r1 μ1 zr1 h => ?_)
  exact s_zreturn rfl zr1 dX11_write_30 ⟨_, rfl, zr1, o_ret h⟩
set_option maxRecDepth 20000 in
theorem dnX11_write {X : o_Cx} (hX : o_ok X) {d : Nat} {a0 : Nat} {x1 : Int32} {x2 : Int32} {x3 : Int64} {μ0 : o_Mem} {q : Int32 → o_Mem → Prop} (h0 : o_is X a0 (.inl 11)) (h : o_Post (fX11_write (o_rf X) a0 x1 x2 x3 μ0) q) : o_Ev X (d + 3) mX11_write 0 [some (.ref (o_ad X a0)), some (.int x1), some (.int x2), some (.long x3), none, none] [] μ0 (o_QZ q) := by
  unfold fX11_write at h
  refine s_aload_n (i := 0) dX11_write_0 rfl rfl ?_
  refine s_iload_n (i := 1) dX11_write_1 rfl rfl ?_
  refine s_iload_n (i := 2) dX11_write_2 rfl rfl ?_
  refine s_callVi (C := mX11_placeStatus) (As := [.int x1, .int x2]) (rest := []) (L0 := [some (.ref (o_ad X a0)), some (.int x1), some (.int x2)]) hX h0 clX11_131 dX11_write_3 rfl rfl (Nat.le_of_ble_eq_true rfl) (Nat.le_of_ble_eq_true rfl) (dnX11_placeStatus hX h0 (o_bdp h)) (fun r1 μ1 h => ?_)
  refine s_istore dX11_write_6 (Nat.le_of_ble_eq_true rfl) rfl ?_
  refine s_iload dX11_write_8 rfl ?_
  refine s_if_ne (tgt := 24) dX11_write_10 rfl (fun c1 => ?_) (fun c1 => ?_)
  · have h := o_if_f c1 h
    refine s_mask [true, false, false, false, false, true] (L' := [some (.ref (o_ad X a0)), none, none, none, none, some (.int r1)]) rfl ?_
    exact dnX11_write_j24 hX h0 h
  · have h := o_if_t c1 h
    refine s_aload_n (i := 0) dX11_write_13 rfl rfl ?_
    refine s_getR hX h0 flX11_15 rfl dX11_write_14 (fun (g1 : o_is X (o_rf X a0 3) (.inr (3, 4))) => ?_)
    refine s_iload_n (i := 1) dX11_write_17 rfl rfl ?_
    have hc := o_ck_c h
    have h := o_ck_k h
    refine s_aaldK hX g1 (by decide) rfl hc rfl dX11_write_18 (fun (g2 : o_is X (o_rf X (o_rf X a0 3) x1.toNatClampNeg) (.inl 7)) => ?_)
    refine s_iload_n (i := 2) dX11_write_19 rfl rfl ?_
    refine s_lload_n (i := 3) dX11_write_20 rfl rfl ?_
    refine s_callVu (C := mX7_put) (As := [.int x2, .long x3]) (rest := []) (L0 := [some (.ref (o_ad X (o_rf X (o_rf X a0 3) x1.toNatClampNeg))), some (.int x2), some (.long x3), none]) hX g2 clX11_135 dX11_write_21 rfl rfl (Nat.le_of_ble_eq_true rfl) (Nat.le_of_ble_eq_true rfl) (dnX7_put hX g2 (o_bdp h)) (fun _u μ2 h => ?_)
    refine s_mask [true, false, false, false, false, true] (L' := [some (.ref (o_ad X a0)), none, none, none, none, some (.int r1)]) rfl ?_
    exact dnX11_write_j24 hX h0 h
theorem dX11_refuses_0 : decode cX11_refuses 0 = .ok (.aload_n 0, 1) := by decide +kernel
theorem dX11_refuses_1 : decode cX11_refuses 1 = .ok (.iload_n 1, 1) := by decide +kernel
theorem dX11_refuses_2 : decode cX11_refuses 2 = .ok (.putfield 105, 3) := by decide +kernel
theorem dX11_refuses_5 : decode cX11_refuses 5 = .ok (.iconst (-1), 1) := by decide +kernel
theorem dX11_refuses_6 : decode cX11_refuses 6 = .ok (.ireturn, 1) := by decide +kernel
noncomputable def fX11_refuses (rf : Nat → Nat → Nat) (a0 : Nat) (x1 : Int32) (μ0 : o_Mem) : Option (Int32 × o_Mem) :=
  o_seq (o_wI μ0 a0 0 x1) fun μ1 =>
  some ((-1), μ1)
set_option maxRecDepth 20000 in
theorem dnX11_refuses {X : o_Cx} (hX : o_ok X) {d : Nat} {a0 : Nat} {x1 : Int32} {μ0 : o_Mem} {q : Int32 → o_Mem → Prop} (h0 : o_is X a0 (.inl 11)) (h : o_Post (fX11_refuses (o_rf X) a0 x1 μ0) q) : o_Ev X (d + 0) mX11_refuses 0 [some (.ref (o_ad X a0)), some (.int x1)] [] μ0 (o_QI q) := by
  unfold fX11_refuses at h
  refine s_aload_n (i := 0) dX11_refuses_0 rfl rfl ?_
  refine s_iload_n (i := 1) dX11_refuses_1 rfl rfl ?_
  refine s_putI hX h0 fwX11_105 rfl dX11_refuses_2 (o_gen h (fun μ1 h => ?_))
  refine s_iconst dX11_refuses_5 kI_m1 ?_
  exact s_ireturn rfl dX11_refuses_6 ⟨_, rfl, o_ret h⟩
theorem dX11_read_0 : decode cX11_read 0 = .ok (.aload_n 0, 1) := by decide +kernel
theorem dX11_read_1 : decode cX11_read 1 = .ok (.iload_n 1, 1) := by decide +kernel
theorem dX11_read_2 : decode cX11_read 2 = .ok (.iload_n 2, 1) := by decide +kernel
theorem dX11_read_3 : decode cX11_read 3 = .ok (.invokevirtual 131, 3) := by decide +kernel
theorem dX11_read_6 : decode cX11_read 6 = .ok (.istore_n 3, 1) := by decide +kernel
theorem dX11_read_7 : decode cX11_read 7 = .ok (.iload_n 3, 1) := by decide +kernel
theorem dX11_read_8 : decode cX11_read 8 = .ok (.ifCond .eq 10, 3) := by decide +kernel
theorem dX11_read_11 : decode cX11_read 11 = .ok (.aload_n 0, 1) := by decide +kernel
theorem dX11_read_12 : decode cX11_read 12 = .ok (.iload_n 3, 1) := by decide +kernel
theorem dX11_read_13 : decode cX11_read 13 = .ok (.invokevirtual 139, 3) := by decide +kernel
theorem dX11_read_16 : decode cX11_read 16 = .ok (.i2l, 1) := by decide +kernel
theorem dX11_read_17 : decode cX11_read 17 = .ok (.lreturn, 1) := by decide +kernel
theorem dX11_read_18 : decode cX11_read 18 = .ok (.aload_n 0, 1) := by decide +kernel
theorem dX11_read_19 : decode cX11_read 19 = .ok (.iconst 0, 1) := by decide +kernel
theorem dX11_read_20 : decode cX11_read 20 = .ok (.putfield 105, 3) := by decide +kernel
theorem dX11_read_23 : decode cX11_read 23 = .ok (.aload_n 0, 1) := by decide +kernel
theorem dX11_read_24 : decode cX11_read 24 = .ok (.getfield 15, 3) := by decide +kernel
theorem dX11_read_27 : decode cX11_read 27 = .ok (.iload_n 1, 1) := by decide +kernel
theorem dX11_read_28 : decode cX11_read 28 = .ok (.aaload, 1) := by decide +kernel
theorem dX11_read_29 : decode cX11_read 29 = .ok (.getfield 143, 3) := by decide +kernel
theorem dX11_read_32 : decode cX11_read 32 = .ok (.iload_n 2, 1) := by decide +kernel
theorem dX11_read_33 : decode cX11_read 33 = .ok (.laload, 1) := by decide +kernel
theorem dX11_read_34 : decode cX11_read 34 = .ok (.lreturn, 1) := by decide +kernel
noncomputable def fX11_read (rf : Nat → Nat → Nat) (a0 : Nat) (x1 : Int32) (x2 : Int32) (μ0 : o_Mem) : Option (Int64 × o_Mem) :=
  o_bd (fX11_placeStatus rf a0 x1 x2 μ0) fun r1 μ1 =>
  if r1 = 0 then (
    o_seq (o_wI μ1 a0 0 0) fun μ2 =>
    o_ck (0 ≤ (x1).toInt ∧ (x1).toInt < 4) <|
    o_ck (0 ≤ (x2).toInt ∧ (x2).toInt < 60) <|
    some ((μ2.2 (rf (rf (rf a0 3) x1.toNatClampNeg) 3) x2.toNatClampNeg), μ2))
  else (
    o_bd (fX11_refuses rf a0 r1 μ1) fun r2 μ3 =>
    some (r2.toInt64, μ3))
set_option maxRecDepth 20000 in
theorem dnX11_read {X : o_Cx} (hX : o_ok X) {d : Nat} {a0 : Nat} {x1 : Int32} {x2 : Int32} {μ0 : o_Mem} {q : Int64 → o_Mem → Prop} (h0 : o_is X a0 (.inl 11)) (h : o_Post (fX11_read (o_rf X) a0 x1 x2 μ0) q) : o_Ev X (d + 3) mX11_read 0 [some (.ref (o_ad X a0)), some (.int x1), some (.int x2), none] [] μ0 (o_QL q) := by
  unfold fX11_read at h
  refine s_aload_n (i := 0) dX11_read_0 rfl rfl ?_
  refine s_iload_n (i := 1) dX11_read_1 rfl rfl ?_
  refine s_iload_n (i := 2) dX11_read_2 rfl rfl ?_
  refine s_callVi (C := mX11_placeStatus) (As := [.int x1, .int x2]) (rest := []) (L0 := [some (.ref (o_ad X a0)), some (.int x1), some (.int x2)]) hX h0 clX11_131 dX11_read_3 rfl rfl (Nat.le_of_ble_eq_true rfl) (Nat.le_of_ble_eq_true rfl) (dnX11_placeStatus hX h0 (o_bdp h)) (fun r1 μ1 h => ?_)
  refine s_istore_n (i := 3) dX11_read_6 rfl (Nat.le_of_ble_eq_true rfl) rfl ?_
  refine s_iload_n (i := 3) dX11_read_7 rfl rfl ?_
  refine s_if_eq (tgt := 18) dX11_read_8 rfl (fun c1 => ?_) (fun c1 => ?_)
  · have h := o_if_t c1 h
    refine s_aload_n (i := 0) dX11_read_18 rfl rfl ?_
    refine s_iconst dX11_read_19 kI_0 ?_
    refine s_putI hX h0 fwX11_105 rfl dX11_read_20 (o_gen h (fun μ2 h => ?_))
    refine s_aload_n (i := 0) dX11_read_23 rfl rfl ?_
    refine s_getR hX h0 flX11_15 rfl dX11_read_24 (fun (g1 : o_is X (o_rf X a0 3) (.inr (3, 4))) => ?_)
    refine s_iload_n (i := 1) dX11_read_27 rfl rfl ?_
    have hc := o_ck_c h
    have h := o_ck_k h
    refine s_aaldK hX g1 (by decide) rfl hc rfl dX11_read_28 (fun (g2 : o_is X (o_rf X (o_rf X a0 3) x1.toNatClampNeg) (.inl 7)) => ?_)
    refine s_getR hX g2 flX11_143 rfl dX11_read_29 (fun (g3 : o_is X (o_rf X (o_rf X (o_rf X a0 3) x1.toNatClampNeg) 3) (.inr (2, 60))) => ?_)
    refine s_iload_n (i := 2) dX11_read_32 rfl rfl ?_
    have hc := o_ck_c h
    have h := o_ck_k h
    refine s_laldK g3 hc rfl dX11_read_33 ?_
    exact s_lreturn rfl dX11_read_34 ⟨_, rfl, o_ret h⟩
  · have h := o_if_f c1 h
    refine s_aload_n (i := 0) dX11_read_11 rfl rfl ?_
    refine s_iload_n (i := 3) dX11_read_12 rfl rfl ?_
    refine s_callVi (C := mX11_refuses) (As := [.int r1]) (rest := []) (L0 := [some (.ref (o_ad X a0)), some (.int r1)]) hX h0 clX11_139 dX11_read_13 rfl rfl (Nat.le_of_ble_eq_true rfl) (Nat.le_of_ble_eq_true rfl) (dnX11_refuses hX h0 (o_bdp h)) (fun r2 μ3 h => ?_)
    refine s_i2l dX11_read_16 ?_
    exact s_lreturn rfl dX11_read_17 ⟨_, rfl, o_ret h⟩
theorem dX11_pour_0 : decode cX11_pour 0 = .ok (.iload_n 1, 1) := by decide +kernel
theorem dX11_pour_1 : decode cX11_pour 1 = .ok (.invokestatic 112, 3) := by decide +kernel
theorem dX11_pour_4 : decode cX11_pour 4 = .ok (.ifCond .eq 24, 3) := by decide +kernel
theorem dX11_pour_7 : decode cX11_pour 7 = .ok (.iload_n 3, 1) := by decide +kernel
theorem dX11_pour_8 : decode cX11_pour 8 = .ok (.invokestatic 112, 3) := by decide +kernel
theorem dX11_pour_11 : decode cX11_pour 11 = .ok (.ifCond .eq 17, 3) := by decide +kernel
theorem dX11_pour_14 : decode cX11_pour 14 = .ok (.iload_n 2, 1) := by decide +kernel
theorem dX11_pour_15 : decode cX11_pour 15 = .ok (.ifCond .lt 13, 3) := by decide +kernel
theorem dX11_pour_18 : decode cX11_pour 18 = .ok (.iload 4, 2) := by decide +kernel
theorem dX11_pour_20 : decode cX11_pour 20 = .ok (.ifCond .lt 8, 3) := by decide +kernel
theorem dX11_pour_23 : decode cX11_pour 23 = .ok (.iload 5, 2) := by decide +kernel
theorem dX11_pour_25 : decode cX11_pour 25 = .ok (.ifCond .ge 9, 3) := by decide +kernel
theorem dX11_pour_28 : decode cX11_pour 28 = .ok (.aload_n 0, 1) := by decide +kernel
theorem dX11_pour_29 : decode cX11_pour 29 = .ok (.iconst 1, 1) := by decide +kernel
theorem dX11_pour_30 : decode cX11_pour 30 = .ok (.invokevirtual 124, 3) := by decide +kernel
theorem dX11_pour_33 : decode cX11_pour 33 = .ok (.ireturn, 1) := by decide +kernel
theorem dX11_pour_34 : decode cX11_pour 34 = .ok (.aload_n 0, 1) := by decide +kernel
theorem dX11_pour_35 : decode cX11_pour 35 = .ok (.getfield 15, 3) := by decide +kernel
theorem dX11_pour_38 : decode cX11_pour 38 = .ok (.iload_n 1, 1) := by decide +kernel
theorem dX11_pour_39 : decode cX11_pour 39 = .ok (.aaload, 1) := by decide +kernel
theorem dX11_pour_40 : decode cX11_pour 40 = .ok (.astore 6, 2) := by decide +kernel
theorem dX11_pour_42 : decode cX11_pour 42 = .ok (.aload_n 0, 1) := by decide +kernel
theorem dX11_pour_43 : decode cX11_pour 43 = .ok (.getfield 15, 3) := by decide +kernel
theorem dX11_pour_46 : decode cX11_pour 46 = .ok (.iload_n 3, 1) := by decide +kernel
theorem dX11_pour_47 : decode cX11_pour 47 = .ok (.aaload, 1) := by decide +kernel
theorem dX11_pour_48 : decode cX11_pour 48 = .ok (.astore 7, 2) := by decide +kernel
theorem dX11_pour_50 : decode cX11_pour 50 = .ok (.aload 6, 2) := by decide +kernel
theorem dX11_pour_52 : decode cX11_pour 52 = .ok (.getfield 147, 3) := by decide +kernel
theorem dX11_pour_55 : decode cX11_pour 55 = .ok (.ifCond .eq 11, 3) := by decide +kernel
theorem dX11_pour_58 : decode cX11_pour 58 = .ok (.aload 7, 2) := by decide +kernel
theorem dX11_pour_60 : decode cX11_pour 60 = .ok (.getfield 147, 3) := by decide +kernel
theorem dX11_pour_63 : decode cX11_pour 63 = .ok (.ifCond .ne 9, 3) := by decide +kernel
theorem dX11_pour_66 : decode cX11_pour 66 = .ok (.aload_n 0, 1) := by decide +kernel
theorem dX11_pour_67 : decode cX11_pour 67 = .ok (.iconst 2, 1) := by decide +kernel
theorem dX11_pour_68 : decode cX11_pour 68 = .ok (.invokevirtual 124, 3) := by decide +kernel
theorem dX11_pour_71 : decode cX11_pour 71 = .ok (.ireturn, 1) := by decide +kernel
theorem dX11_pour_72 : decode cX11_pour 72 = .ok (.aload 6, 2) := by decide +kernel
theorem dX11_pour_74 : decode cX11_pour 74 = .ok (.getfield 151, 3) := by decide +kernel
theorem dX11_pour_77 : decode cX11_pour 77 = .ok (.aload 7, 2) := by decide +kernel
theorem dX11_pour_79 : decode cX11_pour 79 = .ok (.getfield 151, 3) := by decide +kernel
theorem dX11_pour_82 : decode cX11_pour 82 = .ok (.if_icmp .eq 10, 3) := by decide +kernel
theorem dX11_pour_85 : decode cX11_pour 85 = .ok (.aload_n 0, 1) := by decide +kernel
theorem dX11_pour_86 : decode cX11_pour 86 = .ok (.bipush 8, 2) := by decide +kernel
theorem dX11_pour_88 : decode cX11_pour 88 = .ok (.invokevirtual 124, 3) := by decide +kernel
theorem dX11_pour_91 : decode cX11_pour 91 = .ok (.ireturn, 1) := by decide +kernel
theorem dX11_pour_92 : decode cX11_pour 92 = .ok (.iload_n 2, 1) := by decide +kernel
theorem dX11_pour_93 : decode cX11_pour 93 = .ok (.i2l, 1) := by decide +kernel
theorem dX11_pour_94 : decode cX11_pour 94 = .ok (.iload 5, 2) := by decide +kernel
theorem dX11_pour_96 : decode cX11_pour 96 = .ok (.i2l, 1) := by decide +kernel
theorem dX11_pour_97 : decode cX11_pour 97 = .ok (.ladd, 1) := by decide +kernel
theorem dX11_pour_98 : decode cX11_pour 98 = .ok (.aload 6, 2) := by decide +kernel
theorem dX11_pour_100 : decode cX11_pour 100 = .ok (.getfield 154, 3) := by decide +kernel
theorem dX11_pour_103 : decode cX11_pour 103 = .ok (.i2l, 1) := by decide +kernel
theorem dX11_pour_104 : decode cX11_pour 104 = .ok (.lcmp, 1) := by decide +kernel
theorem dX11_pour_105 : decode cX11_pour 105 = .ok (.ifCond .gt 20, 3) := by decide +kernel
theorem dX11_pour_108 : decode cX11_pour 108 = .ok (.iload 4, 2) := by decide +kernel
theorem dX11_pour_110 : decode cX11_pour 110 = .ok (.i2l, 1) := by decide +kernel
theorem dX11_pour_111 : decode cX11_pour 111 = .ok (.iload 5, 2) := by decide +kernel
theorem dX11_pour_113 : decode cX11_pour 113 = .ok (.i2l, 1) := by decide +kernel
theorem dX11_pour_114 : decode cX11_pour 114 = .ok (.ladd, 1) := by decide +kernel
theorem dX11_pour_115 : decode cX11_pour 115 = .ok (.aload 7, 2) := by decide +kernel
theorem dX11_pour_117 : decode cX11_pour 117 = .ok (.getfield 154, 3) := by decide +kernel
theorem dX11_pour_120 : decode cX11_pour 120 = .ok (.i2l, 1) := by decide +kernel
theorem dX11_pour_121 : decode cX11_pour 121 = .ok (.lcmp, 1) := by decide +kernel
theorem dX11_pour_122 : decode cX11_pour 122 = .ok (.ifCond .le 9, 3) := by decide +kernel
theorem dX11_pour_125 : decode cX11_pour 125 = .ok (.aload_n 0, 1) := by decide +kernel
theorem dX11_pour_126 : decode cX11_pour 126 = .ok (.iconst 3, 1) := by decide +kernel
theorem dX11_pour_127 : decode cX11_pour 127 = .ok (.invokevirtual 124, 3) := by decide +kernel
theorem dX11_pour_130 : decode cX11_pour 130 = .ok (.ireturn, 1) := by decide +kernel
theorem dX11_pour_131 : decode cX11_pour 131 = .ok (.aload 6, 2) := by decide +kernel
theorem dX11_pour_133 : decode cX11_pour 133 = .ok (.getfield 143, 3) := by decide +kernel
theorem dX11_pour_136 : decode cX11_pour 136 = .ok (.iload_n 2, 1) := by decide +kernel
theorem dX11_pour_137 : decode cX11_pour 137 = .ok (.aload 7, 2) := by decide +kernel
theorem dX11_pour_139 : decode cX11_pour 139 = .ok (.getfield 143, 3) := by decide +kernel
theorem dX11_pour_142 : decode cX11_pour 142 = .ok (.iload 4, 2) := by decide +kernel
theorem dX11_pour_144 : decode cX11_pour 144 = .ok (.iload 5, 2) := by decide +kernel
theorem dX11_pour_146 : decode cX11_pour 146 = .ok (.invokestatic 157, 3) := by decide +kernel
theorem dX11_pour_149 : decode cX11_pour 149 = .ok (.aload_n 0, 1) := by decide +kernel
theorem dX11_pour_150 : decode cX11_pour 150 = .ok (.iconst 0, 1) := by decide +kernel
theorem dX11_pour_151 : decode cX11_pour 151 = .ok (.invokevirtual 124, 3) := by decide +kernel
theorem dX11_pour_154 : decode cX11_pour 154 = .ok (.ireturn, 1) := by decide +kernel
noncomputable def fX11_pour_j28 (rf : Nat → Nat → Nat) (a0 : Nat) (μ0 : o_Mem) : Option (Int32 × o_Mem) :=
  o_bd (fX11_ends rf a0 1 μ0) fun r1 μ1 =>
  some (r1, μ1)
noncomputable def fX11_pour_j66 (rf : Nat → Nat → Nat) (a0 : Nat) (μ0 : o_Mem) : Option (Int32 × o_Mem) :=
  o_bd (fX11_ends rf a0 2 μ0) fun r1 μ1 =>
  some (r1, μ1)
noncomputable def fX11_pour_j125 (rf : Nat → Nat → Nat) (a0 : Nat) (μ0 : o_Mem) : Option (Int32 × o_Mem) :=
  o_bd (fX11_ends rf a0 3 μ0) fun r1 μ1 =>
  some (r1, μ1)
noncomputable def fX11_pour (rf : Nat → Nat → Nat) (a0 : Nat) (x1 : Int32) (x2 : Int32) (x3 : Int32) (x4 : Int32) (x5 : Int32) (μ0 : o_Mem) : Option (Int32 × o_Mem) :=
  o_bd (fX11_isTray rf x1 μ0) fun r1 μ1 =>
  if r1 = 0 then (
    fX11_pour_j28 rf a0 μ1)
  else (
    o_bd (fX11_isTray rf x3 μ1) fun r2 μ2 =>
    if r2 = 0 then (
      fX11_pour_j28 rf a0 μ2)
    else (
      if x2 < 0 then (
        fX11_pour_j28 rf a0 μ2)
      else (
        if x4 < 0 then (
          fX11_pour_j28 rf a0 μ2)
        else (
          if 0 ≤ x5 then (
            o_ck (0 ≤ (x1).toInt ∧ (x1).toInt < 4) <|
            o_ck (0 ≤ (x3).toInt ∧ (x3).toInt < 4) <|
            if (μ2.1 (rf (rf a0 3) x1.toNatClampNeg) 0) = 0 then (
              fX11_pour_j66 rf a0 μ2)
            else (
              if (μ2.1 (rf (rf a0 3) x3.toNatClampNeg) 0) = 0 then (
                fX11_pour_j66 rf a0 μ2)
              else (
                if (μ2.1 (rf (rf a0 3) x1.toNatClampNeg) 1) = (μ2.1 (rf (rf a0 3) x3.toNatClampNeg) 1) then (
                  if (μ2.1 (rf (rf a0 3) x1.toNatClampNeg) 2).toInt64 < (x2.toInt64 + x5.toInt64) then (
                    fX11_pour_j125 rf a0 μ2)
                  else (
                    if (x4.toInt64 + x5.toInt64) ≤ (μ2.1 (rf (rf a0 3) x3.toNatClampNeg) 2).toInt64 then (
                      o_ck (¬ x2 < 0 ∧ ¬ x4 < 0 ∧ ¬ x5 < 0 ∧ x2.toNatClampNeg + x5.toNatClampNeg ≤ 60 ∧ x4.toNatClampNeg + x5.toNatClampNeg ≤ 60) <|
                      o_seq (o_sL μ2 (rf (rf (rf a0 3) x3.toNatClampNeg) 3) (va_cpy (μ2.2 (rf (rf (rf a0 3) x1.toNatClampNeg) 3)) (μ2.2 (rf (rf (rf a0 3) x3.toNatClampNeg) 3)) x2.toNatClampNeg x4.toNatClampNeg x5.toNatClampNeg)) fun μ3 =>
                      o_bd (fX11_ends rf a0 0 μ3) fun r3 μ4 =>
                      some (r3, μ4))
                    else (
                      fX11_pour_j125 rf a0 μ2)))
                else (
                  o_bd (fX11_ends rf a0 8 μ2) fun r4 μ5 =>
                  some (r4, μ5)))))
          else (
            fX11_pour_j28 rf a0 μ2)))))
set_option maxRecDepth 20000 in
theorem dnX11_pour_j28 {X : o_Cx} (hX : o_ok X) {d : Nat} {a0 : Nat} {μ0 : o_Mem} {q : Int32 → o_Mem → Prop} (h0 : o_is X a0 (.inl 11)) (h : o_Post (fX11_pour_j28 (o_rf X) a0 μ0) q) : o_Ev X (d + 2) mX11_pour 28 [some (.ref (o_ad X a0)), none, none, none, none, none, none, none] [] μ0 (o_QZ q) := by
  unfold fX11_pour_j28 at h
  refine s_aload_n (i := 0) dX11_pour_28 rfl rfl ?_
  refine s_iconst dX11_pour_29 kI_1 ?_
  refine s_callVz (C := mX11_ends) (As := [.int 1]) (rest := []) (L0 := [some (.ref (o_ad X a0)), some (.int 1)]) hX h0 clX11_124 dX11_pour_30 rfl rfl (Nat.le_of_ble_eq_true rfl) (Nat.le_of_ble_eq_true rfl) (dnX11_ends hX h0 (o_bdp h)) (fun r1 μ1 zr1 h => ?_)
  exact s_zreturn rfl zr1 dX11_pour_33 ⟨_, rfl, zr1, o_ret h⟩
set_option maxRecDepth 20000 in
theorem dnX11_pour_j66 {X : o_Cx} (hX : o_ok X) {d : Nat} {a0 : Nat} {μ0 : o_Mem} {q : Int32 → o_Mem → Prop} (h0 : o_is X a0 (.inl 11)) (h : o_Post (fX11_pour_j66 (o_rf X) a0 μ0) q) : o_Ev X (d + 2) mX11_pour 66 [some (.ref (o_ad X a0)), none, none, none, none, none, none, none] [] μ0 (o_QZ q) := by
  unfold fX11_pour_j66 at h
  refine s_aload_n (i := 0) dX11_pour_66 rfl rfl ?_
  refine s_iconst dX11_pour_67 kI_2 ?_
  refine s_callVz (C := mX11_ends) (As := [.int 2]) (rest := []) (L0 := [some (.ref (o_ad X a0)), some (.int 2)]) hX h0 clX11_124 dX11_pour_68 rfl rfl (Nat.le_of_ble_eq_true rfl) (Nat.le_of_ble_eq_true rfl) (dnX11_ends hX h0 (o_bdp h)) (fun r1 μ1 zr1 h => ?_)
  exact s_zreturn rfl zr1 dX11_pour_71 ⟨_, rfl, zr1, o_ret h⟩
set_option maxRecDepth 20000 in
theorem dnX11_pour_j125 {X : o_Cx} (hX : o_ok X) {d : Nat} {a0 : Nat} {μ0 : o_Mem} {q : Int32 → o_Mem → Prop} (h0 : o_is X a0 (.inl 11)) (h : o_Post (fX11_pour_j125 (o_rf X) a0 μ0) q) : o_Ev X (d + 2) mX11_pour 125 [some (.ref (o_ad X a0)), none, none, none, none, none, none, none] [] μ0 (o_QZ q) := by
  unfold fX11_pour_j125 at h
  refine s_aload_n (i := 0) dX11_pour_125 rfl rfl ?_
  refine s_iconst dX11_pour_126 kI_3 ?_
  refine s_callVz (C := mX11_ends) (As := [.int 3]) (rest := []) (L0 := [some (.ref (o_ad X a0)), some (.int 3)]) hX h0 clX11_124 dX11_pour_127 rfl rfl (Nat.le_of_ble_eq_true rfl) (Nat.le_of_ble_eq_true rfl) (dnX11_ends hX h0 (o_bdp h)) (fun r1 μ1 zr1 h => ?_)
  exact s_zreturn rfl zr1 dX11_pour_130 ⟨_, rfl, zr1, o_ret h⟩
set_option maxRecDepth 20000 in
theorem dnX11_pour {X : o_Cx} (hX : o_ok X) {d : Nat} {a0 : Nat} {x1 : Int32} {x2 : Int32} {x3 : Int32} {x4 : Int32} {x5 : Int32} {μ0 : o_Mem} {q : Int32 → o_Mem → Prop} (h0 : o_is X a0 (.inl 11)) (h : o_Post (fX11_pour (o_rf X) a0 x1 x2 x3 x4 x5 μ0) q) : o_Ev X (d + 2) mX11_pour 0 [some (.ref (o_ad X a0)), some (.int x1), some (.int x2), some (.int x3), some (.int x4), some (.int x5), none, none] [] μ0 (o_QZ q) := by
  unfold fX11_pour at h
  refine s_iload_n (i := 1) dX11_pour_0 rfl rfl ?_
  refine s_callSz (C := mX11_isTray) (As := [.int x1]) (rest := []) (L0 := [some (.int x1)]) clX11_112 dX11_pour_1 rfl rfl (Nat.le_of_ble_eq_true rfl) (Nat.le_of_ble_eq_true rfl) (dnX11_isTray hX  (o_bdp h)) (fun r1 μ1 zr1 h => ?_)
  refine s_if_eq (tgt := 28) dX11_pour_4 rfl (fun c1 => ?_) (fun c1 => ?_)
  · have h := o_if_t c1 h
    refine s_mask [true, false, false, false, false, false, false, false] (L' := [some (.ref (o_ad X a0)), none, none, none, none, none, none, none]) rfl ?_
    exact dnX11_pour_j28 hX h0 h
  · have h := o_if_f c1 h
    refine s_iload_n (i := 3) dX11_pour_7 rfl rfl ?_
    refine s_callSz (C := mX11_isTray) (As := [.int x3]) (rest := []) (L0 := [some (.int x3)]) clX11_112 dX11_pour_8 rfl rfl (Nat.le_of_ble_eq_true rfl) (Nat.le_of_ble_eq_true rfl) (dnX11_isTray hX  (o_bdp h)) (fun r2 μ2 zr2 h => ?_)
    refine s_if_eq (tgt := 28) dX11_pour_11 rfl (fun c1 => ?_) (fun c1 => ?_)
    · have h := o_if_t c1 h
      refine s_mask [true, false, false, false, false, false, false, false] (L' := [some (.ref (o_ad X a0)), none, none, none, none, none, none, none]) rfl ?_
      exact dnX11_pour_j28 hX h0 h
    · have h := o_if_f c1 h
      refine s_iload_n (i := 2) dX11_pour_14 rfl rfl ?_
      refine s_if_lt (tgt := 28) dX11_pour_15 rfl (fun c1 => ?_) (fun c1 => ?_)
      · have h := o_if_t c1 h
        refine s_mask [true, false, false, false, false, false, false, false] (L' := [some (.ref (o_ad X a0)), none, none, none, none, none, none, none]) rfl ?_
        exact dnX11_pour_j28 hX h0 h
      · have h := o_if_f c1 h
        refine s_iload dX11_pour_18 rfl ?_
        refine s_if_lt (tgt := 28) dX11_pour_20 rfl (fun c1 => ?_) (fun c1 => ?_)
        · have h := o_if_t c1 h
          refine s_mask [true, false, false, false, false, false, false, false] (L' := [some (.ref (o_ad X a0)), none, none, none, none, none, none, none]) rfl ?_
          exact dnX11_pour_j28 hX h0 h
        · have h := o_if_f c1 h
          refine s_iload dX11_pour_23 rfl ?_
          refine s_if_ge (tgt := 34) dX11_pour_25 rfl (fun c1 => ?_) (fun c1 => ?_)
          · have h := o_if_t c1 h
            refine s_aload_n (i := 0) dX11_pour_34 rfl rfl ?_
            refine s_getR hX h0 flX11_15 rfl dX11_pour_35 (fun (g1 : o_is X (o_rf X a0 3) (.inr (3, 4))) => ?_)
            refine s_iload_n (i := 1) dX11_pour_38 rfl rfl ?_
            have hc := o_ck_c h
            have h := o_ck_k h
            refine s_aaldK hX g1 (by decide) rfl hc rfl dX11_pour_39 (fun (g2 : o_is X (o_rf X (o_rf X a0 3) x1.toNatClampNeg) (.inl 7)) => ?_)
            refine s_astore dX11_pour_40 (Nat.le_of_ble_eq_true rfl) rfl ?_
            refine s_aload_n (i := 0) dX11_pour_42 rfl rfl ?_
            refine s_getR hX h0 flX11_15 rfl dX11_pour_43 (fun (g3 : o_is X (o_rf X a0 3) (.inr (3, 4))) => ?_)
            refine s_iload_n (i := 3) dX11_pour_46 rfl rfl ?_
            have hc := o_ck_c h
            have h := o_ck_k h
            refine s_aaldK hX g3 (by decide) rfl hc rfl dX11_pour_47 (fun (g4 : o_is X (o_rf X (o_rf X a0 3) x3.toNatClampNeg) (.inl 7)) => ?_)
            refine s_astore dX11_pour_48 (Nat.le_of_ble_eq_true rfl) rfl ?_
            refine s_aload dX11_pour_50 rfl ?_
            refine s_getI g2 flX11_147 rfl dX11_pour_52 ?_
            refine s_if_eq (tgt := 66) dX11_pour_55 rfl (fun c1 => ?_) (fun c1 => ?_)
            · have h := o_if_t c1 h
              refine s_mask [true, false, false, false, false, false, false, false] (L' := [some (.ref (o_ad X a0)), none, none, none, none, none, none, none]) rfl ?_
              exact dnX11_pour_j66 hX h0 h
            · have h := o_if_f c1 h
              refine s_aload dX11_pour_58 rfl ?_
              refine s_getI g4 flX11_147 rfl dX11_pour_60 ?_
              refine s_if_ne (tgt := 72) dX11_pour_63 rfl (fun c1 => ?_) (fun c1 => ?_)
              · have h := o_if_f c1 h
                refine s_aload dX11_pour_72 rfl ?_
                refine s_getI g2 flX11_151 rfl dX11_pour_74 ?_
                refine s_aload dX11_pour_77 rfl ?_
                refine s_getI g4 flX11_151 rfl dX11_pour_79 ?_
                refine s_icmp_eq (tgt := 92) dX11_pour_82 rfl (fun c1 => ?_) (fun c1 => ?_)
                · have h := o_if_t c1 h
                  refine s_iload_n (i := 2) dX11_pour_92 rfl rfl ?_
                  refine s_i2l dX11_pour_93 ?_
                  refine s_iload dX11_pour_94 rfl ?_
                  refine s_i2l dX11_pour_96 ?_
                  refine s_ladd dX11_pour_97 ?_
                  refine s_aload dX11_pour_98 rfl ?_
                  refine s_getI g2 flX11_154 rfl dX11_pour_100 ?_
                  refine s_i2l dX11_pour_103 ?_
                  refine s_lif_gt (tgt := 125) dX11_pour_104 dX11_pour_105 rfl (fun c1 => ?_) (fun c1 => ?_)
                  · have h := o_if_t c1 h
                    refine s_mask [true, false, false, false, false, false, false, false] (L' := [some (.ref (o_ad X a0)), none, none, none, none, none, none, none]) rfl ?_
                    exact dnX11_pour_j125 hX h0 h
                  · have h := o_if_f c1 h
                    refine s_iload dX11_pour_108 rfl ?_
                    refine s_i2l dX11_pour_110 ?_
                    refine s_iload dX11_pour_111 rfl ?_
                    refine s_i2l dX11_pour_113 ?_
                    refine s_ladd dX11_pour_114 ?_
                    refine s_aload dX11_pour_115 rfl ?_
                    refine s_getI g4 flX11_154 rfl dX11_pour_117 ?_
                    refine s_i2l dX11_pour_120 ?_
                    refine s_lif_le (tgt := 131) dX11_pour_121 dX11_pour_122 rfl (fun c1 => ?_) (fun c1 => ?_)
                    · have h := o_if_t c1 h
                      refine s_aload dX11_pour_131 rfl ?_
                      refine s_getR hX g2 flX11_143 rfl dX11_pour_133 (fun (g5 : o_is X (o_rf X (o_rf X (o_rf X a0 3) x1.toNatClampNeg) 3) (.inr (2, 60))) => ?_)
                      refine s_iload_n (i := 2) dX11_pour_136 rfl rfl ?_
                      refine s_aload dX11_pour_137 rfl ?_
                      refine s_getR hX g4 flX11_143 rfl dX11_pour_139 (fun (g6 : o_is X (o_rf X (o_rf X (o_rf X a0 3) x3.toNatClampNeg) 3) (.inr (2, 60))) => ?_)
                      refine s_iload dX11_pour_142 rfl ?_
                      refine s_iload dX11_pour_144 rfl ?_
                      have hc := o_ck_c h
                      have h := o_ck_k h
                      refine s_copyL hX g5 g6 mlX11_157 acn acs aci hc.1 hc.2.1 hc.2.2.1 hc.2.2.2.1 hc.2.2.2.2 (Nat.le_of_ble_eq_true rfl) dX11_pour_146 (o_gen h (fun μ3 h => ?_))
                      refine s_aload_n (i := 0) dX11_pour_149 rfl rfl ?_
                      refine s_iconst dX11_pour_150 kI_0 ?_
                      refine s_callVz (C := mX11_ends) (As := [.int 0]) (rest := []) (L0 := [some (.ref (o_ad X a0)), some (.int 0)]) hX h0 clX11_124 dX11_pour_151 rfl rfl (Nat.le_of_ble_eq_true rfl) (Nat.le_of_ble_eq_true rfl) (dnX11_ends hX h0 (o_bdp h)) (fun r3 μ4 zr3 h => ?_)
                      exact s_zreturn rfl zr3 dX11_pour_154 ⟨_, rfl, zr3, o_ret h⟩
                    · have h := o_if_f c1 h
                      refine s_mask [true, false, false, false, false, false, false, false] (L' := [some (.ref (o_ad X a0)), none, none, none, none, none, none, none]) rfl ?_
                      exact dnX11_pour_j125 hX h0 h
                · have h := o_if_f c1 h
                  refine s_aload_n (i := 0) dX11_pour_85 rfl rfl ?_
                  refine s_bipush dX11_pour_86 kB_8 ?_
                  refine s_callVz (C := mX11_ends) (As := [.int 8]) (rest := []) (L0 := [some (.ref (o_ad X a0)), some (.int 8)]) hX h0 clX11_124 dX11_pour_88 rfl rfl (Nat.le_of_ble_eq_true rfl) (Nat.le_of_ble_eq_true rfl) (dnX11_ends hX h0 (o_bdp h)) (fun r4 μ5 zr4 h => ?_)
                  exact s_zreturn rfl zr4 dX11_pour_91 ⟨_, rfl, zr4, o_ret h⟩
              · have h := o_if_t c1 h
                refine s_mask [true, false, false, false, false, false, false, false] (L' := [some (.ref (o_ad X a0)), none, none, none, none, none, none, none]) rfl ?_
                exact dnX11_pour_j66 hX h0 h
          · have h := o_if_f c1 h
            refine s_mask [true, false, false, false, false, false, false, false] (L' := [some (.ref (o_ad X a0)), none, none, none, none, none, none, none]) rfl ?_
            exact dnX11_pour_j28 hX h0 h
theorem dX11_feed_0 : decode cX11_feed 0 = .ok (.aload_n 0, 1) := by decide +kernel
theorem dX11_feed_1 : decode cX11_feed 1 = .ok (.getfield 51, 3) := by decide +kernel
theorem dX11_feed_4 : decode cX11_feed 4 = .ok (.invokevirtual 163, 3) := by decide +kernel
theorem dX11_feed_7 : decode cX11_feed 7 = .ok (.ifCond .ne 5, 3) := by decide +kernel
theorem dX11_feed_10 : decode cX11_feed 10 = .ok (.iconst (-1), 1) := by decide +kernel
theorem dX11_feed_11 : decode cX11_feed 11 = .ok (.ireturn, 1) := by decide +kernel
theorem dX11_feed_12 : decode cX11_feed 12 = .ok (.aload_n 0, 1) := by decide +kernel
theorem dX11_feed_13 : decode cX11_feed 13 = .ok (.getfield 51, 3) := by decide +kernel
theorem dX11_feed_16 : decode cX11_feed 16 = .ok (.iload_n 1, 1) := by decide +kernel
theorem dX11_feed_17 : decode cX11_feed 17 = .ok (.invokevirtual 167, 3) := by decide +kernel
theorem dX11_feed_20 : decode cX11_feed 20 = .ok (.aload_n 0, 1) := by decide +kernel
theorem dX11_feed_21 : decode cX11_feed 21 = .ok (.getfield 51, 3) := by decide +kernel
theorem dX11_feed_24 : decode cX11_feed 24 = .ok (.iload_n 2, 1) := by decide +kernel
theorem dX11_feed_25 : decode cX11_feed 25 = .ok (.invokevirtual 167, 3) := by decide +kernel
theorem dX11_feed_28 : decode cX11_feed 28 = .ok (.aload_n 0, 1) := by decide +kernel
theorem dX11_feed_29 : decode cX11_feed 29 = .ok (.getfield 51, 3) := by decide +kernel
theorem dX11_feed_32 : decode cX11_feed 32 = .ok (.iload_n 3, 1) := by decide +kernel
theorem dX11_feed_33 : decode cX11_feed 33 = .ok (.invokevirtual 167, 3) := by decide +kernel
theorem dX11_feed_36 : decode cX11_feed 36 = .ok (.aload_n 0, 1) := by decide +kernel
theorem dX11_feed_37 : decode cX11_feed 37 = .ok (.getfield 51, 3) := by decide +kernel
theorem dX11_feed_40 : decode cX11_feed 40 = .ok (.iload 4, 2) := by decide +kernel
theorem dX11_feed_42 : decode cX11_feed 42 = .ok (.invokevirtual 167, 3) := by decide +kernel
theorem dX11_feed_45 : decode cX11_feed 45 = .ok (.aload_n 0, 1) := by decide +kernel
theorem dX11_feed_46 : decode cX11_feed 46 = .ok (.getfield 51, 3) := by decide +kernel
theorem dX11_feed_49 : decode cX11_feed 49 = .ok (.iload 5, 2) := by decide +kernel
theorem dX11_feed_51 : decode cX11_feed 51 = .ok (.invokevirtual 167, 3) := by decide +kernel
theorem dX11_feed_54 : decode cX11_feed 54 = .ok (.aload_n 0, 1) := by decide +kernel
theorem dX11_feed_55 : decode cX11_feed 55 = .ok (.getfield 51, 3) := by decide +kernel
theorem dX11_feed_58 : decode cX11_feed 58 = .ok (.getfield 171, 3) := by decide +kernel
theorem dX11_feed_61 : decode cX11_feed 61 = .ok (.ireturn, 1) := by decide +kernel
noncomputable def fX11_feed (rf : Nat → Nat → Nat) (a0 : Nat) (x1 : Int32) (x2 : Int32) (x3 : Int32) (x4 : Int32) (x5 : Int32) (μ0 : o_Mem) : Option (Int32 × o_Mem) :=
  o_bd (fX4_hasSpace rf (rf a0 11) μ0) fun r1 μ1 =>
  if r1 = 0 then (
    some ((-1), μ1))
  else (
    o_bd (fX4_append rf (rf a0 11) x1 μ1) fun _u μ2 =>
    o_bd (fX4_append rf (rf a0 11) x2 μ2) fun _u μ3 =>
    o_bd (fX4_append rf (rf a0 11) x3 μ3) fun _u μ4 =>
    o_bd (fX4_append rf (rf a0 11) x4 μ4) fun _u μ5 =>
    o_bd (fX4_append rf (rf a0 11) x5 μ5) fun _u μ6 =>
    some ((μ6.1 (rf a0 11) 1), μ6))
set_option maxRecDepth 20000 in
theorem dnX11_feed {X : o_Cx} (hX : o_ok X) {d : Nat} {a0 : Nat} {x1 : Int32} {x2 : Int32} {x3 : Int32} {x4 : Int32} {x5 : Int32} {μ0 : o_Mem} {q : Int32 → o_Mem → Prop} (h0 : o_is X a0 (.inl 11)) (h : o_Post (fX11_feed (o_rf X) a0 x1 x2 x3 x4 x5 μ0) q) : o_Ev X (d + 1) mX11_feed 0 [some (.ref (o_ad X a0)), some (.int x1), some (.int x2), some (.int x3), some (.int x4), some (.int x5)] [] μ0 (o_QI q) := by
  unfold fX11_feed at h
  refine s_aload_n (i := 0) dX11_feed_0 rfl rfl ?_
  refine s_getR hX h0 flX11_51 rfl dX11_feed_1 (fun (g1 : o_is X (o_rf X a0 11) (.inl 4)) => ?_)
  refine s_callVz (C := mX4_hasSpace) (As := []) (rest := []) (L0 := [some (.ref (o_ad X (o_rf X a0 11)))]) hX g1 clX11_163 dX11_feed_4 rfl rfl (Nat.le_of_ble_eq_true rfl) (Nat.le_of_ble_eq_true rfl) (dnX4_hasSpace hX g1 (o_bdp h)) (fun r1 μ1 zr1 h => ?_)
  refine s_if_ne (tgt := 12) dX11_feed_7 rfl (fun c1 => ?_) (fun c1 => ?_)
  · have h := o_if_f c1 h
    refine s_aload_n (i := 0) dX11_feed_12 rfl rfl ?_
    refine s_getR hX h0 flX11_51 rfl dX11_feed_13 (fun (g2 : o_is X (o_rf X a0 11) (.inl 4)) => ?_)
    refine s_iload_n (i := 1) dX11_feed_16 rfl rfl ?_
    refine s_callVu (C := mX4_append) (As := [.int x1]) (rest := []) (L0 := [some (.ref (o_ad X (o_rf X a0 11))), some (.int x1), none]) hX g2 clX11_167 dX11_feed_17 rfl rfl (Nat.le_of_ble_eq_true rfl) (Nat.le_of_ble_eq_true rfl) (dnX4_append hX g2 (o_bdp h)) (fun _u μ2 h => ?_)
    refine s_aload_n (i := 0) dX11_feed_20 rfl rfl ?_
    refine s_getR hX h0 flX11_51 rfl dX11_feed_21 (fun (g3 : o_is X (o_rf X a0 11) (.inl 4)) => ?_)
    refine s_iload_n (i := 2) dX11_feed_24 rfl rfl ?_
    refine s_callVu (C := mX4_append) (As := [.int x2]) (rest := []) (L0 := [some (.ref (o_ad X (o_rf X a0 11))), some (.int x2), none]) hX g3 clX11_167 dX11_feed_25 rfl rfl (Nat.le_of_ble_eq_true rfl) (Nat.le_of_ble_eq_true rfl) (dnX4_append hX g3 (o_bdp h)) (fun _u μ3 h => ?_)
    refine s_aload_n (i := 0) dX11_feed_28 rfl rfl ?_
    refine s_getR hX h0 flX11_51 rfl dX11_feed_29 (fun (g4 : o_is X (o_rf X a0 11) (.inl 4)) => ?_)
    refine s_iload_n (i := 3) dX11_feed_32 rfl rfl ?_
    refine s_callVu (C := mX4_append) (As := [.int x3]) (rest := []) (L0 := [some (.ref (o_ad X (o_rf X a0 11))), some (.int x3), none]) hX g4 clX11_167 dX11_feed_33 rfl rfl (Nat.le_of_ble_eq_true rfl) (Nat.le_of_ble_eq_true rfl) (dnX4_append hX g4 (o_bdp h)) (fun _u μ4 h => ?_)
    refine s_aload_n (i := 0) dX11_feed_36 rfl rfl ?_
    refine s_getR hX h0 flX11_51 rfl dX11_feed_37 (fun (g5 : o_is X (o_rf X a0 11) (.inl 4)) => ?_)
    refine s_iload dX11_feed_40 rfl ?_
    refine s_callVu (C := mX4_append) (As := [.int x4]) (rest := []) (L0 := [some (.ref (o_ad X (o_rf X a0 11))), some (.int x4), none]) hX g5 clX11_167 dX11_feed_42 rfl rfl (Nat.le_of_ble_eq_true rfl) (Nat.le_of_ble_eq_true rfl) (dnX4_append hX g5 (o_bdp h)) (fun _u μ5 h => ?_)
    refine s_aload_n (i := 0) dX11_feed_45 rfl rfl ?_
    refine s_getR hX h0 flX11_51 rfl dX11_feed_46 (fun (g6 : o_is X (o_rf X a0 11) (.inl 4)) => ?_)
    refine s_iload dX11_feed_49 rfl ?_
    refine s_callVu (C := mX4_append) (As := [.int x5]) (rest := []) (L0 := [some (.ref (o_ad X (o_rf X a0 11))), some (.int x5), none]) hX g6 clX11_167 dX11_feed_51 rfl rfl (Nat.le_of_ble_eq_true rfl) (Nat.le_of_ble_eq_true rfl) (dnX4_append hX g6 (o_bdp h)) (fun _u μ6 h => ?_)
    refine s_aload_n (i := 0) dX11_feed_54 rfl rfl ?_
    refine s_getR hX h0 flX11_51 rfl dX11_feed_55 (fun (g7 : o_is X (o_rf X a0 11) (.inl 4)) => ?_)
    refine s_getI g7 flX11_171 rfl dX11_feed_58 ?_
    exact s_ireturn rfl dX11_feed_61 ⟨_, rfl, o_ret h⟩
  · have h := o_if_t c1 h
    refine s_iconst dX11_feed_10 kI_m1 ?_
    exact s_ireturn rfl dX11_feed_11 ⟨_, rfl, o_ret h⟩
theorem dX11_gives_0 : decode cX11_gives 0 = .ok (.aload_n 0, 1) := by decide +kernel
theorem dX11_gives_1 : decode cX11_gives 1 = .ok (.iconst 0, 1) := by decide +kernel
theorem dX11_gives_2 : decode cX11_gives 2 = .ok (.putfield 105, 3) := by decide +kernel
theorem dX11_gives_5 : decode cX11_gives 5 = .ok (.iload_n 1, 1) := by decide +kernel
theorem dX11_gives_6 : decode cX11_gives 6 = .ok (.ireturn, 1) := by decide +kernel
noncomputable def fX11_gives (rf : Nat → Nat → Nat) (a0 : Nat) (x1 : Int32) (μ0 : o_Mem) : Option (Int32 × o_Mem) :=
  o_seq (o_wI μ0 a0 0 0) fun μ1 =>
  some (x1, μ1)
set_option maxRecDepth 20000 in
theorem dnX11_gives {X : o_Cx} (hX : o_ok X) {d : Nat} {a0 : Nat} {x1 : Int32} {μ0 : o_Mem} {q : Int32 → o_Mem → Prop} (h0 : o_is X a0 (.inl 11)) (h : o_Post (fX11_gives (o_rf X) a0 x1 μ0) q) : o_Ev X (d + 0) mX11_gives 0 [some (.ref (o_ad X a0)), some (.int x1)] [] μ0 (o_QI q) := by
  unfold fX11_gives at h
  refine s_aload_n (i := 0) dX11_gives_0 rfl rfl ?_
  refine s_iconst dX11_gives_1 kI_0 ?_
  refine s_putI hX h0 fwX11_105 rfl dX11_gives_2 (o_gen h (fun μ1 h => ?_))
  refine s_iload_n (i := 1) dX11_gives_5 rfl rfl ?_
  exact s_ireturn rfl dX11_gives_6 ⟨_, rfl, o_ret h⟩
