theorem dX11_valley_0 : decode cX11_valley 0 = .ok (.iload_n 1, 1) := by decide +kernel
theorem dX11_valley_1 : decode cX11_valley 1 = .ok (.i2l, 1) := by decide +kernel
theorem dX11_valley_2 : decode cX11_valley 2 = .ok (.lconst 0, 1) := by decide +kernel
theorem dX11_valley_3 : decode cX11_valley 3 = .ok (.aload_n 0, 1) := by decide +kernel
theorem dX11_valley_4 : decode cX11_valley 4 = .ok (.getfield 51, 3) := by decide +kernel
theorem dX11_valley_7 : decode cX11_valley 7 = .ok (.getfield 171, 3) := by decide +kernel
theorem dX11_valley_10 : decode cX11_valley 10 = .ok (.i2l, 1) := by decide +kernel
theorem dX11_valley_11 : decode cX11_valley 11 = .ok (.invokestatic 118, 3) := by decide +kernel
theorem dX11_valley_14 : decode cX11_valley 14 = .ok (.ifCond .ne 9, 3) := by decide +kernel
theorem dX11_valley_17 : decode cX11_valley 17 = .ok (.aload_n 0, 1) := by decide +kernel
theorem dX11_valley_18 : decode cX11_valley 18 = .ok (.iconst 1, 1) := by decide +kernel
theorem dX11_valley_19 : decode cX11_valley 19 = .ok (.invokevirtual 139, 3) := by decide +kernel
theorem dX11_valley_22 : decode cX11_valley 22 = .ok (.ireturn, 1) := by decide +kernel
theorem dX11_valley_23 : decode cX11_valley 23 = .ok (.aload_n 0, 1) := by decide +kernel
theorem dX11_valley_24 : decode cX11_valley 24 = .ok (.getfield 60, 3) := by decide +kernel
theorem dX11_valley_27 : decode cX11_valley 27 = .ok (.iload_n 1, 1) := by decide +kernel
theorem dX11_valley_28 : decode cX11_valley 28 = .ok (.invokevirtual 174, 3) := by decide +kernel
theorem dX11_valley_31 : decode cX11_valley 31 = .ok (.ifCond .ne 10, 3) := by decide +kernel
theorem dX11_valley_34 : decode cX11_valley 34 = .ok (.aload_n 0, 1) := by decide +kernel
theorem dX11_valley_35 : decode cX11_valley 35 = .ok (.bipush 9, 2) := by decide +kernel
theorem dX11_valley_37 : decode cX11_valley 37 = .ok (.invokevirtual 139, 3) := by decide +kernel
theorem dX11_valley_40 : decode cX11_valley 40 = .ok (.ireturn, 1) := by decide +kernel
theorem dX11_valley_41 : decode cX11_valley 41 = .ok (.aload_n 0, 1) := by decide +kernel
theorem dX11_valley_42 : decode cX11_valley 42 = .ok (.getfield 23, 3) := by decide +kernel
theorem dX11_valley_45 : decode cX11_valley 45 = .ok (.aload_n 0, 1) := by decide +kernel
theorem dX11_valley_46 : decode cX11_valley 46 = .ok (.getfield 27, 3) := by decide +kernel
theorem dX11_valley_49 : decode cX11_valley 49 = .ok (.invokevirtual 177, 3) := by decide +kernel
theorem dX11_valley_52 : decode cX11_valley 52 = .ok (.aload_n 0, 1) := by decide +kernel
theorem dX11_valley_53 : decode cX11_valley 53 = .ok (.getfield 33, 3) := by decide +kernel
theorem dX11_valley_56 : decode cX11_valley 56 = .ok (.invokevirtual 181, 3) := by decide +kernel
theorem dX11_valley_59 : decode cX11_valley 59 = .ok (.aload_n 0, 1) := by decide +kernel
theorem dX11_valley_60 : decode cX11_valley 60 = .ok (.aload_n 0, 1) := by decide +kernel
theorem dX11_valley_61 : decode cX11_valley 61 = .ok (.getfield 23, 3) := by decide +kernel
theorem dX11_valley_64 : decode cX11_valley 64 = .ok (.getfield 184, 3) := by decide +kernel
theorem dX11_valley_67 : decode cX11_valley 67 = .ok (.invokevirtual 187, 3) := by decide +kernel
theorem dX11_valley_70 : decode cX11_valley 70 = .ok (.ireturn, 1) := by decide +kernel
noncomputable def fX11_valley (rf : Nat → Nat → Nat) (a0 : Nat) (x1 : Int32) (μ0 : o_Mem) : Option (Int32 × o_Mem) :=
  o_bd (fX11_within rf x1.toInt64 (0 : Int64) ((μ0.1 (rf a0 11) 1).toInt64) μ0) fun r1 μ1 =>
  if r1 = 0 then (
    o_bd (fX11_refuses rf a0 1 μ1) fun r5 μ7 =>
    some (r5, μ7))
  else (
    o_bd (fX9_accept rf (rf a0 12) x1 μ1) fun r2 μ2 =>
    if r2 = 0 then (
      o_bd (fX11_refuses rf a0 9 μ2) fun r4 μ6 =>
      some (r4, μ6))
    else (
      o_bd (fX8_copyFrom rf (rf a0 4) (rf a0 5) μ2) fun _u μ3 =>
      o_bd (fX3_clear rf (rf a0 6) μ3) fun _u μ4 =>
      o_bd (fX11_gives rf a0 (μ4.1 (rf a0 4) 3) μ4) fun r3 μ5 =>
      some (r3, μ5)))
set_option maxRecDepth 20000 in
theorem dnX11_valley {X : o_Cx} (hX : o_ok X) {d : Nat} {a0 : Nat} {x1 : Int32} {μ0 : o_Mem} {q : Int32 → o_Mem → Prop} (h0 : o_is X a0 (.inl 11)) (h : o_Post (fX11_valley (o_rf X) a0 x1 μ0) q) : o_Ev X (d + 10) mX11_valley 0 [some (.ref (o_ad X a0)), some (.int x1)] [] μ0 (o_QI q) := by
  unfold fX11_valley at h
  refine s_iload_n (i := 1) dX11_valley_0 rfl rfl ?_
  refine s_i2l dX11_valley_1 ?_
  refine s_lconst (v := 0) dX11_valley_2 rfl ?_
  refine s_aload_n (i := 0) dX11_valley_3 rfl rfl ?_
  refine s_getR hX h0 flX11_51 rfl dX11_valley_4 (fun (g1 : o_is X (o_rf X a0 11) (.inl 4)) => ?_)
  refine s_getI g1 flX11_171 rfl dX11_valley_7 ?_
  refine s_i2l dX11_valley_10 ?_
  refine s_callSz (C := mX11_within) (As := [.long x1.toInt64, .long (0 : Int64), .long ((μ0.1 (o_rf X a0 11) 1).toInt64)]) (rest := []) (L0 := [some (.long x1.toInt64), none, some (.long (0 : Int64)), none, some (.long ((μ0.1 (o_rf X a0 11) 1).toInt64)), none]) clX11_118 dX11_valley_11 rfl rfl (Nat.le_of_ble_eq_true rfl) (Nat.le_of_ble_eq_true rfl) (dnX11_within hX  (o_bdp h)) (fun r1 μ1 zr1 h => ?_)
  refine s_if_ne (tgt := 23) dX11_valley_14 rfl (fun c1 => ?_) (fun c1 => ?_)
  · have h := o_if_f c1 h
    refine s_aload_n (i := 0) dX11_valley_23 rfl rfl ?_
    refine s_getR hX h0 flX11_60 rfl dX11_valley_24 (fun (g2 : o_is X (o_rf X a0 12) (.inl 9)) => ?_)
    refine s_iload_n (i := 1) dX11_valley_27 rfl rfl ?_
    refine s_callVz (C := mX9_accept) (As := [.int x1]) (rest := []) (L0 := [some (.ref (o_ad X (o_rf X a0 12))), some (.int x1), none, none]) hX g2 clX11_174 dX11_valley_28 rfl rfl (Nat.le_of_ble_eq_true rfl) (Nat.le_of_ble_eq_true rfl) (dnX9_accept hX g2 (o_bdp h)) (fun r2 μ2 zr2 h => ?_)
    refine s_if_ne (tgt := 41) dX11_valley_31 rfl (fun c1 => ?_) (fun c1 => ?_)
    · have h := o_if_f c1 h
      refine s_aload_n (i := 0) dX11_valley_41 rfl rfl ?_
      refine s_getR hX h0 flX11_23 rfl dX11_valley_42 (fun (g3 : o_is X (o_rf X a0 4) (.inl 8)) => ?_)
      refine s_aload_n (i := 0) dX11_valley_45 rfl rfl ?_
      refine s_getR hX h0 flX11_27 rfl dX11_valley_46 (fun (g4 : o_is X (o_rf X a0 5) (.inl 8)) => ?_)
      refine s_callVu (C := mX8_copyFrom) (As := [.ref (o_ad X (o_rf X a0 5))]) (rest := []) (L0 := [some (.ref (o_ad X (o_rf X a0 4))), some (.ref (o_ad X (o_rf X a0 5)))]) hX g3 clX11_177 dX11_valley_49 rfl rfl (Nat.le_of_ble_eq_true rfl) (Nat.le_of_ble_eq_true rfl) (dnX8_copyFrom hX g3 g4 (o_bdp h)) (fun _u μ3 h => ?_)
      refine s_aload_n (i := 0) dX11_valley_52 rfl rfl ?_
      refine s_getR hX h0 flX11_33 rfl dX11_valley_53 (fun (g5 : o_is X (o_rf X a0 6) (.inl 3)) => ?_)
      refine s_callVu (C := mX3_clear) (As := []) (rest := []) (L0 := [some (.ref (o_ad X (o_rf X a0 6)))]) hX g5 clX11_181 dX11_valley_56 rfl rfl (Nat.le_of_ble_eq_true rfl) (Nat.le_of_ble_eq_true rfl) (dnX3_clear hX g5 (o_bdp h)) (fun _u μ4 h => ?_)
      refine s_aload_n (i := 0) dX11_valley_59 rfl rfl ?_
      refine s_aload_n (i := 0) dX11_valley_60 rfl rfl ?_
      refine s_getR hX h0 flX11_23 rfl dX11_valley_61 (fun (g6 : o_is X (o_rf X a0 4) (.inl 8)) => ?_)
      refine s_getI g6 flX11_184 rfl dX11_valley_64 ?_
      refine s_callVi (C := mX11_gives) (As := [.int (μ4.1 (o_rf X a0 4) 3)]) (rest := []) (L0 := [some (.ref (o_ad X a0)), some (.int (μ4.1 (o_rf X a0 4) 3))]) hX h0 clX11_187 dX11_valley_67 rfl rfl (Nat.le_of_ble_eq_true rfl) (Nat.le_of_ble_eq_true rfl) (dnX11_gives hX h0 (o_bdp h)) (fun r3 μ5 h => ?_)
      exact s_ireturn rfl dX11_valley_70 ⟨_, rfl, o_ret h⟩
    · have h := o_if_t c1 h
      refine s_aload_n (i := 0) dX11_valley_34 rfl rfl ?_
      refine s_bipush dX11_valley_35 kB_9 ?_
      refine s_callVi (C := mX11_refuses) (As := [.int 9]) (rest := []) (L0 := [some (.ref (o_ad X a0)), some (.int 9)]) hX h0 clX11_139 dX11_valley_37 rfl rfl (Nat.le_of_ble_eq_true rfl) (Nat.le_of_ble_eq_true rfl) (dnX11_refuses hX h0 (o_bdp h)) (fun r4 μ6 h => ?_)
      exact s_ireturn rfl dX11_valley_40 ⟨_, rfl, o_ret h⟩
  · have h := o_if_t c1 h
    refine s_aload_n (i := 0) dX11_valley_17 rfl rfl ?_
    refine s_iconst dX11_valley_18 kI_1 ?_
    refine s_callVi (C := mX11_refuses) (As := [.int 1]) (rest := []) (L0 := [some (.ref (o_ad X a0)), some (.int 1)]) hX h0 clX11_139 dX11_valley_19 rfl rfl (Nat.le_of_ble_eq_true rfl) (Nat.le_of_ble_eq_true rfl) (dnX11_refuses hX h0 (o_bdp h)) (fun r5 μ7 h => ?_)
    exact s_ireturn rfl dX11_valley_22 ⟨_, rfl, o_ret h⟩
theorem dX11_weeks_0 : decode cX11_weeks 0 = .ok (.iload_n 1, 1) := by decide +kernel
theorem dX11_weeks_1 : decode cX11_weeks 1 = .ok (.i2l, 1) := by decide +kernel
theorem dX11_weeks_2 : decode cX11_weeks 2 = .ok (.lconst 0, 1) := by decide +kernel
theorem dX11_weeks_3 : decode cX11_weeks 3 = .ok (.aload_n 0, 1) := by decide +kernel
theorem dX11_weeks_4 : decode cX11_weeks 4 = .ok (.getfield 51, 3) := by decide +kernel
theorem dX11_weeks_7 : decode cX11_weeks 7 = .ok (.getfield 171, 3) := by decide +kernel
theorem dX11_weeks_10 : decode cX11_weeks 10 = .ok (.i2l, 1) := by decide +kernel
theorem dX11_weeks_11 : decode cX11_weeks 11 = .ok (.invokestatic 118, 3) := by decide +kernel
theorem dX11_weeks_14 : decode cX11_weeks 14 = .ok (.ifCond .eq 10, 3) := by decide +kernel
theorem dX11_weeks_17 : decode cX11_weeks 17 = .ok (.iload_n 1, 1) := by decide +kernel
theorem dX11_weeks_18 : decode cX11_weeks 18 = .ok (.sipush 300, 3) := by decide +kernel
theorem dX11_weeks_21 : decode cX11_weeks 21 = .ok (.if_icmp .le 9, 3) := by decide +kernel
theorem dX11_weeks_24 : decode cX11_weeks 24 = .ok (.aload_n 0, 1) := by decide +kernel
theorem dX11_weeks_25 : decode cX11_weeks 25 = .ok (.iconst 1, 1) := by decide +kernel
theorem dX11_weeks_26 : decode cX11_weeks 26 = .ok (.invokevirtual 139, 3) := by decide +kernel
theorem dX11_weeks_29 : decode cX11_weeks 29 = .ok (.ireturn, 1) := by decide +kernel
theorem dX11_weeks_30 : decode cX11_weeks 30 = .ok (.aload_n 0, 1) := by decide +kernel
theorem dX11_weeks_31 : decode cX11_weeks 31 = .ok (.getfield 69, 3) := by decide +kernel
theorem dX11_weeks_34 : decode cX11_weeks 34 = .ok (.iload_n 1, 1) := by decide +kernel
theorem dX11_weeks_35 : decode cX11_weeks 35 = .ok (.invokevirtual 190, 3) := by decide +kernel
theorem dX11_weeks_38 : decode cX11_weeks 38 = .ok (.ifCond .ne 10, 3) := by decide +kernel
theorem dX11_weeks_41 : decode cX11_weeks 41 = .ok (.aload_n 0, 1) := by decide +kernel
theorem dX11_weeks_42 : decode cX11_weeks 42 = .ok (.bipush 9, 2) := by decide +kernel
theorem dX11_weeks_44 : decode cX11_weeks 44 = .ok (.invokevirtual 139, 3) := by decide +kernel
theorem dX11_weeks_47 : decode cX11_weeks 47 = .ok (.ireturn, 1) := by decide +kernel
theorem dX11_weeks_48 : decode cX11_weeks 48 = .ok (.aload_n 0, 1) := by decide +kernel
theorem dX11_weeks_49 : decode cX11_weeks 49 = .ok (.getfield 33, 3) := by decide +kernel
theorem dX11_weeks_52 : decode cX11_weeks 52 = .ok (.aload_n 0, 1) := by decide +kernel
theorem dX11_weeks_53 : decode cX11_weeks 53 = .ok (.getfield 37, 3) := by decide +kernel
theorem dX11_weeks_56 : decode cX11_weeks 56 = .ok (.invokevirtual 191, 3) := by decide +kernel
theorem dX11_weeks_59 : decode cX11_weeks 59 = .ok (.aload_n 0, 1) := by decide +kernel
theorem dX11_weeks_60 : decode cX11_weeks 60 = .ok (.aload_n 0, 1) := by decide +kernel
theorem dX11_weeks_61 : decode cX11_weeks 61 = .ok (.getfield 33, 3) := by decide +kernel
theorem dX11_weeks_64 : decode cX11_weeks 64 = .ok (.getfield 194, 3) := by decide +kernel
theorem dX11_weeks_67 : decode cX11_weeks 67 = .ok (.invokevirtual 187, 3) := by decide +kernel
theorem dX11_weeks_70 : decode cX11_weeks 70 = .ok (.ireturn, 1) := by decide +kernel
noncomputable def fX11_weeks_j24 (rf : Nat → Nat → Nat) (a0 : Nat) (μ0 : o_Mem) : Option (Int32 × o_Mem) :=
  o_bd (fX11_refuses rf a0 1 μ0) fun r1 μ1 =>
  some (r1, μ1)
noncomputable def fX11_weeks (rf : Nat → Nat → Nat) (a0 : Nat) (x1 : Int32) (μ0 : o_Mem) : Option (Int32 × o_Mem) :=
  o_bd (fX11_within rf x1.toInt64 (0 : Int64) ((μ0.1 (rf a0 11) 1).toInt64) μ0) fun r1 μ1 =>
  if r1 = 0 then (
    fX11_weeks_j24 rf a0 μ1)
  else (
    if x1 ≤ 300 then (
      o_bd (fX10_accept rf (rf a0 13) x1 μ1) fun r2 μ2 =>
      if r2 = 0 then (
        o_bd (fX11_refuses rf a0 9 μ2) fun r4 μ5 =>
        some (r4, μ5))
      else (
        o_bd (fX3_copyFrom rf (rf a0 6) (rf a0 7) μ2) fun _u μ3 =>
        o_bd (fX11_gives rf a0 (μ3.1 (rf a0 6) 1) μ3) fun r3 μ4 =>
        some (r3, μ4)))
    else (
      fX11_weeks_j24 rf a0 μ1))
set_option maxRecDepth 20000 in
theorem dnX11_weeks_j24 {X : o_Cx} (hX : o_ok X) {d : Nat} {a0 : Nat} {μ0 : o_Mem} {q : Int32 → o_Mem → Prop} (h0 : o_is X a0 (.inl 11)) (h : o_Post (fX11_weeks_j24 (o_rf X) a0 μ0) q) : o_Ev X (d + 10) mX11_weeks 24 [some (.ref (o_ad X a0)), none] [] μ0 (o_QI q) := by
  unfold fX11_weeks_j24 at h
  refine s_aload_n (i := 0) dX11_weeks_24 rfl rfl ?_
  refine s_iconst dX11_weeks_25 kI_1 ?_
  refine s_callVi (C := mX11_refuses) (As := [.int 1]) (rest := []) (L0 := [some (.ref (o_ad X a0)), some (.int 1)]) hX h0 clX11_139 dX11_weeks_26 rfl rfl (Nat.le_of_ble_eq_true rfl) (Nat.le_of_ble_eq_true rfl) (dnX11_refuses hX h0 (o_bdp h)) (fun r1 μ1 h => ?_)
  exact s_ireturn rfl dX11_weeks_29 ⟨_, rfl, o_ret h⟩
set_option maxRecDepth 20000 in
theorem dnX11_weeks {X : o_Cx} (hX : o_ok X) {d : Nat} {a0 : Nat} {x1 : Int32} {μ0 : o_Mem} {q : Int32 → o_Mem → Prop} (h0 : o_is X a0 (.inl 11)) (h : o_Post (fX11_weeks (o_rf X) a0 x1 μ0) q) : o_Ev X (d + 10) mX11_weeks 0 [some (.ref (o_ad X a0)), some (.int x1)] [] μ0 (o_QI q) := by
  unfold fX11_weeks at h
  refine s_iload_n (i := 1) dX11_weeks_0 rfl rfl ?_
  refine s_i2l dX11_weeks_1 ?_
  refine s_lconst (v := 0) dX11_weeks_2 rfl ?_
  refine s_aload_n (i := 0) dX11_weeks_3 rfl rfl ?_
  refine s_getR hX h0 flX11_51 rfl dX11_weeks_4 (fun (g1 : o_is X (o_rf X a0 11) (.inl 4)) => ?_)
  refine s_getI g1 flX11_171 rfl dX11_weeks_7 ?_
  refine s_i2l dX11_weeks_10 ?_
  refine s_callSz (C := mX11_within) (As := [.long x1.toInt64, .long (0 : Int64), .long ((μ0.1 (o_rf X a0 11) 1).toInt64)]) (rest := []) (L0 := [some (.long x1.toInt64), none, some (.long (0 : Int64)), none, some (.long ((μ0.1 (o_rf X a0 11) 1).toInt64)), none]) clX11_118 dX11_weeks_11 rfl rfl (Nat.le_of_ble_eq_true rfl) (Nat.le_of_ble_eq_true rfl) (dnX11_within hX  (o_bdp h)) (fun r1 μ1 zr1 h => ?_)
  refine s_if_eq (tgt := 24) dX11_weeks_14 rfl (fun c1 => ?_) (fun c1 => ?_)
  · have h := o_if_t c1 h
    refine s_mask [true, false] (L' := [some (.ref (o_ad X a0)), none]) rfl ?_
    exact dnX11_weeks_j24 hX h0 h
  · have h := o_if_f c1 h
    refine s_iload_n (i := 1) dX11_weeks_17 rfl rfl ?_
    refine s_sipush dX11_weeks_18 kS_300 ?_
    refine s_icmp_le (tgt := 30) dX11_weeks_21 rfl (fun c1 => ?_) (fun c1 => ?_)
    · have h := o_if_t c1 h
      refine s_aload_n (i := 0) dX11_weeks_30 rfl rfl ?_
      refine s_getR hX h0 flX11_69 rfl dX11_weeks_31 (fun (g2 : o_is X (o_rf X a0 13) (.inl 10)) => ?_)
      refine s_iload_n (i := 1) dX11_weeks_34 rfl rfl ?_
      refine s_callVz (C := mX10_accept) (As := [.int x1]) (rest := []) (L0 := [some (.ref (o_ad X (o_rf X a0 13))), some (.int x1), none, none, none]) hX g2 clX11_190 dX11_weeks_35 rfl rfl (Nat.le_of_ble_eq_true rfl) (Nat.le_of_ble_eq_true rfl) (dnX10_accept hX g2 (o_bdp h)) (fun r2 μ2 zr2 h => ?_)
      refine s_if_ne (tgt := 48) dX11_weeks_38 rfl (fun c1 => ?_) (fun c1 => ?_)
      · have h := o_if_f c1 h
        refine s_aload_n (i := 0) dX11_weeks_48 rfl rfl ?_
        refine s_getR hX h0 flX11_33 rfl dX11_weeks_49 (fun (g3 : o_is X (o_rf X a0 6) (.inl 3)) => ?_)
        refine s_aload_n (i := 0) dX11_weeks_52 rfl rfl ?_
        refine s_getR hX h0 flX11_37 rfl dX11_weeks_53 (fun (g4 : o_is X (o_rf X a0 7) (.inl 3)) => ?_)
        refine s_callVu (C := mX3_copyFrom) (As := [.ref (o_ad X (o_rf X a0 7))]) (rest := []) (L0 := [some (.ref (o_ad X (o_rf X a0 6))), some (.ref (o_ad X (o_rf X a0 7)))]) hX g3 clX11_191 dX11_weeks_56 rfl rfl (Nat.le_of_ble_eq_true rfl) (Nat.le_of_ble_eq_true rfl) (dnX3_copyFrom hX g3 g4 (o_bdp h)) (fun _u μ3 h => ?_)
        refine s_aload_n (i := 0) dX11_weeks_59 rfl rfl ?_
        refine s_aload_n (i := 0) dX11_weeks_60 rfl rfl ?_
        refine s_getR hX h0 flX11_33 rfl dX11_weeks_61 (fun (g5 : o_is X (o_rf X a0 6) (.inl 3)) => ?_)
        refine s_getI g5 flX11_194 rfl dX11_weeks_64 ?_
        refine s_callVi (C := mX11_gives) (As := [.int (μ3.1 (o_rf X a0 6) 1)]) (rest := []) (L0 := [some (.ref (o_ad X a0)), some (.int (μ3.1 (o_rf X a0 6) 1))]) hX h0 clX11_187 dX11_weeks_67 rfl rfl (Nat.le_of_ble_eq_true rfl) (Nat.le_of_ble_eq_true rfl) (dnX11_gives hX h0 (o_bdp h)) (fun r3 μ4 h => ?_)
        exact s_ireturn rfl dX11_weeks_70 ⟨_, rfl, o_ret h⟩
      · have h := o_if_t c1 h
        refine s_aload_n (i := 0) dX11_weeks_41 rfl rfl ?_
        refine s_bipush dX11_weeks_42 kB_9 ?_
        refine s_callVi (C := mX11_refuses) (As := [.int 9]) (rest := []) (L0 := [some (.ref (o_ad X a0)), some (.int 9)]) hX h0 clX11_139 dX11_weeks_44 rfl rfl (Nat.le_of_ble_eq_true rfl) (Nat.le_of_ble_eq_true rfl) (dnX11_refuses hX h0 (o_bdp h)) (fun r4 μ5 h => ?_)
        exact s_ireturn rfl dX11_weeks_47 ⟨_, rfl, o_ret h⟩
    · have h := o_if_f c1 h
      refine s_mask [true, false] (L' := [some (.ref (o_ad X a0)), none]) rfl ?_
      exact dnX11_weeks_j24 hX h0 h
theorem dX11_fault_0 : decode cX11_fault 0 = .ok (.iload_n 1, 1) := by decide +kernel
theorem dX11_fault_1 : decode cX11_fault 1 = .ok (.ifCond .ne 11, 3) := by decide +kernel
theorem dX11_fault_4 : decode cX11_fault 4 = .ok (.aload_n 0, 1) := by decide +kernel
theorem dX11_fault_5 : decode cX11_fault 5 = .ok (.getfield 51, 3) := by decide +kernel
theorem dX11_fault_8 : decode cX11_fault 8 = .ok (.getfield 197, 3) := by decide +kernel
theorem dX11_fault_11 : decode cX11_fault 11 = .ok (.ireturn, 1) := by decide +kernel
theorem dX11_fault_12 : decode cX11_fault 12 = .ok (.iload_n 1, 1) := by decide +kernel
theorem dX11_fault_13 : decode cX11_fault 13 = .ok (.iconst 1, 1) := by decide +kernel
theorem dX11_fault_14 : decode cX11_fault 14 = .ok (.if_icmp .ne 13, 3) := by decide +kernel
theorem dX11_fault_17 : decode cX11_fault 17 = .ok (.aload_n 0, 1) := by decide +kernel
theorem dX11_fault_18 : decode cX11_fault 18 = .ok (.getfield 51, 3) := by decide +kernel
theorem dX11_fault_21 : decode cX11_fault 21 = .ok (.getfield 200, 3) := by decide +kernel
theorem dX11_fault_24 : decode cX11_fault 24 = .ok (.goto 4, 3) := by decide +kernel
theorem dX11_fault_27 : decode cX11_fault 27 = .ok (.iconst (-1), 1) := by decide +kernel
theorem dX11_fault_28 : decode cX11_fault 28 = .ok (.ireturn, 1) := by decide +kernel
noncomputable def fX11_fault (rf : Nat → Nat → Nat) (a0 : Nat) (x1 : Int32) (μ0 : o_Mem) : Option (Int32 × o_Mem) :=
  if x1 = 0 then (
    some ((μ0.1 (rf a0 11) 2), μ0))
  else (
    if x1 = 1 then (
      some ((μ0.1 (rf a0 11) 3), μ0))
    else (
      some ((-1), μ0)))
set_option maxRecDepth 20000 in
theorem dnX11_fault {X : o_Cx} (hX : o_ok X) {d : Nat} {a0 : Nat} {x1 : Int32} {μ0 : o_Mem} {q : Int32 → o_Mem → Prop} (h0 : o_is X a0 (.inl 11)) (h : o_Post (fX11_fault (o_rf X) a0 x1 μ0) q) : o_Ev X (d + 0) mX11_fault 0 [some (.ref (o_ad X a0)), some (.int x1)] [] μ0 (o_QI q) := by
  unfold fX11_fault at h
  refine s_iload_n (i := 1) dX11_fault_0 rfl rfl ?_
  refine s_if_ne (tgt := 12) dX11_fault_1 rfl (fun c1 => ?_) (fun c1 => ?_)
  · have h := o_if_f c1 h
    refine s_iload_n (i := 1) dX11_fault_12 rfl rfl ?_
    refine s_iconst dX11_fault_13 kI_1 ?_
    refine s_icmp_ne (tgt := 27) dX11_fault_14 rfl (fun c1 => ?_) (fun c1 => ?_)
    · have h := o_if_f c1 h
      refine s_iconst dX11_fault_27 kI_m1 ?_
      exact s_ireturn rfl dX11_fault_28 ⟨_, rfl, o_ret h⟩
    · have h := o_if_t c1 h
      refine s_aload_n (i := 0) dX11_fault_17 rfl rfl ?_
      refine s_getR hX h0 flX11_51 rfl dX11_fault_18 (fun (g1 : o_is X (o_rf X a0 11) (.inl 4)) => ?_)
      refine s_getI g1 flX11_200 rfl dX11_fault_21 ?_
      refine s_goto (tgt := 28) dX11_fault_24 rfl ?_
      exact s_ireturn rfl dX11_fault_28 ⟨_, rfl, o_ret h⟩
  · have h := o_if_t c1 h
    refine s_aload_n (i := 0) dX11_fault_4 rfl rfl ?_
    refine s_getR hX h0 flX11_51 rfl dX11_fault_5 (fun (g2 : o_is X (o_rf X a0 11) (.inl 4)) => ?_)
    refine s_getI g2 flX11_197 rfl dX11_fault_8 ?_
    exact s_ireturn rfl dX11_fault_11 ⟨_, rfl, o_ret h⟩
theorem dX11_told_0 : decode cX11_told 0 = .ok (.iload_n 1, 1) := by decide +kernel
theorem dX11_told_1 : decode cX11_told 1 = .ok (.tableswitch 221 0 11 #[63, 75, 87, 99, 111, 126, 141, 153, 165, 185, 197, 209], 63) := by decide +kernel
theorem dX11_told_64 : decode cX11_told 64 = .ok (.aload_n 0, 1) := by decide +kernel
theorem dX11_told_65 : decode cX11_told 65 = .ok (.aload_n 0, 1) := by decide +kernel
theorem dX11_told_66 : decode cX11_told 66 = .ok (.getfield 23, 3) := by decide +kernel
theorem dX11_told_69 : decode cX11_told 69 = .ok (.getfield 203, 3) := by decide +kernel
theorem dX11_told_72 : decode cX11_told 72 = .ok (.invokevirtual 187, 3) := by decide +kernel
theorem dX11_told_75 : decode cX11_told 75 = .ok (.ireturn, 1) := by decide +kernel
theorem dX11_told_76 : decode cX11_told 76 = .ok (.aload_n 0, 1) := by decide +kernel
theorem dX11_told_77 : decode cX11_told 77 = .ok (.aload_n 0, 1) := by decide +kernel
theorem dX11_told_78 : decode cX11_told 78 = .ok (.getfield 23, 3) := by decide +kernel
theorem dX11_told_81 : decode cX11_told 81 = .ok (.getfield 206, 3) := by decide +kernel
theorem dX11_told_84 : decode cX11_told 84 = .ok (.invokevirtual 187, 3) := by decide +kernel
theorem dX11_told_87 : decode cX11_told 87 = .ok (.ireturn, 1) := by decide +kernel
theorem dX11_told_88 : decode cX11_told 88 = .ok (.aload_n 0, 1) := by decide +kernel
theorem dX11_told_89 : decode cX11_told 89 = .ok (.aload_n 0, 1) := by decide +kernel
theorem dX11_told_90 : decode cX11_told 90 = .ok (.getfield 23, 3) := by decide +kernel
theorem dX11_told_93 : decode cX11_told 93 = .ok (.getfield 209, 3) := by decide +kernel
theorem dX11_told_96 : decode cX11_told 96 = .ok (.invokevirtual 187, 3) := by decide +kernel
theorem dX11_told_99 : decode cX11_told 99 = .ok (.ireturn, 1) := by decide +kernel
theorem dX11_told_100 : decode cX11_told 100 = .ok (.aload_n 0, 1) := by decide +kernel
theorem dX11_told_101 : decode cX11_told 101 = .ok (.aload_n 0, 1) := by decide +kernel
theorem dX11_told_102 : decode cX11_told 102 = .ok (.getfield 23, 3) := by decide +kernel
theorem dX11_told_105 : decode cX11_told 105 = .ok (.getfield 184, 3) := by decide +kernel
theorem dX11_told_108 : decode cX11_told 108 = .ok (.invokevirtual 187, 3) := by decide +kernel
theorem dX11_told_111 : decode cX11_told 111 = .ok (.ireturn, 1) := by decide +kernel
theorem dX11_told_112 : decode cX11_told 112 = .ok (.aload_n 0, 1) := by decide +kernel
theorem dX11_told_113 : decode cX11_told 113 = .ok (.aload_n 0, 1) := by decide +kernel
theorem dX11_told_114 : decode cX11_told 114 = .ok (.getfield 23, 3) := by decide +kernel
theorem dX11_told_117 : decode cX11_told 117 = .ok (.getfield 212, 3) := by decide +kernel
theorem dX11_told_120 : decode cX11_told 120 = .ok (.getfield 216, 3) := by decide +kernel
theorem dX11_told_123 : decode cX11_told 123 = .ok (.invokevirtual 187, 3) := by decide +kernel
theorem dX11_told_126 : decode cX11_told 126 = .ok (.ireturn, 1) := by decide +kernel
theorem dX11_told_127 : decode cX11_told 127 = .ok (.aload_n 0, 1) := by decide +kernel
theorem dX11_told_128 : decode cX11_told 128 = .ok (.aload_n 0, 1) := by decide +kernel
theorem dX11_told_129 : decode cX11_told 129 = .ok (.getfield 23, 3) := by decide +kernel
theorem dX11_told_132 : decode cX11_told 132 = .ok (.getfield 219, 3) := by decide +kernel
theorem dX11_told_135 : decode cX11_told 135 = .ok (.getfield 216, 3) := by decide +kernel
theorem dX11_told_138 : decode cX11_told 138 = .ok (.invokevirtual 187, 3) := by decide +kernel
theorem dX11_told_141 : decode cX11_told 141 = .ok (.ireturn, 1) := by decide +kernel
theorem dX11_told_142 : decode cX11_told 142 = .ok (.aload_n 0, 1) := by decide +kernel
theorem dX11_told_143 : decode cX11_told 143 = .ok (.aload_n 0, 1) := by decide +kernel
theorem dX11_told_144 : decode cX11_told 144 = .ok (.getfield 23, 3) := by decide +kernel
theorem dX11_told_147 : decode cX11_told 147 = .ok (.getfield 222, 3) := by decide +kernel
theorem dX11_told_150 : decode cX11_told 150 = .ok (.invokevirtual 187, 3) := by decide +kernel
theorem dX11_told_153 : decode cX11_told 153 = .ok (.ireturn, 1) := by decide +kernel
theorem dX11_told_154 : decode cX11_told 154 = .ok (.aload_n 0, 1) := by decide +kernel
theorem dX11_told_155 : decode cX11_told 155 = .ok (.aload_n 0, 1) := by decide +kernel
theorem dX11_told_156 : decode cX11_told 156 = .ok (.getfield 23, 3) := by decide +kernel
theorem dX11_told_159 : decode cX11_told 159 = .ok (.getfield 225, 3) := by decide +kernel
theorem dX11_told_162 : decode cX11_told 162 = .ok (.invokevirtual 187, 3) := by decide +kernel
theorem dX11_told_165 : decode cX11_told 165 = .ok (.ireturn, 1) := by decide +kernel
theorem dX11_told_166 : decode cX11_told 166 = .ok (.aload_n 0, 1) := by decide +kernel
theorem dX11_told_167 : decode cX11_told 167 = .ok (.aload_n 0, 1) := by decide +kernel
theorem dX11_told_168 : decode cX11_told 168 = .ok (.getfield 23, 3) := by decide +kernel
theorem dX11_told_171 : decode cX11_told 171 = .ok (.getfield 228, 3) := by decide +kernel
theorem dX11_told_174 : decode cX11_told 174 = .ok (.ifCond .eq 7, 3) := by decide +kernel
theorem dX11_told_177 : decode cX11_told 177 = .ok (.iconst 1, 1) := by decide +kernel
theorem dX11_told_178 : decode cX11_told 178 = .ok (.goto 4, 3) := by decide +kernel
theorem dX11_told_181 : decode cX11_told 181 = .ok (.iconst 0, 1) := by decide +kernel
theorem dX11_told_182 : decode cX11_told 182 = .ok (.invokevirtual 187, 3) := by decide +kernel
theorem dX11_told_185 : decode cX11_told 185 = .ok (.ireturn, 1) := by decide +kernel
theorem dX11_told_186 : decode cX11_told 186 = .ok (.aload_n 0, 1) := by decide +kernel
theorem dX11_told_187 : decode cX11_told 187 = .ok (.aload_n 0, 1) := by decide +kernel
theorem dX11_told_188 : decode cX11_told 188 = .ok (.getfield 23, 3) := by decide +kernel
theorem dX11_told_191 : decode cX11_told 191 = .ok (.getfield 231, 3) := by decide +kernel
theorem dX11_told_194 : decode cX11_told 194 = .ok (.invokevirtual 187, 3) := by decide +kernel
theorem dX11_told_197 : decode cX11_told 197 = .ok (.ireturn, 1) := by decide +kernel
theorem dX11_told_198 : decode cX11_told 198 = .ok (.aload_n 0, 1) := by decide +kernel
theorem dX11_told_199 : decode cX11_told 199 = .ok (.aload_n 0, 1) := by decide +kernel
theorem dX11_told_200 : decode cX11_told 200 = .ok (.getfield 23, 3) := by decide +kernel
theorem dX11_told_203 : decode cX11_told 203 = .ok (.getfield 234, 3) := by decide +kernel
theorem dX11_told_206 : decode cX11_told 206 = .ok (.invokevirtual 187, 3) := by decide +kernel
theorem dX11_told_209 : decode cX11_told 209 = .ok (.ireturn, 1) := by decide +kernel
theorem dX11_told_210 : decode cX11_told 210 = .ok (.aload_n 0, 1) := by decide +kernel
theorem dX11_told_211 : decode cX11_told 211 = .ok (.aload_n 0, 1) := by decide +kernel
theorem dX11_told_212 : decode cX11_told 212 = .ok (.getfield 23, 3) := by decide +kernel
theorem dX11_told_215 : decode cX11_told 215 = .ok (.invokevirtual 237, 3) := by decide +kernel
theorem dX11_told_218 : decode cX11_told 218 = .ok (.invokevirtual 187, 3) := by decide +kernel
theorem dX11_told_221 : decode cX11_told 221 = .ok (.ireturn, 1) := by decide +kernel
theorem dX11_told_222 : decode cX11_told 222 = .ok (.aload_n 0, 1) := by decide +kernel
theorem dX11_told_223 : decode cX11_told 223 = .ok (.iconst 1, 1) := by decide +kernel
theorem dX11_told_224 : decode cX11_told 224 = .ok (.invokevirtual 139, 3) := by decide +kernel
theorem dX11_told_227 : decode cX11_told 227 = .ok (.ireturn, 1) := by decide +kernel
noncomputable def fX11_told_j182 (rf : Nat → Nat → Nat) (b0 : Nat) (y1 : Int32) (μ0 : o_Mem) : Option (Int32 × o_Mem) :=
  o_bd (fX11_gives rf b0 y1 μ0) fun r1 μ1 =>
  some (r1, μ1)
noncomputable def fX11_told (rf : Nat → Nat → Nat) (a0 : Nat) (x1 : Int32) (μ0 : o_Mem) : Option (Int32 × o_Mem) :=
  if x1 = 0 then (
    o_bd (fX11_gives rf a0 (μ0.1 (rf a0 4) 0) μ0) fun r1 μ1 =>
    some (r1, μ1))
  else
  if x1 = 1 then (
    o_bd (fX11_gives rf a0 (μ0.1 (rf a0 4) 1) μ0) fun r2 μ2 =>
    some (r2, μ2))
  else
  if x1 = 2 then (
    o_bd (fX11_gives rf a0 (μ0.1 (rf a0 4) 2) μ0) fun r3 μ3 =>
    some (r3, μ3))
  else
  if x1 = 3 then (
    o_bd (fX11_gives rf a0 (μ0.1 (rf a0 4) 3) μ0) fun r4 μ4 =>
    some (r4, μ4))
  else
  if x1 = 4 then (
    o_bd (fX11_gives rf a0 (μ0.1 (rf (rf a0 4) 15) 0) μ0) fun r5 μ5 =>
    some (r5, μ5))
  else
  if x1 = 5 then (
    o_bd (fX11_gives rf a0 (μ0.1 (rf (rf a0 4) 16) 0) μ0) fun r6 μ6 =>
    some (r6, μ6))
  else
  if x1 = 6 then (
    o_bd (fX11_gives rf a0 (μ0.1 (rf a0 4) 4) μ0) fun r7 μ7 =>
    some (r7, μ7))
  else
  if x1 = 7 then (
    o_bd (fX11_gives rf a0 (μ0.1 (rf a0 4) 5) μ0) fun r8 μ8 =>
    some (r8, μ8))
  else
  if x1 = 8 then (
    if (μ0.1 (rf a0 4) 6) = 0 then (
      fX11_told_j182 rf a0 0 μ0)
    else (
      fX11_told_j182 rf a0 1 μ0))
  else
  if x1 = 9 then (
    o_bd (fX11_gives rf a0 (μ0.1 (rf a0 4) 7) μ0) fun r9 μ9 =>
    some (r9, μ9))
  else
  if x1 = 10 then (
    o_bd (fX11_gives rf a0 (μ0.1 (rf a0 4) 8) μ0) fun r10 μ10 =>
    some (r10, μ10))
  else
  if x1 = 11 then (
    o_bd (fX8_worthOfAll rf (rf a0 4) μ0) fun r11 μ11 =>
    o_bd (fX11_gives rf a0 r11 μ11) fun r12 μ12 =>
    some (r12, μ12))
  else
    o_bd (fX11_refuses rf a0 1 μ0) fun r13 μ13 =>
    some (r13, μ13)
set_option maxRecDepth 20000 in
theorem dnX11_told_j182 {X : o_Cx} (hX : o_ok X) {d : Nat} {b0 : Nat} {y1 : Int32} {μ0 : o_Mem} {q : Int32 → o_Mem → Prop} (hb0 : o_is X b0 (.inl 11)) (h : o_Post (fX11_told_j182 (o_rf X) b0 y1 μ0) q) : o_Ev X (d + 1) mX11_told 182 [none, none] [.int y1, .ref (o_ad X b0)] μ0 (o_QI q) := by
  unfold fX11_told_j182 at h
  refine s_callVi (C := mX11_gives) (As := [.int y1]) (rest := []) (L0 := [some (.ref (o_ad X b0)), some (.int y1)]) hX hb0 clX11_187 dX11_told_182 rfl rfl (Nat.le_of_ble_eq_true rfl) (Nat.le_of_ble_eq_true rfl) (dnX11_gives hX hb0 (o_bdp h)) (fun r1 μ1 h => ?_)
  exact s_ireturn rfl dX11_told_185 ⟨_, rfl, o_ret h⟩
set_option maxRecDepth 20000 in
theorem dnX11_told {X : o_Cx} (hX : o_ok X) {d : Nat} {a0 : Nat} {x1 : Int32} {μ0 : o_Mem} {q : Int32 → o_Mem → Prop} (h0 : o_is X a0 (.inl 11)) (h : o_Post (fX11_told (o_rf X) a0 x1 μ0) q) : o_Ev X (d + 1) mX11_told 0 [some (.ref (o_ad X a0)), some (.int x1)] [] μ0 (o_QI q) := by
  unfold fX11_told at h
  refine s_iload_n (i := 1) dX11_told_0 rfl rfl ?_
  by_cases e0 : x1 = 0
  · have h := o_if_t e0 h
    refine s_table (off := 63) (tgt := 64) dX11_told_1 rfl (by rw [e0]; decide) rfl ?_
    refine s_aload_n (i := 0) dX11_told_64 rfl rfl ?_
    refine s_aload_n (i := 0) dX11_told_65 rfl rfl ?_
    refine s_getR hX h0 flX11_23 rfl dX11_told_66 (fun (g1 : o_is X (o_rf X a0 4) (.inl 8)) => ?_)
    refine s_getI g1 flX11_203 rfl dX11_told_69 ?_
    refine s_callVi (C := mX11_gives) (As := [.int (μ0.1 (o_rf X a0 4) 0)]) (rest := []) (L0 := [some (.ref (o_ad X a0)), some (.int (μ0.1 (o_rf X a0 4) 0))]) hX h0 clX11_187 dX11_told_72 rfl rfl (Nat.le_of_ble_eq_true rfl) (Nat.le_of_ble_eq_true rfl) (dnX11_gives hX h0 (o_bdp h)) (fun r1 μ1 h => ?_)
    exact s_ireturn rfl dX11_told_75 ⟨_, rfl, o_ret h⟩
  have h := o_if_f e0 h
  by_cases e1 : x1 = 1
  · have h := o_if_t e1 h
    refine s_table (off := 75) (tgt := 76) dX11_told_1 rfl (by rw [e1]; decide) rfl ?_
    refine s_aload_n (i := 0) dX11_told_76 rfl rfl ?_
    refine s_aload_n (i := 0) dX11_told_77 rfl rfl ?_
    refine s_getR hX h0 flX11_23 rfl dX11_told_78 (fun (g2 : o_is X (o_rf X a0 4) (.inl 8)) => ?_)
    refine s_getI g2 flX11_206 rfl dX11_told_81 ?_
    refine s_callVi (C := mX11_gives) (As := [.int (μ0.1 (o_rf X a0 4) 1)]) (rest := []) (L0 := [some (.ref (o_ad X a0)), some (.int (μ0.1 (o_rf X a0 4) 1))]) hX h0 clX11_187 dX11_told_84 rfl rfl (Nat.le_of_ble_eq_true rfl) (Nat.le_of_ble_eq_true rfl) (dnX11_gives hX h0 (o_bdp h)) (fun r2 μ2 h => ?_)
    exact s_ireturn rfl dX11_told_87 ⟨_, rfl, o_ret h⟩
  have h := o_if_f e1 h
  by_cases e2 : x1 = 2
  · have h := o_if_t e2 h
    refine s_table (off := 87) (tgt := 88) dX11_told_1 rfl (by rw [e2]; decide) rfl ?_
    refine s_aload_n (i := 0) dX11_told_88 rfl rfl ?_
    refine s_aload_n (i := 0) dX11_told_89 rfl rfl ?_
    refine s_getR hX h0 flX11_23 rfl dX11_told_90 (fun (g3 : o_is X (o_rf X a0 4) (.inl 8)) => ?_)
    refine s_getI g3 flX11_209 rfl dX11_told_93 ?_
    refine s_callVi (C := mX11_gives) (As := [.int (μ0.1 (o_rf X a0 4) 2)]) (rest := []) (L0 := [some (.ref (o_ad X a0)), some (.int (μ0.1 (o_rf X a0 4) 2))]) hX h0 clX11_187 dX11_told_96 rfl rfl (Nat.le_of_ble_eq_true rfl) (Nat.le_of_ble_eq_true rfl) (dnX11_gives hX h0 (o_bdp h)) (fun r3 μ3 h => ?_)
    exact s_ireturn rfl dX11_told_99 ⟨_, rfl, o_ret h⟩
  have h := o_if_f e2 h
  by_cases e3 : x1 = 3
  · have h := o_if_t e3 h
    refine s_table (off := 99) (tgt := 100) dX11_told_1 rfl (by rw [e3]; decide) rfl ?_
    refine s_aload_n (i := 0) dX11_told_100 rfl rfl ?_
    refine s_aload_n (i := 0) dX11_told_101 rfl rfl ?_
    refine s_getR hX h0 flX11_23 rfl dX11_told_102 (fun (g4 : o_is X (o_rf X a0 4) (.inl 8)) => ?_)
    refine s_getI g4 flX11_184 rfl dX11_told_105 ?_
    refine s_callVi (C := mX11_gives) (As := [.int (μ0.1 (o_rf X a0 4) 3)]) (rest := []) (L0 := [some (.ref (o_ad X a0)), some (.int (μ0.1 (o_rf X a0 4) 3))]) hX h0 clX11_187 dX11_told_108 rfl rfl (Nat.le_of_ble_eq_true rfl) (Nat.le_of_ble_eq_true rfl) (dnX11_gives hX h0 (o_bdp h)) (fun r4 μ4 h => ?_)
    exact s_ireturn rfl dX11_told_111 ⟨_, rfl, o_ret h⟩
  have h := o_if_f e3 h
  by_cases e4 : x1 = 4
  · have h := o_if_t e4 h
    refine s_table (off := 111) (tgt := 112) dX11_told_1 rfl (by rw [e4]; decide) rfl ?_
    refine s_aload_n (i := 0) dX11_told_112 rfl rfl ?_
    refine s_aload_n (i := 0) dX11_told_113 rfl rfl ?_
    refine s_getR hX h0 flX11_23 rfl dX11_told_114 (fun (g5 : o_is X (o_rf X a0 4) (.inl 8)) => ?_)
    refine s_getR hX g5 flX11_212 rfl dX11_told_117 (fun (g6 : o_is X (o_rf X (o_rf X a0 4) 15) (.inl 1)) => ?_)
    refine s_getI g6 flX11_216 rfl dX11_told_120 ?_
    refine s_callVi (C := mX11_gives) (As := [.int (μ0.1 (o_rf X (o_rf X a0 4) 15) 0)]) (rest := []) (L0 := [some (.ref (o_ad X a0)), some (.int (μ0.1 (o_rf X (o_rf X a0 4) 15) 0))]) hX h0 clX11_187 dX11_told_123 rfl rfl (Nat.le_of_ble_eq_true rfl) (Nat.le_of_ble_eq_true rfl) (dnX11_gives hX h0 (o_bdp h)) (fun r5 μ5 h => ?_)
    exact s_ireturn rfl dX11_told_126 ⟨_, rfl, o_ret h⟩
  have h := o_if_f e4 h
  by_cases e5 : x1 = 5
  · have h := o_if_t e5 h
    refine s_table (off := 126) (tgt := 127) dX11_told_1 rfl (by rw [e5]; decide) rfl ?_
    refine s_aload_n (i := 0) dX11_told_127 rfl rfl ?_
    refine s_aload_n (i := 0) dX11_told_128 rfl rfl ?_
    refine s_getR hX h0 flX11_23 rfl dX11_told_129 (fun (g7 : o_is X (o_rf X a0 4) (.inl 8)) => ?_)
    refine s_getR hX g7 flX11_219 rfl dX11_told_132 (fun (g8 : o_is X (o_rf X (o_rf X a0 4) 16) (.inl 1)) => ?_)
    refine s_getI g8 flX11_216 rfl dX11_told_135 ?_
    refine s_callVi (C := mX11_gives) (As := [.int (μ0.1 (o_rf X (o_rf X a0 4) 16) 0)]) (rest := []) (L0 := [some (.ref (o_ad X a0)), some (.int (μ0.1 (o_rf X (o_rf X a0 4) 16) 0))]) hX h0 clX11_187 dX11_told_138 rfl rfl (Nat.le_of_ble_eq_true rfl) (Nat.le_of_ble_eq_true rfl) (dnX11_gives hX h0 (o_bdp h)) (fun r6 μ6 h => ?_)
    exact s_ireturn rfl dX11_told_141 ⟨_, rfl, o_ret h⟩
  have h := o_if_f e5 h
  by_cases e6 : x1 = 6
  · have h := o_if_t e6 h
    refine s_table (off := 141) (tgt := 142) dX11_told_1 rfl (by rw [e6]; decide) rfl ?_
    refine s_aload_n (i := 0) dX11_told_142 rfl rfl ?_
    refine s_aload_n (i := 0) dX11_told_143 rfl rfl ?_
    refine s_getR hX h0 flX11_23 rfl dX11_told_144 (fun (g9 : o_is X (o_rf X a0 4) (.inl 8)) => ?_)
    refine s_getI g9 flX11_222 rfl dX11_told_147 ?_
    refine s_callVi (C := mX11_gives) (As := [.int (μ0.1 (o_rf X a0 4) 4)]) (rest := []) (L0 := [some (.ref (o_ad X a0)), some (.int (μ0.1 (o_rf X a0 4) 4))]) hX h0 clX11_187 dX11_told_150 rfl rfl (Nat.le_of_ble_eq_true rfl) (Nat.le_of_ble_eq_true rfl) (dnX11_gives hX h0 (o_bdp h)) (fun r7 μ7 h => ?_)
    exact s_ireturn rfl dX11_told_153 ⟨_, rfl, o_ret h⟩
  have h := o_if_f e6 h
  by_cases e7 : x1 = 7
  · have h := o_if_t e7 h
    refine s_table (off := 153) (tgt := 154) dX11_told_1 rfl (by rw [e7]; decide) rfl ?_
    refine s_aload_n (i := 0) dX11_told_154 rfl rfl ?_
    refine s_aload_n (i := 0) dX11_told_155 rfl rfl ?_
    refine s_getR hX h0 flX11_23 rfl dX11_told_156 (fun (g10 : o_is X (o_rf X a0 4) (.inl 8)) => ?_)
    refine s_getI g10 flX11_225 rfl dX11_told_159 ?_
    refine s_callVi (C := mX11_gives) (As := [.int (μ0.1 (o_rf X a0 4) 5)]) (rest := []) (L0 := [some (.ref (o_ad X a0)), some (.int (μ0.1 (o_rf X a0 4) 5))]) hX h0 clX11_187 dX11_told_162 rfl rfl (Nat.le_of_ble_eq_true rfl) (Nat.le_of_ble_eq_true rfl) (dnX11_gives hX h0 (o_bdp h)) (fun r8 μ8 h => ?_)
    exact s_ireturn rfl dX11_told_165 ⟨_, rfl, o_ret h⟩
  have h := o_if_f e7 h
  by_cases e8 : x1 = 8
  · have h := o_if_t e8 h
    refine s_table (off := 165) (tgt := 166) dX11_told_1 rfl (by rw [e8]; decide) rfl ?_
    refine s_aload_n (i := 0) dX11_told_166 rfl rfl ?_
    refine s_aload_n (i := 0) dX11_told_167 rfl rfl ?_
    refine s_getR hX h0 flX11_23 rfl dX11_told_168 (fun (g11 : o_is X (o_rf X a0 4) (.inl 8)) => ?_)
    refine s_getI g11 flX11_228 rfl dX11_told_171 ?_
    refine s_if_eq (tgt := 181) dX11_told_174 rfl (fun c1 => ?_) (fun c1 => ?_)
    · have h := o_if_t c1 h
      refine s_iconst dX11_told_181 kI_0 ?_
      refine s_mask [false, false] (L' := [none, none]) rfl ?_
      exact dnX11_told_j182 hX h0 h
    · have h := o_if_f c1 h
      refine s_iconst dX11_told_177 kI_1 ?_
      refine s_goto (tgt := 182) dX11_told_178 rfl ?_
      refine s_mask [false, false] (L' := [none, none]) rfl ?_
      exact dnX11_told_j182 hX h0 h
  have h := o_if_f e8 h
  by_cases e9 : x1 = 9
  · have h := o_if_t e9 h
    refine s_table (off := 185) (tgt := 186) dX11_told_1 rfl (by rw [e9]; decide) rfl ?_
    refine s_aload_n (i := 0) dX11_told_186 rfl rfl ?_
    refine s_aload_n (i := 0) dX11_told_187 rfl rfl ?_
    refine s_getR hX h0 flX11_23 rfl dX11_told_188 (fun (g12 : o_is X (o_rf X a0 4) (.inl 8)) => ?_)
    refine s_getI g12 flX11_231 rfl dX11_told_191 ?_
    refine s_callVi (C := mX11_gives) (As := [.int (μ0.1 (o_rf X a0 4) 7)]) (rest := []) (L0 := [some (.ref (o_ad X a0)), some (.int (μ0.1 (o_rf X a0 4) 7))]) hX h0 clX11_187 dX11_told_194 rfl rfl (Nat.le_of_ble_eq_true rfl) (Nat.le_of_ble_eq_true rfl) (dnX11_gives hX h0 (o_bdp h)) (fun r9 μ9 h => ?_)
    exact s_ireturn rfl dX11_told_197 ⟨_, rfl, o_ret h⟩
  have h := o_if_f e9 h
  by_cases e10 : x1 = 10
  · have h := o_if_t e10 h
    refine s_table (off := 197) (tgt := 198) dX11_told_1 rfl (by rw [e10]; decide) rfl ?_
    refine s_aload_n (i := 0) dX11_told_198 rfl rfl ?_
    refine s_aload_n (i := 0) dX11_told_199 rfl rfl ?_
    refine s_getR hX h0 flX11_23 rfl dX11_told_200 (fun (g13 : o_is X (o_rf X a0 4) (.inl 8)) => ?_)
    refine s_getI g13 flX11_234 rfl dX11_told_203 ?_
    refine s_callVi (C := mX11_gives) (As := [.int (μ0.1 (o_rf X a0 4) 8)]) (rest := []) (L0 := [some (.ref (o_ad X a0)), some (.int (μ0.1 (o_rf X a0 4) 8))]) hX h0 clX11_187 dX11_told_206 rfl rfl (Nat.le_of_ble_eq_true rfl) (Nat.le_of_ble_eq_true rfl) (dnX11_gives hX h0 (o_bdp h)) (fun r10 μ10 h => ?_)
    exact s_ireturn rfl dX11_told_209 ⟨_, rfl, o_ret h⟩
  have h := o_if_f e10 h
  by_cases e11 : x1 = 11
  · have h := o_if_t e11 h
    refine s_table (off := 209) (tgt := 210) dX11_told_1 rfl (by rw [e11]; decide) rfl ?_
    refine s_aload_n (i := 0) dX11_told_210 rfl rfl ?_
    refine s_aload_n (i := 0) dX11_told_211 rfl rfl ?_
    refine s_getR hX h0 flX11_23 rfl dX11_told_212 (fun (g14 : o_is X (o_rf X a0 4) (.inl 8)) => ?_)
    refine s_callVi (C := mX8_worthOfAll) (As := []) (rest := [.ref (o_ad X a0)]) (L0 := [some (.ref (o_ad X (o_rf X a0 4))), none, none]) hX g14 clX11_237 dX11_told_215 rfl rfl (Nat.le_of_ble_eq_true rfl) (Nat.le_of_ble_eq_true rfl) (dnX8_worthOfAll hX g14 (o_bdp h)) (fun r11 μ11 h => ?_)
    refine s_callVi (C := mX11_gives) (As := [.int r11]) (rest := []) (L0 := [some (.ref (o_ad X a0)), some (.int r11)]) hX h0 clX11_187 dX11_told_218 rfl rfl (Nat.le_of_ble_eq_true rfl) (Nat.le_of_ble_eq_true rfl) (dnX11_gives hX h0 (o_bdp h)) (fun r12 μ12 h => ?_)
    exact s_ireturn rfl dX11_told_221 ⟨_, rfl, o_ret h⟩
  have h := o_if_f e11 h
  have n0 := lv_neT (a := 0) e0 (by decide)
  have n1 := lv_neT (a := 1) e1 (by decide)
  have n2 := lv_neT (a := 2) e2 (by decide)
  have n3 := lv_neT (a := 3) e3 (by decide)
  have n4 := lv_neT (a := 4) e4 (by decide)
  have n5 := lv_neT (a := 5) e5 (by decide)
  have n6 := lv_neT (a := 6) e6 (by decide)
  have n7 := lv_neT (a := 7) e7 (by decide)
  have n8 := lv_neT (a := 8) e8 (by decide)
  have n9 := lv_neT (a := 9) e9 (by decide)
  have n10 := lv_neT (a := 10) e10 (by decide)
  have n11 := lv_neT (a := 11) e11 (by decide)
  have hz : (x1).toInt < 0 ∨ 11 < (x1).toInt := by omega
  refine s_table (off := 221) (tgt := 222) dX11_told_1 rfl (o_tabD hz) rfl ?_
  refine s_aload_n (i := 0) dX11_told_222 rfl rfl ?_
  refine s_iconst dX11_told_223 kI_1 ?_
  refine s_callVi (C := mX11_refuses) (As := [.int 1]) (rest := []) (L0 := [some (.ref (o_ad X a0)), some (.int 1)]) hX h0 clX11_139 dX11_told_224 rfl rfl (Nat.le_of_ble_eq_true rfl) (Nat.le_of_ble_eq_true rfl) (dnX11_refuses hX h0 (o_bdp h)) (fun r13 μ13 h => ?_)
  exact s_ireturn rfl dX11_told_227 ⟨_, rfl, o_ret h⟩
theorem dX11_worth_0 : decode cX11_worth 0 = .ok (.aload_n 0, 1) := by decide +kernel
theorem dX11_worth_1 : decode cX11_worth 1 = .ok (.getfield 23, 3) := by decide +kernel
theorem dX11_worth_4 : decode cX11_worth 4 = .ok (.iload_n 1, 1) := by decide +kernel
theorem dX11_worth_5 : decode cX11_worth 5 = .ok (.i2l, 1) := by decide +kernel
theorem dX11_worth_6 : decode cX11_worth 6 = .ok (.invokevirtual 241, 3) := by decide +kernel
theorem dX11_worth_9 : decode cX11_worth 9 = .ok (.ifCond .eq 19, 3) := by decide +kernel
theorem dX11_worth_12 : decode cX11_worth 12 = .ok (.aload_n 0, 1) := by decide +kernel
theorem dX11_worth_13 : decode cX11_worth 13 = .ok (.aload_n 0, 1) := by decide +kernel
theorem dX11_worth_14 : decode cX11_worth 14 = .ok (.getfield 23, 3) := by decide +kernel
theorem dX11_worth_17 : decode cX11_worth 17 = .ok (.getfield 245, 3) := by decide +kernel
theorem dX11_worth_20 : decode cX11_worth 20 = .ok (.iload_n 1, 1) := by decide +kernel
theorem dX11_worth_21 : decode cX11_worth 21 = .ok (.iaload, 1) := by decide +kernel
theorem dX11_worth_22 : decode cX11_worth 22 = .ok (.invokevirtual 187, 3) := by decide +kernel
theorem dX11_worth_25 : decode cX11_worth 25 = .ok (.goto 8, 3) := by decide +kernel
theorem dX11_worth_28 : decode cX11_worth 28 = .ok (.aload_n 0, 1) := by decide +kernel
theorem dX11_worth_29 : decode cX11_worth 29 = .ok (.iconst 1, 1) := by decide +kernel
theorem dX11_worth_30 : decode cX11_worth 30 = .ok (.invokevirtual 139, 3) := by decide +kernel
theorem dX11_worth_33 : decode cX11_worth 33 = .ok (.ireturn, 1) := by decide +kernel
noncomputable def fX11_worth (rf : Nat → Nat → Nat) (a0 : Nat) (x1 : Int32) (μ0 : o_Mem) : Option (Int32 × o_Mem) :=
  o_bd (fX8_isStrike rf (rf a0 4) x1.toInt64 μ0) fun r1 μ1 =>
  if r1 = 0 then (
    o_bd (fX11_refuses rf a0 1 μ1) fun r2 μ2 =>
    some (r2, μ2))
  else (
    o_ck (0 ≤ (x1).toInt ∧ (x1).toInt < 6) <|
    o_bd (fX11_gives rf a0 (μ1.1 (rf (rf a0 4) 9) x1.toNatClampNeg) μ1) fun r3 μ3 =>
    some (r3, μ3))
set_option maxRecDepth 20000 in
theorem dnX11_worth {X : o_Cx} (hX : o_ok X) {d : Nat} {a0 : Nat} {x1 : Int32} {μ0 : o_Mem} {q : Int32 → o_Mem → Prop} (h0 : o_is X a0 (.inl 11)) (h : o_Post (fX11_worth (o_rf X) a0 x1 μ0) q) : o_Ev X (d + 1) mX11_worth 0 [some (.ref (o_ad X a0)), some (.int x1)] [] μ0 (o_QI q) := by
  unfold fX11_worth at h
  refine s_aload_n (i := 0) dX11_worth_0 rfl rfl ?_
  refine s_getR hX h0 flX11_23 rfl dX11_worth_1 (fun (g1 : o_is X (o_rf X a0 4) (.inl 8)) => ?_)
  refine s_iload_n (i := 1) dX11_worth_4 rfl rfl ?_
  refine s_i2l dX11_worth_5 ?_
  refine s_callVz (C := mX8_isStrike) (As := [.long x1.toInt64]) (rest := []) (L0 := [some (.ref (o_ad X (o_rf X a0 4))), some (.long x1.toInt64), none]) hX g1 clX11_241 dX11_worth_6 rfl rfl (Nat.le_of_ble_eq_true rfl) (Nat.le_of_ble_eq_true rfl) (dnX8_isStrike hX g1 (o_bdp h)) (fun r1 μ1 zr1 h => ?_)
  refine s_if_eq (tgt := 28) dX11_worth_9 rfl (fun c1 => ?_) (fun c1 => ?_)
  · have h := o_if_t c1 h
    refine s_aload_n (i := 0) dX11_worth_28 rfl rfl ?_
    refine s_iconst dX11_worth_29 kI_1 ?_
    refine s_callVi (C := mX11_refuses) (As := [.int 1]) (rest := []) (L0 := [some (.ref (o_ad X a0)), some (.int 1)]) hX h0 clX11_139 dX11_worth_30 rfl rfl (Nat.le_of_ble_eq_true rfl) (Nat.le_of_ble_eq_true rfl) (dnX11_refuses hX h0 (o_bdp h)) (fun r2 μ2 h => ?_)
    exact s_ireturn rfl dX11_worth_33 ⟨_, rfl, o_ret h⟩
  · have h := o_if_f c1 h
    refine s_aload_n (i := 0) dX11_worth_12 rfl rfl ?_
    refine s_aload_n (i := 0) dX11_worth_13 rfl rfl ?_
    refine s_getR hX h0 flX11_23 rfl dX11_worth_14 (fun (g2 : o_is X (o_rf X a0 4) (.inl 8)) => ?_)
    refine s_getR hX g2 flX11_245 rfl dX11_worth_17 (fun (g3 : o_is X (o_rf X (o_rf X a0 4) 9) (.inr (0, 6))) => ?_)
    refine s_iload_n (i := 1) dX11_worth_20 rfl rfl ?_
    have hc := o_ck_c h
    have h := o_ck_k h
    refine s_ialdK g3 hc rfl dX11_worth_21 ?_
    refine s_callVi (C := mX11_gives) (As := [.int (μ1.1 (o_rf X (o_rf X a0 4) 9) x1.toNatClampNeg)]) (rest := []) (L0 := [some (.ref (o_ad X a0)), some (.int (μ1.1 (o_rf X (o_rf X a0 4) 9) x1.toNatClampNeg))]) hX h0 clX11_187 dX11_worth_22 rfl rfl (Nat.le_of_ble_eq_true rfl) (Nat.le_of_ble_eq_true rfl) (dnX11_gives hX h0 (o_bdp h)) (fun r3 μ3 h => ?_)
    refine s_goto (tgt := 33) dX11_worth_25 rfl ?_
    exact s_ireturn rfl dX11_worth_33 ⟨_, rfl, o_ret h⟩
theorem dX11_hand_0 : decode cX11_hand 0 = .ok (.aload_n 0, 1) := by decide +kernel
theorem dX11_hand_1 : decode cX11_hand 1 = .ok (.getfield 23, 3) := by decide +kernel
theorem dX11_hand_4 : decode cX11_hand 4 = .ok (.iload_n 1, 1) := by decide +kernel
theorem dX11_hand_5 : decode cX11_hand 5 = .ok (.invokevirtual 248, 3) := by decide +kernel
theorem dX11_hand_8 : decode cX11_hand 8 = .ok (.ifCond .eq 19, 3) := by decide +kernel
theorem dX11_hand_11 : decode cX11_hand 11 = .ok (.aload_n 0, 1) := by decide +kernel
theorem dX11_hand_12 : decode cX11_hand 12 = .ok (.aload_n 0, 1) := by decide +kernel
theorem dX11_hand_13 : decode cX11_hand 13 = .ok (.getfield 23, 3) := by decide +kernel
theorem dX11_hand_16 : decode cX11_hand 16 = .ok (.getfield 251, 3) := by decide +kernel
theorem dX11_hand_19 : decode cX11_hand 19 = .ok (.iload_n 1, 1) := by decide +kernel
theorem dX11_hand_20 : decode cX11_hand 20 = .ok (.iaload, 1) := by decide +kernel
theorem dX11_hand_21 : decode cX11_hand 21 = .ok (.invokevirtual 187, 3) := by decide +kernel
theorem dX11_hand_24 : decode cX11_hand 24 = .ok (.goto 8, 3) := by decide +kernel
theorem dX11_hand_27 : decode cX11_hand 27 = .ok (.aload_n 0, 1) := by decide +kernel
theorem dX11_hand_28 : decode cX11_hand 28 = .ok (.iconst 1, 1) := by decide +kernel
theorem dX11_hand_29 : decode cX11_hand 29 = .ok (.invokevirtual 139, 3) := by decide +kernel
theorem dX11_hand_32 : decode cX11_hand 32 = .ok (.ireturn, 1) := by decide +kernel
noncomputable def fX11_hand (rf : Nat → Nat → Nat) (a0 : Nat) (x1 : Int32) (μ0 : o_Mem) : Option (Int32 × o_Mem) :=
  o_bd (fX8_isPerson rf (rf a0 4) x1 μ0) fun r1 μ1 =>
  if r1 = 0 then (
    o_bd (fX11_refuses rf a0 1 μ1) fun r2 μ2 =>
    some (r2, μ2))
  else (
    o_ck (0 ≤ (x1).toInt ∧ (x1).toInt < 6) <|
    o_bd (fX11_gives rf a0 (μ1.1 (rf (rf a0 4) 11) x1.toNatClampNeg) μ1) fun r3 μ3 =>
    some (r3, μ3))
set_option maxRecDepth 20000 in
theorem dnX11_hand {X : o_Cx} (hX : o_ok X) {d : Nat} {a0 : Nat} {x1 : Int32} {μ0 : o_Mem} {q : Int32 → o_Mem → Prop} (h0 : o_is X a0 (.inl 11)) (h : o_Post (fX11_hand (o_rf X) a0 x1 μ0) q) : o_Ev X (d + 1) mX11_hand 0 [some (.ref (o_ad X a0)), some (.int x1)] [] μ0 (o_QI q) := by
  unfold fX11_hand at h
  refine s_aload_n (i := 0) dX11_hand_0 rfl rfl ?_
  refine s_getR hX h0 flX11_23 rfl dX11_hand_1 (fun (g1 : o_is X (o_rf X a0 4) (.inl 8)) => ?_)
  refine s_iload_n (i := 1) dX11_hand_4 rfl rfl ?_
  refine s_callVz (C := mX8_isPerson) (As := [.int x1]) (rest := []) (L0 := [some (.ref (o_ad X (o_rf X a0 4))), some (.int x1)]) hX g1 clX11_248 dX11_hand_5 rfl rfl (Nat.le_of_ble_eq_true rfl) (Nat.le_of_ble_eq_true rfl) (dnX8_isPerson hX g1 (o_bdp h)) (fun r1 μ1 zr1 h => ?_)
  refine s_if_eq (tgt := 27) dX11_hand_8 rfl (fun c1 => ?_) (fun c1 => ?_)
  · have h := o_if_t c1 h
    refine s_aload_n (i := 0) dX11_hand_27 rfl rfl ?_
    refine s_iconst dX11_hand_28 kI_1 ?_
    refine s_callVi (C := mX11_refuses) (As := [.int 1]) (rest := []) (L0 := [some (.ref (o_ad X a0)), some (.int 1)]) hX h0 clX11_139 dX11_hand_29 rfl rfl (Nat.le_of_ble_eq_true rfl) (Nat.le_of_ble_eq_true rfl) (dnX11_refuses hX h0 (o_bdp h)) (fun r2 μ2 h => ?_)
    exact s_ireturn rfl dX11_hand_32 ⟨_, rfl, o_ret h⟩
  · have h := o_if_f c1 h
    refine s_aload_n (i := 0) dX11_hand_11 rfl rfl ?_
    refine s_aload_n (i := 0) dX11_hand_12 rfl rfl ?_
    refine s_getR hX h0 flX11_23 rfl dX11_hand_13 (fun (g2 : o_is X (o_rf X a0 4) (.inl 8)) => ?_)
    refine s_getR hX g2 flX11_251 rfl dX11_hand_16 (fun (g3 : o_is X (o_rf X (o_rf X a0 4) 11) (.inr (0, 6))) => ?_)
    refine s_iload_n (i := 1) dX11_hand_19 rfl rfl ?_
    have hc := o_ck_c h
    have h := o_ck_k h
    refine s_ialdK g3 hc rfl dX11_hand_20 ?_
    refine s_callVi (C := mX11_gives) (As := [.int (μ1.1 (o_rf X (o_rf X a0 4) 11) x1.toNatClampNeg)]) (rest := []) (L0 := [some (.ref (o_ad X a0)), some (.int (μ1.1 (o_rf X (o_rf X a0 4) 11) x1.toNatClampNeg))]) hX h0 clX11_187 dX11_hand_21 rfl rfl (Nat.le_of_ble_eq_true rfl) (Nat.le_of_ble_eq_true rfl) (dnX11_gives hX h0 (o_bdp h)) (fun r3 μ3 h => ?_)
    refine s_goto (tgt := 32) dX11_hand_24 rfl ?_
    exact s_ireturn rfl dX11_hand_32 ⟨_, rfl, o_ret h⟩
theorem dX11_givesIfAny_0 : decode cX11_givesIfAny 0 = .ok (.iload_n 1, 1) := by decide +kernel
theorem dX11_givesIfAny_1 : decode cX11_givesIfAny 1 = .ok (.iconst (-1), 1) := by decide +kernel
theorem dX11_givesIfAny_2 : decode cX11_givesIfAny 2 = .ok (.if_icmp .ne 12, 3) := by decide +kernel
theorem dX11_givesIfAny_5 : decode cX11_givesIfAny 5 = .ok (.aload_n 0, 1) := by decide +kernel
theorem dX11_givesIfAny_6 : decode cX11_givesIfAny 6 = .ok (.bipush 6, 2) := by decide +kernel
theorem dX11_givesIfAny_8 : decode cX11_givesIfAny 8 = .ok (.invokevirtual 139, 3) := by decide +kernel
theorem dX11_givesIfAny_11 : decode cX11_givesIfAny 11 = .ok (.goto 8, 3) := by decide +kernel
theorem dX11_givesIfAny_14 : decode cX11_givesIfAny 14 = .ok (.aload_n 0, 1) := by decide +kernel
theorem dX11_givesIfAny_15 : decode cX11_givesIfAny 15 = .ok (.iload_n 1, 1) := by decide +kernel
theorem dX11_givesIfAny_16 : decode cX11_givesIfAny 16 = .ok (.invokevirtual 187, 3) := by decide +kernel
theorem dX11_givesIfAny_19 : decode cX11_givesIfAny 19 = .ok (.ireturn, 1) := by decide +kernel
noncomputable def fX11_givesIfAny (rf : Nat → Nat → Nat) (a0 : Nat) (x1 : Int32) (μ0 : o_Mem) : Option (Int32 × o_Mem) :=
  if x1 = (-1) then (
    o_bd (fX11_refuses rf a0 6 μ0) fun r2 μ2 =>
    some (r2, μ2))
  else (
    o_bd (fX11_gives rf a0 x1 μ0) fun r1 μ1 =>
    some (r1, μ1))
set_option maxRecDepth 20000 in
theorem dnX11_givesIfAny {X : o_Cx} (hX : o_ok X) {d : Nat} {a0 : Nat} {x1 : Int32} {μ0 : o_Mem} {q : Int32 → o_Mem → Prop} (h0 : o_is X a0 (.inl 11)) (h : o_Post (fX11_givesIfAny (o_rf X) a0 x1 μ0) q) : o_Ev X (d + 1) mX11_givesIfAny 0 [some (.ref (o_ad X a0)), some (.int x1)] [] μ0 (o_QI q) := by
  unfold fX11_givesIfAny at h
  refine s_iload_n (i := 1) dX11_givesIfAny_0 rfl rfl ?_
  refine s_iconst dX11_givesIfAny_1 kI_m1 ?_
  refine s_icmp_ne (tgt := 14) dX11_givesIfAny_2 rfl (fun c1 => ?_) (fun c1 => ?_)
  · have h := o_if_f c1 h
    refine s_aload_n (i := 0) dX11_givesIfAny_14 rfl rfl ?_
    refine s_iload_n (i := 1) dX11_givesIfAny_15 rfl rfl ?_
    refine s_callVi (C := mX11_gives) (As := [.int x1]) (rest := []) (L0 := [some (.ref (o_ad X a0)), some (.int x1)]) hX h0 clX11_187 dX11_givesIfAny_16 rfl rfl (Nat.le_of_ble_eq_true rfl) (Nat.le_of_ble_eq_true rfl) (dnX11_gives hX h0 (o_bdp h)) (fun r1 μ1 h => ?_)
    exact s_ireturn rfl dX11_givesIfAny_19 ⟨_, rfl, o_ret h⟩
  · have h := o_if_t c1 h
    refine s_aload_n (i := 0) dX11_givesIfAny_5 rfl rfl ?_
    refine s_bipush dX11_givesIfAny_6 kB_6 ?_
    refine s_callVi (C := mX11_refuses) (As := [.int 6]) (rest := []) (L0 := [some (.ref (o_ad X a0)), some (.int 6)]) hX h0 clX11_139 dX11_givesIfAny_8 rfl rfl (Nat.le_of_ble_eq_true rfl) (Nat.le_of_ble_eq_true rfl) (dnX11_refuses hX h0 (o_bdp h)) (fun r2 μ2 h => ?_)
    refine s_goto (tgt := 19) dX11_givesIfAny_11 rfl ?_
    exact s_ireturn rfl dX11_givesIfAny_19 ⟨_, rfl, o_ret h⟩
theorem dX11_law_0 : decode cX11_law 0 = .ok (.iload_n 1, 1) := by decide +kernel
theorem dX11_law_1 : decode cX11_law 1 = .ok (.i2l, 1) := by decide +kernel
theorem dX11_law_2 : decode cX11_law 2 = .ok (.lconst 0, 1) := by decide +kernel
theorem dX11_law_3 : decode cX11_law 3 = .ok (.aload_n 0, 1) := by decide +kernel
theorem dX11_law_4 : decode cX11_law 4 = .ok (.getfield 23, 3) := by decide +kernel
theorem dX11_law_7 : decode cX11_law 7 = .ok (.getfield 184, 3) := by decide +kernel
theorem dX11_law_10 : decode cX11_law 10 = .ok (.iconst 1, 1) := by decide +kernel
theorem dX11_law_11 : decode cX11_law 11 = .ok (.isub, 1) := by decide +kernel
theorem dX11_law_12 : decode cX11_law 12 = .ok (.i2l, 1) := by decide +kernel
theorem dX11_law_13 : decode cX11_law 13 = .ok (.invokestatic 118, 3) := by decide +kernel
theorem dX11_law_16 : decode cX11_law 16 = .ok (.ifCond .eq 15, 3) := by decide +kernel
theorem dX11_law_19 : decode cX11_law 19 = .ok (.iload_n 2, 1) := by decide +kernel
theorem dX11_law_20 : decode cX11_law 20 = .ok (.i2l, 1) := by decide +kernel
theorem dX11_law_21 : decode cX11_law 21 = .ok (.lconst 0, 1) := by decide +kernel
theorem dX11_law_22 : decode cX11_law 22 = .ok (.ldc2_w 254, 3) := by decide +kernel
theorem dX11_law_25 : decode cX11_law 25 = .ok (.invokestatic 118, 3) := by decide +kernel
theorem dX11_law_28 : decode cX11_law 28 = .ok (.ifCond .ne 9, 3) := by decide +kernel
theorem dX11_law_31 : decode cX11_law 31 = .ok (.aload_n 0, 1) := by decide +kernel
theorem dX11_law_32 : decode cX11_law 32 = .ok (.iconst 1, 1) := by decide +kernel
theorem dX11_law_33 : decode cX11_law 33 = .ok (.invokevirtual 139, 3) := by decide +kernel
theorem dX11_law_36 : decode cX11_law 36 = .ok (.ireturn, 1) := by decide +kernel
theorem dX11_law_37 : decode cX11_law 37 = .ok (.aload_n 0, 1) := by decide +kernel
theorem dX11_law_38 : decode cX11_law 38 = .ok (.aload_n 0, 1) := by decide +kernel
theorem dX11_law_39 : decode cX11_law 39 = .ok (.getfield 23, 3) := by decide +kernel
theorem dX11_law_42 : decode cX11_law 42 = .ok (.getfield 256, 3) := by decide +kernel
theorem dX11_law_45 : decode cX11_law 45 = .ok (.iload_n 1, 1) := by decide +kernel
theorem dX11_law_46 : decode cX11_law 46 = .ok (.bipush 6, 2) := by decide +kernel
theorem dX11_law_48 : decode cX11_law 48 = .ok (.imul, 1) := by decide +kernel
theorem dX11_law_49 : decode cX11_law 49 = .ok (.iload_n 2, 1) := by decide +kernel
theorem dX11_law_50 : decode cX11_law 50 = .ok (.iadd, 1) := by decide +kernel
theorem dX11_law_51 : decode cX11_law 51 = .ok (.iaload, 1) := by decide +kernel
theorem dX11_law_52 : decode cX11_law 52 = .ok (.invokevirtual 259, 3) := by decide +kernel
theorem dX11_law_55 : decode cX11_law 55 = .ok (.ireturn, 1) := by decide +kernel
noncomputable def fX11_law_j31 (rf : Nat → Nat → Nat) (a0 : Nat) (μ0 : o_Mem) : Option (Int32 × o_Mem) :=
  o_bd (fX11_refuses rf a0 1 μ0) fun r1 μ1 =>
  some (r1, μ1)
noncomputable def fX11_law (rf : Nat → Nat → Nat) (a0 : Nat) (x1 : Int32) (x2 : Int32) (μ0 : o_Mem) : Option (Int32 × o_Mem) :=
  o_bd (fX11_within rf x1.toInt64 (0 : Int64) (((μ0.1 (rf a0 4) 3) - 1).toInt64) μ0) fun r1 μ1 =>
  if r1 = 0 then (
    fX11_law_j31 rf a0 μ1)
  else (
    o_bd (fX11_within rf x2.toInt64 (0 : Int64) (5 : Int64) μ1) fun r2 μ2 =>
    if r2 = 0 then (
      fX11_law_j31 rf a0 μ2)
    else (
      o_ck (0 ≤ (((x1 * 6) + x2)).toInt ∧ (((x1 * 6) + x2)).toInt < 48) <|
      o_bd (fX11_givesIfAny rf a0 (μ2.1 (rf (rf a0 4) 12) (((x1 * 6) + x2)).toNatClampNeg) μ2) fun r3 μ3 =>
      some (r3, μ3)))
set_option maxRecDepth 20000 in
theorem dnX11_law_j31 {X : o_Cx} (hX : o_ok X) {d : Nat} {a0 : Nat} {μ0 : o_Mem} {q : Int32 → o_Mem → Prop} (h0 : o_is X a0 (.inl 11)) (h : o_Post (fX11_law_j31 (o_rf X) a0 μ0) q) : o_Ev X (d + 2) mX11_law 31 [some (.ref (o_ad X a0)), none, none] [] μ0 (o_QI q) := by
  unfold fX11_law_j31 at h
  refine s_aload_n (i := 0) dX11_law_31 rfl rfl ?_
  refine s_iconst dX11_law_32 kI_1 ?_
  refine s_callVi (C := mX11_refuses) (As := [.int 1]) (rest := []) (L0 := [some (.ref (o_ad X a0)), some (.int 1)]) hX h0 clX11_139 dX11_law_33 rfl rfl (Nat.le_of_ble_eq_true rfl) (Nat.le_of_ble_eq_true rfl) (dnX11_refuses hX h0 (o_bdp h)) (fun r1 μ1 h => ?_)
  exact s_ireturn rfl dX11_law_36 ⟨_, rfl, o_ret h⟩
set_option maxRecDepth 20000 in
theorem dnX11_law {X : o_Cx} (hX : o_ok X) {d : Nat} {a0 : Nat} {x1 : Int32} {x2 : Int32} {μ0 : o_Mem} {q : Int32 → o_Mem → Prop} (h0 : o_is X a0 (.inl 11)) (h : o_Post (fX11_law (o_rf X) a0 x1 x2 μ0) q) : o_Ev X (d + 2) mX11_law 0 [some (.ref (o_ad X a0)), some (.int x1), some (.int x2)] [] μ0 (o_QI q) := by
  unfold fX11_law at h
  refine s_iload_n (i := 1) dX11_law_0 rfl rfl ?_
  refine s_i2l dX11_law_1 ?_
  refine s_lconst (v := 0) dX11_law_2 rfl ?_
  refine s_aload_n (i := 0) dX11_law_3 rfl rfl ?_
  refine s_getR hX h0 flX11_23 rfl dX11_law_4 (fun (g1 : o_is X (o_rf X a0 4) (.inl 8)) => ?_)
  refine s_getI g1 flX11_184 rfl dX11_law_7 ?_
  refine s_iconst dX11_law_10 kI_1 ?_
  refine s_isub dX11_law_11 ?_
  refine s_i2l dX11_law_12 ?_
  refine s_callSz (C := mX11_within) (As := [.long x1.toInt64, .long (0 : Int64), .long (((μ0.1 (o_rf X a0 4) 3) - 1).toInt64)]) (rest := []) (L0 := [some (.long x1.toInt64), none, some (.long (0 : Int64)), none, some (.long (((μ0.1 (o_rf X a0 4) 3) - 1).toInt64)), none]) clX11_118 dX11_law_13 rfl rfl (Nat.le_of_ble_eq_true rfl) (Nat.le_of_ble_eq_true rfl) (dnX11_within hX  (o_bdp h)) (fun r1 μ1 zr1 h => ?_)
  refine s_if_eq (tgt := 31) dX11_law_16 rfl (fun c1 => ?_) (fun c1 => ?_)
  · have h := o_if_t c1 h
    refine s_mask [true, false, false] (L' := [some (.ref (o_ad X a0)), none, none]) rfl ?_
    exact dnX11_law_j31 hX h0 h
  · have h := o_if_f c1 h
    refine s_iload_n (i := 2) dX11_law_19 rfl rfl ?_
    refine s_i2l dX11_law_20 ?_
    refine s_lconst (v := 0) dX11_law_21 rfl ?_
    refine s_ldc2 (v := 5) w_4_134 dX11_law_22 ?_
    refine s_callSz (C := mX11_within) (As := [.long x2.toInt64, .long (0 : Int64), .long (5 : Int64)]) (rest := []) (L0 := [some (.long x2.toInt64), none, some (.long (0 : Int64)), none, some (.long (5 : Int64)), none]) clX11_118 dX11_law_25 rfl rfl (Nat.le_of_ble_eq_true rfl) (Nat.le_of_ble_eq_true rfl) (dnX11_within hX  (o_bdp h)) (fun r2 μ2 zr2 h => ?_)
    refine s_if_ne (tgt := 37) dX11_law_28 rfl (fun c1 => ?_) (fun c1 => ?_)
    · have h := o_if_f c1 h
      refine s_aload_n (i := 0) dX11_law_37 rfl rfl ?_
      refine s_aload_n (i := 0) dX11_law_38 rfl rfl ?_
      refine s_getR hX h0 flX11_23 rfl dX11_law_39 (fun (g2 : o_is X (o_rf X a0 4) (.inl 8)) => ?_)
      refine s_getR hX g2 flX11_256 rfl dX11_law_42 (fun (g3 : o_is X (o_rf X (o_rf X a0 4) 12) (.inr (0, 48))) => ?_)
      refine s_iload_n (i := 1) dX11_law_45 rfl rfl ?_
      refine s_bipush dX11_law_46 kB_6 ?_
      refine s_imul dX11_law_48 ?_
      refine s_iload_n (i := 2) dX11_law_49 rfl rfl ?_
      refine s_iadd dX11_law_50 ?_
      have hc := o_ck_c h
      have h := o_ck_k h
      refine s_ialdK g3 hc rfl dX11_law_51 ?_
      refine s_callVi (C := mX11_givesIfAny) (As := [.int (μ2.1 (o_rf X (o_rf X a0 4) 12) (((x1 * 6) + x2)).toNatClampNeg)]) (rest := []) (L0 := [some (.ref (o_ad X a0)), some (.int (μ2.1 (o_rf X (o_rf X a0 4) 12) (((x1 * 6) + x2)).toNatClampNeg))]) hX h0 clX11_259 dX11_law_52 rfl rfl (Nat.le_of_ble_eq_true rfl) (Nat.le_of_ble_eq_true rfl) (dnX11_givesIfAny hX h0 (o_bdp h)) (fun r3 μ3 h => ?_)
      exact s_ireturn rfl dX11_law_55 ⟨_, rfl, o_ret h⟩
    · have h := o_if_t c1 h
      refine s_mask [true, false, false] (L' := [some (.ref (o_ad X a0)), none, none]) rfl ?_
      exact dnX11_law_j31 hX h0 h
theorem dX11_acts_0 : decode cX11_acts 0 = .ok (.aload_n 0, 1) := by decide +kernel
theorem dX11_acts_1 : decode cX11_acts 1 = .ok (.getfield 23, 3) := by decide +kernel
theorem dX11_acts_4 : decode cX11_acts 4 = .ok (.iload_n 1, 1) := by decide +kernel
theorem dX11_acts_5 : decode cX11_acts 5 = .ok (.iload_n 2, 1) := by decide +kernel
theorem dX11_acts_6 : decode cX11_acts 6 = .ok (.invokevirtual 262, 3) := by decide +kernel
theorem dX11_acts_9 : decode cX11_acts 9 = .ok (.ifCond .eq 13, 3) := by decide +kernel
theorem dX11_acts_12 : decode cX11_acts 12 = .ok (.iload_n 3, 1) := by decide +kernel
theorem dX11_acts_13 : decode cX11_acts 13 = .ok (.i2l, 1) := by decide +kernel
theorem dX11_acts_14 : decode cX11_acts 14 = .ok (.lconst 0, 1) := by decide +kernel
theorem dX11_acts_15 : decode cX11_acts 15 = .ok (.lconst 1, 1) := by decide +kernel
theorem dX11_acts_16 : decode cX11_acts 16 = .ok (.invokestatic 118, 3) := by decide +kernel
theorem dX11_acts_19 : decode cX11_acts 19 = .ok (.ifCond .ne 9, 3) := by decide +kernel
theorem dX11_acts_22 : decode cX11_acts 22 = .ok (.aload_n 0, 1) := by decide +kernel
theorem dX11_acts_23 : decode cX11_acts 23 = .ok (.iconst 1, 1) := by decide +kernel
theorem dX11_acts_24 : decode cX11_acts 24 = .ok (.invokevirtual 139, 3) := by decide +kernel
theorem dX11_acts_27 : decode cX11_acts 27 = .ok (.ireturn, 1) := by decide +kernel
theorem dX11_acts_28 : decode cX11_acts 28 = .ok (.iload_n 1, 1) := by decide +kernel
theorem dX11_acts_29 : decode cX11_acts 29 = .ok (.bipush 6, 2) := by decide +kernel
theorem dX11_acts_31 : decode cX11_acts 31 = .ok (.imul, 1) := by decide +kernel
theorem dX11_acts_32 : decode cX11_acts 32 = .ok (.iload_n 2, 1) := by decide +kernel
theorem dX11_acts_33 : decode cX11_acts 33 = .ok (.iadd, 1) := by decide +kernel
theorem dX11_acts_34 : decode cX11_acts 34 = .ok (.istore 4, 2) := by decide +kernel
theorem dX11_acts_36 : decode cX11_acts 36 = .ok (.aload_n 0, 1) := by decide +kernel
theorem dX11_acts_37 : decode cX11_acts 37 = .ok (.iload_n 3, 1) := by decide +kernel
theorem dX11_acts_38 : decode cX11_acts 38 = .ok (.ifCond .ne 16, 3) := by decide +kernel
theorem dX11_acts_41 : decode cX11_acts 41 = .ok (.aload_n 0, 1) := by decide +kernel
theorem dX11_acts_42 : decode cX11_acts 42 = .ok (.getfield 23, 3) := by decide +kernel
theorem dX11_acts_45 : decode cX11_acts 45 = .ok (.getfield 266, 3) := by decide +kernel
theorem dX11_acts_48 : decode cX11_acts 48 = .ok (.iload 4, 2) := by decide +kernel
theorem dX11_acts_50 : decode cX11_acts 50 = .ok (.iaload, 1) := by decide +kernel
theorem dX11_acts_51 : decode cX11_acts 51 = .ok (.goto 13, 3) := by decide +kernel
theorem dX11_acts_54 : decode cX11_acts 54 = .ok (.aload_n 0, 1) := by decide +kernel
theorem dX11_acts_55 : decode cX11_acts 55 = .ok (.getfield 23, 3) := by decide +kernel
theorem dX11_acts_58 : decode cX11_acts 58 = .ok (.getfield 269, 3) := by decide +kernel
theorem dX11_acts_61 : decode cX11_acts 61 = .ok (.iload 4, 2) := by decide +kernel
theorem dX11_acts_63 : decode cX11_acts 63 = .ok (.iaload, 1) := by decide +kernel
theorem dX11_acts_64 : decode cX11_acts 64 = .ok (.invokevirtual 259, 3) := by decide +kernel
theorem dX11_acts_67 : decode cX11_acts 67 = .ok (.ireturn, 1) := by decide +kernel
noncomputable def fX11_acts_j22 (rf : Nat → Nat → Nat) (a0 : Nat) (μ0 : o_Mem) : Option (Int32 × o_Mem) :=
  o_bd (fX11_refuses rf a0 1 μ0) fun r1 μ1 =>
  some (r1, μ1)
noncomputable def fX11_acts_j64 (rf : Nat → Nat → Nat) (b0 : Nat) (y1 : Int32) (μ0 : o_Mem) : Option (Int32 × o_Mem) :=
  o_bd (fX11_givesIfAny rf b0 y1 μ0) fun r1 μ1 =>
  some (r1, μ1)
noncomputable def fX11_acts (rf : Nat → Nat → Nat) (a0 : Nat) (x1 : Int32) (x2 : Int32) (x3 : Int32) (μ0 : o_Mem) : Option (Int32 × o_Mem) :=
  o_bd (fX8_isCouple rf (rf a0 4) x1 x2 μ0) fun r1 μ1 =>
  if r1 = 0 then (
    fX11_acts_j22 rf a0 μ1)
  else (
    o_bd (fX11_within rf x3.toInt64 (0 : Int64) (1 : Int64) μ1) fun r2 μ2 =>
    if r2 = 0 then (
      fX11_acts_j22 rf a0 μ2)
    else (
      if x3 = 0 then (
        o_ck (0 ≤ (((x1 * 6) + x2)).toInt ∧ (((x1 * 6) + x2)).toInt < 36) <|
        fX11_acts_j64 rf a0 (μ2.1 (rf (rf a0 4) 13) (((x1 * 6) + x2)).toNatClampNeg) μ2)
      else (
        o_ck (0 ≤ (((x1 * 6) + x2)).toInt ∧ (((x1 * 6) + x2)).toInt < 36) <|
        fX11_acts_j64 rf a0 (μ2.1 (rf (rf a0 4) 14) (((x1 * 6) + x2)).toNatClampNeg) μ2)))
set_option maxRecDepth 20000 in
theorem dnX11_acts_j22 {X : o_Cx} (hX : o_ok X) {d : Nat} {a0 : Nat} {μ0 : o_Mem} {q : Int32 → o_Mem → Prop} (h0 : o_is X a0 (.inl 11)) (h : o_Post (fX11_acts_j22 (o_rf X) a0 μ0) q) : o_Ev X (d + 2) mX11_acts 22 [some (.ref (o_ad X a0)), none, none, none, none] [] μ0 (o_QI q) := by
  unfold fX11_acts_j22 at h
  refine s_aload_n (i := 0) dX11_acts_22 rfl rfl ?_
  refine s_iconst dX11_acts_23 kI_1 ?_
  refine s_callVi (C := mX11_refuses) (As := [.int 1]) (rest := []) (L0 := [some (.ref (o_ad X a0)), some (.int 1)]) hX h0 clX11_139 dX11_acts_24 rfl rfl (Nat.le_of_ble_eq_true rfl) (Nat.le_of_ble_eq_true rfl) (dnX11_refuses hX h0 (o_bdp h)) (fun r1 μ1 h => ?_)
  exact s_ireturn rfl dX11_acts_27 ⟨_, rfl, o_ret h⟩
set_option maxRecDepth 20000 in
theorem dnX11_acts_j64 {X : o_Cx} (hX : o_ok X) {d : Nat} {b0 : Nat} {y1 : Int32} {μ0 : o_Mem} {q : Int32 → o_Mem → Prop} (hb0 : o_is X b0 (.inl 11)) (h : o_Post (fX11_acts_j64 (o_rf X) b0 y1 μ0) q) : o_Ev X (d + 2) mX11_acts 64 [none, none, none, none, none] [.int y1, .ref (o_ad X b0)] μ0 (o_QI q) := by
  unfold fX11_acts_j64 at h
  refine s_callVi (C := mX11_givesIfAny) (As := [.int y1]) (rest := []) (L0 := [some (.ref (o_ad X b0)), some (.int y1)]) hX hb0 clX11_259 dX11_acts_64 rfl rfl (Nat.le_of_ble_eq_true rfl) (Nat.le_of_ble_eq_true rfl) (dnX11_givesIfAny hX hb0 (o_bdp h)) (fun r1 μ1 h => ?_)
  exact s_ireturn rfl dX11_acts_67 ⟨_, rfl, o_ret h⟩
set_option maxRecDepth 20000 in
theorem dnX11_acts {X : o_Cx} (hX : o_ok X) {d : Nat} {a0 : Nat} {x1 : Int32} {x2 : Int32} {x3 : Int32} {μ0 : o_Mem} {q : Int32 → o_Mem → Prop} (h0 : o_is X a0 (.inl 11)) (h : o_Post (fX11_acts (o_rf X) a0 x1 x2 x3 μ0) q) : o_Ev X (d + 2) mX11_acts 0 [some (.ref (o_ad X a0)), some (.int x1), some (.int x2), some (.int x3), none] [] μ0 (o_QI q) := by
  unfold fX11_acts at h
  refine s_aload_n (i := 0) dX11_acts_0 rfl rfl ?_
  refine s_getR hX h0 flX11_23 rfl dX11_acts_1 (fun (g1 : o_is X (o_rf X a0 4) (.inl 8)) => ?_)
  refine s_iload_n (i := 1) dX11_acts_4 rfl rfl ?_
  refine s_iload_n (i := 2) dX11_acts_5 rfl rfl ?_
  refine s_callVz (C := mX8_isCouple) (As := [.int x1, .int x2]) (rest := []) (L0 := [some (.ref (o_ad X (o_rf X a0 4))), some (.int x1), some (.int x2)]) hX g1 clX11_262 dX11_acts_6 rfl rfl (Nat.le_of_ble_eq_true rfl) (Nat.le_of_ble_eq_true rfl) (dnX8_isCouple hX g1 (o_bdp h)) (fun r1 μ1 zr1 h => ?_)
  refine s_if_eq (tgt := 22) dX11_acts_9 rfl (fun c1 => ?_) (fun c1 => ?_)
  · have h := o_if_t c1 h
    refine s_mask [true, false, false, false, false] (L' := [some (.ref (o_ad X a0)), none, none, none, none]) rfl ?_
    exact dnX11_acts_j22 hX h0 h
  · have h := o_if_f c1 h
    refine s_iload_n (i := 3) dX11_acts_12 rfl rfl ?_
    refine s_i2l dX11_acts_13 ?_
    refine s_lconst (v := 0) dX11_acts_14 rfl ?_
    refine s_lconst (v := 1) dX11_acts_15 rfl ?_
    refine s_callSz (C := mX11_within) (As := [.long x3.toInt64, .long (0 : Int64), .long (1 : Int64)]) (rest := []) (L0 := [some (.long x3.toInt64), none, some (.long (0 : Int64)), none, some (.long (1 : Int64)), none]) clX11_118 dX11_acts_16 rfl rfl (Nat.le_of_ble_eq_true rfl) (Nat.le_of_ble_eq_true rfl) (dnX11_within hX  (o_bdp h)) (fun r2 μ2 zr2 h => ?_)
    refine s_if_ne (tgt := 28) dX11_acts_19 rfl (fun c1 => ?_) (fun c1 => ?_)
    · have h := o_if_f c1 h
      refine s_iload_n (i := 1) dX11_acts_28 rfl rfl ?_
      refine s_bipush dX11_acts_29 kB_6 ?_
      refine s_imul dX11_acts_31 ?_
      refine s_iload_n (i := 2) dX11_acts_32 rfl rfl ?_
      refine s_iadd dX11_acts_33 ?_
      refine s_istore dX11_acts_34 (Nat.le_of_ble_eq_true rfl) rfl ?_
      refine s_aload_n (i := 0) dX11_acts_36 rfl rfl ?_
      refine s_iload_n (i := 3) dX11_acts_37 rfl rfl ?_
      refine s_if_ne (tgt := 54) dX11_acts_38 rfl (fun c1 => ?_) (fun c1 => ?_)
      · have h := o_if_f c1 h
        refine s_aload_n (i := 0) dX11_acts_54 rfl rfl ?_
        refine s_getR hX h0 flX11_23 rfl dX11_acts_55 (fun (g2 : o_is X (o_rf X a0 4) (.inl 8)) => ?_)
        refine s_getR hX g2 flX11_269 rfl dX11_acts_58 (fun (g3 : o_is X (o_rf X (o_rf X a0 4) 14) (.inr (0, 36))) => ?_)
        refine s_iload dX11_acts_61 rfl ?_
        have hc := o_ck_c h
        have h := o_ck_k h
        refine s_ialdK g3 hc rfl dX11_acts_63 ?_
        refine s_mask [false, false, false, false, false] (L' := [none, none, none, none, none]) rfl ?_
        exact dnX11_acts_j64 hX h0 h
      · have h := o_if_t c1 h
        refine s_aload_n (i := 0) dX11_acts_41 rfl rfl ?_
        refine s_getR hX h0 flX11_23 rfl dX11_acts_42 (fun (g4 : o_is X (o_rf X a0 4) (.inl 8)) => ?_)
        refine s_getR hX g4 flX11_266 rfl dX11_acts_45 (fun (g5 : o_is X (o_rf X (o_rf X a0 4) 13) (.inr (0, 36))) => ?_)
        refine s_iload dX11_acts_48 rfl ?_
        have hc := o_ck_c h
        have h := o_ck_k h
        refine s_ialdK g5 hc rfl dX11_acts_50 ?_
        refine s_goto (tgt := 64) dX11_acts_51 rfl ?_
        refine s_mask [false, false, false, false, false] (L' := [none, none, none, none, none]) rfl ?_
        exact dnX11_acts_j64 hX h0 h
    · have h := o_if_t c1 h
      refine s_mask [true, false, false, false, false] (L' := [some (.ref (o_ad X a0)), none, none, none, none]) rfl ?_
      exact dnX11_acts_j22 hX h0 h
theorem dX11_letter_0 : decode cX11_letter 0 = .ok (.iload_n 1, 1) := by decide +kernel
theorem dX11_letter_1 : decode cX11_letter 1 = .ok (.i2l, 1) := by decide +kernel
theorem dX11_letter_2 : decode cX11_letter 2 = .ok (.lconst 0, 1) := by decide +kernel
theorem dX11_letter_3 : decode cX11_letter 3 = .ok (.aload_n 0, 1) := by decide +kernel
theorem dX11_letter_4 : decode cX11_letter 4 = .ok (.getfield 23, 3) := by decide +kernel
theorem dX11_letter_7 : decode cX11_letter 7 = .ok (.getfield 212, 3) := by decide +kernel
theorem dX11_letter_10 : decode cX11_letter 10 = .ok (.getfield 216, 3) := by decide +kernel
theorem dX11_letter_13 : decode cX11_letter 13 = .ok (.iconst 1, 1) := by decide +kernel
theorem dX11_letter_14 : decode cX11_letter 14 = .ok (.isub, 1) := by decide +kernel
theorem dX11_letter_15 : decode cX11_letter 15 = .ok (.i2l, 1) := by decide +kernel
theorem dX11_letter_16 : decode cX11_letter 16 = .ok (.invokestatic 118, 3) := by decide +kernel
theorem dX11_letter_19 : decode cX11_letter 19 = .ok (.ifCond .eq 15, 3) := by decide +kernel
theorem dX11_letter_22 : decode cX11_letter 22 = .ok (.iload_n 2, 1) := by decide +kernel
theorem dX11_letter_23 : decode cX11_letter 23 = .ok (.i2l, 1) := by decide +kernel
theorem dX11_letter_24 : decode cX11_letter 24 = .ok (.lconst 0, 1) := by decide +kernel
theorem dX11_letter_25 : decode cX11_letter 25 = .ok (.ldc2_w 116, 3) := by decide +kernel
theorem dX11_letter_28 : decode cX11_letter 28 = .ok (.invokestatic 118, 3) := by decide +kernel
theorem dX11_letter_31 : decode cX11_letter 31 = .ok (.ifCond .ne 9, 3) := by decide +kernel
theorem dX11_letter_34 : decode cX11_letter 34 = .ok (.aload_n 0, 1) := by decide +kernel
theorem dX11_letter_35 : decode cX11_letter 35 = .ok (.iconst 1, 1) := by decide +kernel
theorem dX11_letter_36 : decode cX11_letter 36 = .ok (.invokevirtual 139, 3) := by decide +kernel
theorem dX11_letter_39 : decode cX11_letter 39 = .ok (.ireturn, 1) := by decide +kernel
theorem dX11_letter_40 : decode cX11_letter 40 = .ok (.aload_n 0, 1) := by decide +kernel
theorem dX11_letter_41 : decode cX11_letter 41 = .ok (.aload_n 0, 1) := by decide +kernel
theorem dX11_letter_42 : decode cX11_letter 42 = .ok (.getfield 23, 3) := by decide +kernel
theorem dX11_letter_45 : decode cX11_letter 45 = .ok (.getfield 212, 3) := by decide +kernel
theorem dX11_letter_48 : decode cX11_letter 48 = .ok (.iload_n 1, 1) := by decide +kernel
theorem dX11_letter_49 : decode cX11_letter 49 = .ok (.iload_n 2, 1) := by decide +kernel
theorem dX11_letter_50 : decode cX11_letter 50 = .ok (.invokevirtual 272, 3) := by decide +kernel
theorem dX11_letter_53 : decode cX11_letter 53 = .ok (.invokevirtual 187, 3) := by decide +kernel
theorem dX11_letter_56 : decode cX11_letter 56 = .ok (.ireturn, 1) := by decide +kernel
noncomputable def fX11_letter_j34 (rf : Nat → Nat → Nat) (a0 : Nat) (μ0 : o_Mem) : Option (Int32 × o_Mem) :=
  o_bd (fX11_refuses rf a0 1 μ0) fun r1 μ1 =>
  some (r1, μ1)
noncomputable def fX11_letter (rf : Nat → Nat → Nat) (a0 : Nat) (x1 : Int32) (x2 : Int32) (μ0 : o_Mem) : Option (Int32 × o_Mem) :=
  o_bd (fX11_within rf x1.toInt64 (0 : Int64) (((μ0.1 (rf (rf a0 4) 15) 0) - 1).toInt64) μ0) fun r1 μ1 =>
  if r1 = 0 then (
    fX11_letter_j34 rf a0 μ1)
  else (
    o_bd (fX11_within rf x2.toInt64 (0 : Int64) (3 : Int64) μ1) fun r2 μ2 =>
    if r2 = 0 then (
      fX11_letter_j34 rf a0 μ2)
    else (
      o_bd (fX1_tell rf (rf (rf a0 4) 15) x1 x2 μ2) fun r3 μ3 =>
      o_bd (fX11_gives rf a0 r3 μ3) fun r4 μ4 =>
      some (r4, μ4)))
set_option maxRecDepth 20000 in
theorem dnX11_letter_j34 {X : o_Cx} (hX : o_ok X) {d : Nat} {a0 : Nat} {μ0 : o_Mem} {q : Int32 → o_Mem → Prop} (h0 : o_is X a0 (.inl 11)) (h : o_Post (fX11_letter_j34 (o_rf X) a0 μ0) q) : o_Ev X (d + 1) mX11_letter 34 [some (.ref (o_ad X a0)), none, none] [] μ0 (o_QI q) := by
  unfold fX11_letter_j34 at h
  refine s_aload_n (i := 0) dX11_letter_34 rfl rfl ?_
  refine s_iconst dX11_letter_35 kI_1 ?_
  refine s_callVi (C := mX11_refuses) (As := [.int 1]) (rest := []) (L0 := [some (.ref (o_ad X a0)), some (.int 1)]) hX h0 clX11_139 dX11_letter_36 rfl rfl (Nat.le_of_ble_eq_true rfl) (Nat.le_of_ble_eq_true rfl) (dnX11_refuses hX h0 (o_bdp h)) (fun r1 μ1 h => ?_)
  exact s_ireturn rfl dX11_letter_39 ⟨_, rfl, o_ret h⟩
set_option maxRecDepth 20000 in
theorem dnX11_letter {X : o_Cx} (hX : o_ok X) {d : Nat} {a0 : Nat} {x1 : Int32} {x2 : Int32} {μ0 : o_Mem} {q : Int32 → o_Mem → Prop} (h0 : o_is X a0 (.inl 11)) (h : o_Post (fX11_letter (o_rf X) a0 x1 x2 μ0) q) : o_Ev X (d + 1) mX11_letter 0 [some (.ref (o_ad X a0)), some (.int x1), some (.int x2)] [] μ0 (o_QI q) := by
  unfold fX11_letter at h
  refine s_iload_n (i := 1) dX11_letter_0 rfl rfl ?_
  refine s_i2l dX11_letter_1 ?_
  refine s_lconst (v := 0) dX11_letter_2 rfl ?_
  refine s_aload_n (i := 0) dX11_letter_3 rfl rfl ?_
  refine s_getR hX h0 flX11_23 rfl dX11_letter_4 (fun (g1 : o_is X (o_rf X a0 4) (.inl 8)) => ?_)
  refine s_getR hX g1 flX11_212 rfl dX11_letter_7 (fun (g2 : o_is X (o_rf X (o_rf X a0 4) 15) (.inl 1)) => ?_)
  refine s_getI g2 flX11_216 rfl dX11_letter_10 ?_
  refine s_iconst dX11_letter_13 kI_1 ?_
  refine s_isub dX11_letter_14 ?_
  refine s_i2l dX11_letter_15 ?_
  refine s_callSz (C := mX11_within) (As := [.long x1.toInt64, .long (0 : Int64), .long (((μ0.1 (o_rf X (o_rf X a0 4) 15) 0) - 1).toInt64)]) (rest := []) (L0 := [some (.long x1.toInt64), none, some (.long (0 : Int64)), none, some (.long (((μ0.1 (o_rf X (o_rf X a0 4) 15) 0) - 1).toInt64)), none]) clX11_118 dX11_letter_16 rfl rfl (Nat.le_of_ble_eq_true rfl) (Nat.le_of_ble_eq_true rfl) (dnX11_within hX  (o_bdp h)) (fun r1 μ1 zr1 h => ?_)
  refine s_if_eq (tgt := 34) dX11_letter_19 rfl (fun c1 => ?_) (fun c1 => ?_)
  · have h := o_if_t c1 h
    refine s_mask [true, false, false] (L' := [some (.ref (o_ad X a0)), none, none]) rfl ?_
    exact dnX11_letter_j34 hX h0 h
  · have h := o_if_f c1 h
    refine s_iload_n (i := 2) dX11_letter_22 rfl rfl ?_
    refine s_i2l dX11_letter_23 ?_
    refine s_lconst (v := 0) dX11_letter_24 rfl ?_
    refine s_ldc2 (v := 3) w_3_33 dX11_letter_25 ?_
    refine s_callSz (C := mX11_within) (As := [.long x2.toInt64, .long (0 : Int64), .long (3 : Int64)]) (rest := []) (L0 := [some (.long x2.toInt64), none, some (.long (0 : Int64)), none, some (.long (3 : Int64)), none]) clX11_118 dX11_letter_28 rfl rfl (Nat.le_of_ble_eq_true rfl) (Nat.le_of_ble_eq_true rfl) (dnX11_within hX  (o_bdp h)) (fun r2 μ2 zr2 h => ?_)
    refine s_if_ne (tgt := 40) dX11_letter_31 rfl (fun c1 => ?_) (fun c1 => ?_)
    · have h := o_if_f c1 h
      refine s_aload_n (i := 0) dX11_letter_40 rfl rfl ?_
      refine s_aload_n (i := 0) dX11_letter_41 rfl rfl ?_
      refine s_getR hX h0 flX11_23 rfl dX11_letter_42 (fun (g3 : o_is X (o_rf X a0 4) (.inl 8)) => ?_)
      refine s_getR hX g3 flX11_212 rfl dX11_letter_45 (fun (g4 : o_is X (o_rf X (o_rf X a0 4) 15) (.inl 1)) => ?_)
      refine s_iload_n (i := 1) dX11_letter_48 rfl rfl ?_
      refine s_iload_n (i := 2) dX11_letter_49 rfl rfl ?_
      refine s_callVi (C := mX1_tell) (As := [.int x1, .int x2]) (rest := [.ref (o_ad X a0)]) (L0 := [some (.ref (o_ad X (o_rf X (o_rf X a0 4) 15))), some (.int x1), some (.int x2)]) hX g4 clX11_272 dX11_letter_50 rfl rfl (Nat.le_of_ble_eq_true rfl) (Nat.le_of_ble_eq_true rfl) (dnX1_tell hX g4 (o_bdp h)) (fun r3 μ3 h => ?_)
      refine s_callVi (C := mX11_gives) (As := [.int r3]) (rest := []) (L0 := [some (.ref (o_ad X a0)), some (.int r3)]) hX h0 clX11_187 dX11_letter_53 rfl rfl (Nat.le_of_ble_eq_true rfl) (Nat.le_of_ble_eq_true rfl) (dnX11_gives hX h0 (o_bdp h)) (fun r4 μ4 h => ?_)
      exact s_ireturn rfl dX11_letter_56 ⟨_, rfl, o_ret h⟩
    · have h := o_if_t c1 h
      refine s_mask [true, false, false] (L' := [some (.ref (o_ad X a0)), none, none]) rfl ?_
      exact dnX11_letter_j34 hX h0 h
theorem dX11_cover_0 : decode cX11_cover 0 = .ok (.iload_n 1, 1) := by decide +kernel
theorem dX11_cover_1 : decode cX11_cover 1 = .ok (.i2l, 1) := by decide +kernel
theorem dX11_cover_2 : decode cX11_cover 2 = .ok (.lconst 0, 1) := by decide +kernel
theorem dX11_cover_3 : decode cX11_cover 3 = .ok (.aload_n 0, 1) := by decide +kernel
theorem dX11_cover_4 : decode cX11_cover 4 = .ok (.getfield 23, 3) := by decide +kernel
theorem dX11_cover_7 : decode cX11_cover 7 = .ok (.getfield 219, 3) := by decide +kernel
theorem dX11_cover_10 : decode cX11_cover 10 = .ok (.getfield 216, 3) := by decide +kernel
theorem dX11_cover_13 : decode cX11_cover 13 = .ok (.iconst 1, 1) := by decide +kernel
theorem dX11_cover_14 : decode cX11_cover 14 = .ok (.isub, 1) := by decide +kernel
theorem dX11_cover_15 : decode cX11_cover 15 = .ok (.i2l, 1) := by decide +kernel
theorem dX11_cover_16 : decode cX11_cover 16 = .ok (.invokestatic 118, 3) := by decide +kernel
theorem dX11_cover_19 : decode cX11_cover 19 = .ok (.ifCond .eq 15, 3) := by decide +kernel
theorem dX11_cover_22 : decode cX11_cover 22 = .ok (.iload_n 2, 1) := by decide +kernel
theorem dX11_cover_23 : decode cX11_cover 23 = .ok (.i2l, 1) := by decide +kernel
theorem dX11_cover_24 : decode cX11_cover 24 = .ok (.lconst 0, 1) := by decide +kernel
theorem dX11_cover_25 : decode cX11_cover 25 = .ok (.ldc2_w 275, 3) := by decide +kernel
theorem dX11_cover_28 : decode cX11_cover 28 = .ok (.invokestatic 118, 3) := by decide +kernel
theorem dX11_cover_31 : decode cX11_cover 31 = .ok (.ifCond .ne 9, 3) := by decide +kernel
theorem dX11_cover_34 : decode cX11_cover 34 = .ok (.aload_n 0, 1) := by decide +kernel
theorem dX11_cover_35 : decode cX11_cover 35 = .ok (.iconst 1, 1) := by decide +kernel
theorem dX11_cover_36 : decode cX11_cover 36 = .ok (.invokevirtual 139, 3) := by decide +kernel
theorem dX11_cover_39 : decode cX11_cover 39 = .ok (.ireturn, 1) := by decide +kernel
theorem dX11_cover_40 : decode cX11_cover 40 = .ok (.aload_n 0, 1) := by decide +kernel
theorem dX11_cover_41 : decode cX11_cover 41 = .ok (.aload_n 0, 1) := by decide +kernel
theorem dX11_cover_42 : decode cX11_cover 42 = .ok (.getfield 23, 3) := by decide +kernel
theorem dX11_cover_45 : decode cX11_cover 45 = .ok (.getfield 219, 3) := by decide +kernel
theorem dX11_cover_48 : decode cX11_cover 48 = .ok (.iload_n 1, 1) := by decide +kernel
theorem dX11_cover_49 : decode cX11_cover 49 = .ok (.iload_n 2, 1) := by decide +kernel
theorem dX11_cover_50 : decode cX11_cover 50 = .ok (.invokevirtual 272, 3) := by decide +kernel
theorem dX11_cover_53 : decode cX11_cover 53 = .ok (.invokevirtual 259, 3) := by decide +kernel
theorem dX11_cover_56 : decode cX11_cover 56 = .ok (.ireturn, 1) := by decide +kernel
noncomputable def fX11_cover_j34 (rf : Nat → Nat → Nat) (a0 : Nat) (μ0 : o_Mem) : Option (Int32 × o_Mem) :=
  o_bd (fX11_refuses rf a0 1 μ0) fun r1 μ1 =>
  some (r1, μ1)
noncomputable def fX11_cover (rf : Nat → Nat → Nat) (a0 : Nat) (x1 : Int32) (x2 : Int32) (μ0 : o_Mem) : Option (Int32 × o_Mem) :=
  o_bd (fX11_within rf x1.toInt64 (0 : Int64) (((μ0.1 (rf (rf a0 4) 16) 0) - 1).toInt64) μ0) fun r1 μ1 =>
  if r1 = 0 then (
    fX11_cover_j34 rf a0 μ1)
  else (
    o_bd (fX11_within rf x2.toInt64 (0 : Int64) (4 : Int64) μ1) fun r2 μ2 =>
    if r2 = 0 then (
      fX11_cover_j34 rf a0 μ2)
    else (
      o_bd (fX1_tell rf (rf (rf a0 4) 16) x1 x2 μ2) fun r3 μ3 =>
      o_bd (fX11_givesIfAny rf a0 r3 μ3) fun r4 μ4 =>
      some (r4, μ4)))
set_option maxRecDepth 20000 in
theorem dnX11_cover_j34 {X : o_Cx} (hX : o_ok X) {d : Nat} {a0 : Nat} {μ0 : o_Mem} {q : Int32 → o_Mem → Prop} (h0 : o_is X a0 (.inl 11)) (h : o_Post (fX11_cover_j34 (o_rf X) a0 μ0) q) : o_Ev X (d + 2) mX11_cover 34 [some (.ref (o_ad X a0)), none, none] [] μ0 (o_QI q) := by
  unfold fX11_cover_j34 at h
  refine s_aload_n (i := 0) dX11_cover_34 rfl rfl ?_
  refine s_iconst dX11_cover_35 kI_1 ?_
  refine s_callVi (C := mX11_refuses) (As := [.int 1]) (rest := []) (L0 := [some (.ref (o_ad X a0)), some (.int 1)]) hX h0 clX11_139 dX11_cover_36 rfl rfl (Nat.le_of_ble_eq_true rfl) (Nat.le_of_ble_eq_true rfl) (dnX11_refuses hX h0 (o_bdp h)) (fun r1 μ1 h => ?_)
  exact s_ireturn rfl dX11_cover_39 ⟨_, rfl, o_ret h⟩
set_option maxRecDepth 20000 in
theorem dnX11_cover {X : o_Cx} (hX : o_ok X) {d : Nat} {a0 : Nat} {x1 : Int32} {x2 : Int32} {μ0 : o_Mem} {q : Int32 → o_Mem → Prop} (h0 : o_is X a0 (.inl 11)) (h : o_Post (fX11_cover (o_rf X) a0 x1 x2 μ0) q) : o_Ev X (d + 2) mX11_cover 0 [some (.ref (o_ad X a0)), some (.int x1), some (.int x2)] [] μ0 (o_QI q) := by
  unfold fX11_cover at h
  refine s_iload_n (i := 1) dX11_cover_0 rfl rfl ?_
  refine s_i2l dX11_cover_1 ?_
  refine s_lconst (v := 0) dX11_cover_2 rfl ?_
  refine s_aload_n (i := 0) dX11_cover_3 rfl rfl ?_
  refine s_getR hX h0 flX11_23 rfl dX11_cover_4 (fun (g1 : o_is X (o_rf X a0 4) (.inl 8)) => ?_)
  refine s_getR hX g1 flX11_219 rfl dX11_cover_7 (fun (g2 : o_is X (o_rf X (o_rf X a0 4) 16) (.inl 1)) => ?_)
  refine s_getI g2 flX11_216 rfl dX11_cover_10 ?_
  refine s_iconst dX11_cover_13 kI_1 ?_
  refine s_isub dX11_cover_14 ?_
  refine s_i2l dX11_cover_15 ?_
  refine s_callSz (C := mX11_within) (As := [.long x1.toInt64, .long (0 : Int64), .long (((μ0.1 (o_rf X (o_rf X a0 4) 16) 0) - 1).toInt64)]) (rest := []) (L0 := [some (.long x1.toInt64), none, some (.long (0 : Int64)), none, some (.long (((μ0.1 (o_rf X (o_rf X a0 4) 16) 0) - 1).toInt64)), none]) clX11_118 dX11_cover_16 rfl rfl (Nat.le_of_ble_eq_true rfl) (Nat.le_of_ble_eq_true rfl) (dnX11_within hX  (o_bdp h)) (fun r1 μ1 zr1 h => ?_)
  refine s_if_eq (tgt := 34) dX11_cover_19 rfl (fun c1 => ?_) (fun c1 => ?_)
  · have h := o_if_t c1 h
    refine s_mask [true, false, false] (L' := [some (.ref (o_ad X a0)), none, none]) rfl ?_
    exact dnX11_cover_j34 hX h0 h
  · have h := o_if_f c1 h
    refine s_iload_n (i := 2) dX11_cover_22 rfl rfl ?_
    refine s_i2l dX11_cover_23 ?_
    refine s_lconst (v := 0) dX11_cover_24 rfl ?_
    refine s_ldc2 (v := 4) w_4_161 dX11_cover_25 ?_
    refine s_callSz (C := mX11_within) (As := [.long x2.toInt64, .long (0 : Int64), .long (4 : Int64)]) (rest := []) (L0 := [some (.long x2.toInt64), none, some (.long (0 : Int64)), none, some (.long (4 : Int64)), none]) clX11_118 dX11_cover_28 rfl rfl (Nat.le_of_ble_eq_true rfl) (Nat.le_of_ble_eq_true rfl) (dnX11_within hX  (o_bdp h)) (fun r2 μ2 zr2 h => ?_)
    refine s_if_ne (tgt := 40) dX11_cover_31 rfl (fun c1 => ?_) (fun c1 => ?_)
    · have h := o_if_f c1 h
      refine s_aload_n (i := 0) dX11_cover_40 rfl rfl ?_
      refine s_aload_n (i := 0) dX11_cover_41 rfl rfl ?_
      refine s_getR hX h0 flX11_23 rfl dX11_cover_42 (fun (g3 : o_is X (o_rf X a0 4) (.inl 8)) => ?_)
      refine s_getR hX g3 flX11_219 rfl dX11_cover_45 (fun (g4 : o_is X (o_rf X (o_rf X a0 4) 16) (.inl 1)) => ?_)
      refine s_iload_n (i := 1) dX11_cover_48 rfl rfl ?_
      refine s_iload_n (i := 2) dX11_cover_49 rfl rfl ?_
      refine s_callVi (C := mX1_tell) (As := [.int x1, .int x2]) (rest := [.ref (o_ad X a0)]) (L0 := [some (.ref (o_ad X (o_rf X (o_rf X a0 4) 16))), some (.int x1), some (.int x2)]) hX g4 clX11_272 dX11_cover_50 rfl rfl (Nat.le_of_ble_eq_true rfl) (Nat.le_of_ble_eq_true rfl) (dnX1_tell hX g4 (o_bdp h)) (fun r3 μ3 h => ?_)
      refine s_callVi (C := mX11_givesIfAny) (As := [.int r3]) (rest := []) (L0 := [some (.ref (o_ad X a0)), some (.int r3)]) hX h0 clX11_259 dX11_cover_53 rfl rfl (Nat.le_of_ble_eq_true rfl) (Nat.le_of_ble_eq_true rfl) (dnX11_givesIfAny hX h0 (o_bdp h)) (fun r4 μ4 h => ?_)
      exact s_ireturn rfl dX11_cover_56 ⟨_, rfl, o_ret h⟩
    · have h := o_if_t c1 h
      refine s_mask [true, false, false] (L' := [some (.ref (o_ad X a0)), none, none]) rfl ?_
      exact dnX11_cover_j34 hX h0 h
theorem dX11_strikes_0 : decode cX11_strikes 0 = .ok (.aload_n 0, 1) := by decide +kernel
theorem dX11_strikes_1 : decode cX11_strikes 1 = .ok (.getfield 23, 3) := by decide +kernel
theorem dX11_strikes_4 : decode cX11_strikes 4 = .ok (.iload_n 1, 1) := by decide +kernel
theorem dX11_strikes_5 : decode cX11_strikes 5 = .ok (.i2l, 1) := by decide +kernel
theorem dX11_strikes_6 : decode cX11_strikes 6 = .ok (.invokevirtual 241, 3) := by decide +kernel
theorem dX11_strikes_9 : decode cX11_strikes 9 = .ok (.ifCond .eq 19, 3) := by decide +kernel
theorem dX11_strikes_12 : decode cX11_strikes 12 = .ok (.aload_n 0, 1) := by decide +kernel
theorem dX11_strikes_13 : decode cX11_strikes 13 = .ok (.aload_n 0, 1) := by decide +kernel
theorem dX11_strikes_14 : decode cX11_strikes 14 = .ok (.getfield 23, 3) := by decide +kernel
theorem dX11_strikes_17 : decode cX11_strikes 17 = .ok (.getfield 277, 3) := by decide +kernel
theorem dX11_strikes_20 : decode cX11_strikes 20 = .ok (.iload_n 1, 1) := by decide +kernel
theorem dX11_strikes_21 : decode cX11_strikes 21 = .ok (.iaload, 1) := by decide +kernel
theorem dX11_strikes_22 : decode cX11_strikes 22 = .ok (.invokevirtual 187, 3) := by decide +kernel
theorem dX11_strikes_25 : decode cX11_strikes 25 = .ok (.goto 8, 3) := by decide +kernel
theorem dX11_strikes_28 : decode cX11_strikes 28 = .ok (.aload_n 0, 1) := by decide +kernel
theorem dX11_strikes_29 : decode cX11_strikes 29 = .ok (.iconst 1, 1) := by decide +kernel
theorem dX11_strikes_30 : decode cX11_strikes 30 = .ok (.invokevirtual 139, 3) := by decide +kernel
theorem dX11_strikes_33 : decode cX11_strikes 33 = .ok (.ireturn, 1) := by decide +kernel
noncomputable def fX11_strikes (rf : Nat → Nat → Nat) (a0 : Nat) (x1 : Int32) (μ0 : o_Mem) : Option (Int32 × o_Mem) :=
  o_bd (fX8_isStrike rf (rf a0 4) x1.toInt64 μ0) fun r1 μ1 =>
  if r1 = 0 then (
    o_bd (fX11_refuses rf a0 1 μ1) fun r2 μ2 =>
    some (r2, μ2))
  else (
    o_ck (0 ≤ (x1).toInt ∧ (x1).toInt < 6) <|
    o_bd (fX11_gives rf a0 (μ1.1 (rf (rf a0 4) 10) x1.toNatClampNeg) μ1) fun r3 μ3 =>
    some (r3, μ3))
set_option maxRecDepth 20000 in
theorem dnX11_strikes {X : o_Cx} (hX : o_ok X) {d : Nat} {a0 : Nat} {x1 : Int32} {μ0 : o_Mem} {q : Int32 → o_Mem → Prop} (h0 : o_is X a0 (.inl 11)) (h : o_Post (fX11_strikes (o_rf X) a0 x1 μ0) q) : o_Ev X (d + 1) mX11_strikes 0 [some (.ref (o_ad X a0)), some (.int x1)] [] μ0 (o_QI q) := by
  unfold fX11_strikes at h
  refine s_aload_n (i := 0) dX11_strikes_0 rfl rfl ?_
  refine s_getR hX h0 flX11_23 rfl dX11_strikes_1 (fun (g1 : o_is X (o_rf X a0 4) (.inl 8)) => ?_)
  refine s_iload_n (i := 1) dX11_strikes_4 rfl rfl ?_
  refine s_i2l dX11_strikes_5 ?_
  refine s_callVz (C := mX8_isStrike) (As := [.long x1.toInt64]) (rest := []) (L0 := [some (.ref (o_ad X (o_rf X a0 4))), some (.long x1.toInt64), none]) hX g1 clX11_241 dX11_strikes_6 rfl rfl (Nat.le_of_ble_eq_true rfl) (Nat.le_of_ble_eq_true rfl) (dnX8_isStrike hX g1 (o_bdp h)) (fun r1 μ1 zr1 h => ?_)
  refine s_if_eq (tgt := 28) dX11_strikes_9 rfl (fun c1 => ?_) (fun c1 => ?_)
  · have h := o_if_t c1 h
    refine s_aload_n (i := 0) dX11_strikes_28 rfl rfl ?_
    refine s_iconst dX11_strikes_29 kI_1 ?_
    refine s_callVi (C := mX11_refuses) (As := [.int 1]) (rest := []) (L0 := [some (.ref (o_ad X a0)), some (.int 1)]) hX h0 clX11_139 dX11_strikes_30 rfl rfl (Nat.le_of_ble_eq_true rfl) (Nat.le_of_ble_eq_true rfl) (dnX11_refuses hX h0 (o_bdp h)) (fun r2 μ2 h => ?_)
    exact s_ireturn rfl dX11_strikes_33 ⟨_, rfl, o_ret h⟩
  · have h := o_if_f c1 h
    refine s_aload_n (i := 0) dX11_strikes_12 rfl rfl ?_
    refine s_aload_n (i := 0) dX11_strikes_13 rfl rfl ?_
    refine s_getR hX h0 flX11_23 rfl dX11_strikes_14 (fun (g2 : o_is X (o_rf X a0 4) (.inl 8)) => ?_)
    refine s_getR hX g2 flX11_277 rfl dX11_strikes_17 (fun (g3 : o_is X (o_rf X (o_rf X a0 4) 10) (.inr (0, 6))) => ?_)
    refine s_iload_n (i := 1) dX11_strikes_20 rfl rfl ?_
    have hc := o_ck_c h
    have h := o_ck_k h
    refine s_ialdK g3 hc rfl dX11_strikes_21 ?_
    refine s_callVi (C := mX11_gives) (As := [.int (μ1.1 (o_rf X (o_rf X a0 4) 10) x1.toNatClampNeg)]) (rest := []) (L0 := [some (.ref (o_ad X a0)), some (.int (μ1.1 (o_rf X (o_rf X a0 4) 10) x1.toNatClampNeg))]) hX h0 clX11_187 dX11_strikes_22 rfl rfl (Nat.le_of_ble_eq_true rfl) (Nat.le_of_ble_eq_true rfl) (dnX11_gives hX h0 (o_bdp h)) (fun r3 μ3 h => ?_)
    refine s_goto (tgt := 33) dX11_strikes_25 rfl ?_
    exact s_ireturn rfl dX11_strikes_33 ⟨_, rfl, o_ret h⟩
