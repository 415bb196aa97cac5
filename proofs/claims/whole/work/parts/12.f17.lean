theorem dX12_feed_0 : decode cX12_feed 0 = .ok (.aload_n 0, 1) := by decide +kernel
theorem dX12_feed_1 : decode cX12_feed 1 = .ok (.getfield 111, 3) := by decide +kernel
theorem dX12_feed_4 : decode cX12_feed 4 = .ok (.bipush 20, 2) := by decide +kernel
theorem dX12_feed_6 : decode cX12_feed 6 = .ok (.iadd, 1) := by decide +kernel
theorem dX12_feed_7 : decode cX12_feed 7 = .ok (.sipush 900, 3) := by decide +kernel
theorem dX12_feed_10 : decode cX12_feed 10 = .ok (.if_icmp .le 5, 3) := by decide +kernel
theorem dX12_feed_13 : decode cX12_feed 13 = .ok (.iconst (-1), 1) := by decide +kernel
theorem dX12_feed_14 : decode cX12_feed 14 = .ok (.ireturn, 1) := by decide +kernel
theorem dX12_feed_15 : decode cX12_feed 15 = .ok (.aload_n 0, 1) := by decide +kernel
theorem dX12_feed_16 : decode cX12_feed 16 = .ok (.iload_n 1, 1) := by decide +kernel
theorem dX12_feed_17 : decode cX12_feed 17 = .ok (.invokevirtual 114, 3) := by decide +kernel
theorem dX12_feed_20 : decode cX12_feed 20 = .ok (.aload_n 0, 1) := by decide +kernel
theorem dX12_feed_21 : decode cX12_feed 21 = .ok (.iload_n 2, 1) := by decide +kernel
theorem dX12_feed_22 : decode cX12_feed 22 = .ok (.invokevirtual 114, 3) := by decide +kernel
theorem dX12_feed_25 : decode cX12_feed 25 = .ok (.aload_n 0, 1) := by decide +kernel
theorem dX12_feed_26 : decode cX12_feed 26 = .ok (.iload_n 3, 1) := by decide +kernel
theorem dX12_feed_27 : decode cX12_feed 27 = .ok (.invokevirtual 114, 3) := by decide +kernel
theorem dX12_feed_30 : decode cX12_feed 30 = .ok (.aload_n 0, 1) := by decide +kernel
theorem dX12_feed_31 : decode cX12_feed 31 = .ok (.iload 4, 2) := by decide +kernel
theorem dX12_feed_33 : decode cX12_feed 33 = .ok (.invokevirtual 114, 3) := by decide +kernel
theorem dX12_feed_36 : decode cX12_feed 36 = .ok (.aload_n 0, 1) := by decide +kernel
theorem dX12_feed_37 : decode cX12_feed 37 = .ok (.iload 5, 2) := by decide +kernel
theorem dX12_feed_39 : decode cX12_feed 39 = .ok (.invokevirtual 114, 3) := by decide +kernel
theorem dX12_feed_42 : decode cX12_feed 42 = .ok (.aload_n 0, 1) := by decide +kernel
theorem dX12_feed_43 : decode cX12_feed 43 = .ok (.getfield 111, 3) := by decide +kernel
theorem dX12_feed_46 : decode cX12_feed 46 = .ok (.ireturn, 1) := by decide +kernel
noncomputable def fX12_feed (rf : Nat → Nat → Nat) (a0 : Nat) (x1 : Int32) (x2 : Int32) (x3 : Int32) (x4 : Int32) (x5 : Int32) (μ0 : o_Mem) : Option (Int32 × o_Mem) :=
  if ((μ0.1 a0 10) + 20) ≤ 900 then (
    o_bd (fX12_four rf a0 x1 μ0) fun _u μ1 =>
    o_bd (fX12_four rf a0 x2 μ1) fun _u μ2 =>
    o_bd (fX12_four rf a0 x3 μ2) fun _u μ3 =>
    o_bd (fX12_four rf a0 x4 μ3) fun _u μ4 =>
    o_bd (fX12_four rf a0 x5 μ4) fun _u μ5 =>
    some ((μ5.1 a0 10), μ5))
  else (
    some ((-1), μ0))
set_option maxRecDepth 20000 in
theorem dnX12_feed {X : o_Cx} (hX : o_ok X) {d : Nat} {a0 : Nat} {x1 : Int32} {x2 : Int32} {x3 : Int32} {x4 : Int32} {x5 : Int32} {μ0 : o_Mem} {q : Int32 → o_Mem → Prop} (h0 : o_is X a0 (.inl 12)) (h : o_Post (fX12_feed (o_rf X) a0 x1 x2 x3 x4 x5 μ0) q) : o_Ev X (d + 1) mX12_feed 0 [some (.ref (o_ad X a0)), some (.int x1), some (.int x2), some (.int x3), some (.int x4), some (.int x5)] [] μ0 (o_QI q) := by
  unfold fX12_feed at h
  refine s_aload_n (i := 0) dX12_feed_0 rfl rfl ?_
  refine s_getI h0 flX12_111 rfl dX12_feed_1 ?_
  refine s_bipush dX12_feed_4 kB_20 ?_
  refine s_iadd dX12_feed_6 ?_
  refine s_sipush dX12_feed_7 kS_900 ?_
  refine s_icmp_le (tgt := 15) dX12_feed_10 rfl (fun c1 => ?_) (fun c1 => ?_)
  · have h := o_if_t c1 h
    refine s_aload_n (i := 0) dX12_feed_15 rfl rfl ?_
    refine s_iload_n (i := 1) dX12_feed_16 rfl rfl ?_
    refine s_callVu (C := mX12_four) (As := [.int x1]) (rest := []) (L0 := [some (.ref (o_ad X a0)), some (.int x1), none]) hX h0 clX12_114 dX12_feed_17 rfl rfl (Nat.le_of_ble_eq_true rfl) (Nat.le_of_ble_eq_true rfl) (dnX12_four hX h0 (o_bdp h)) (fun _u μ1 h => ?_)
    refine s_aload_n (i := 0) dX12_feed_20 rfl rfl ?_
    refine s_iload_n (i := 2) dX12_feed_21 rfl rfl ?_
    refine s_callVu (C := mX12_four) (As := [.int x2]) (rest := []) (L0 := [some (.ref (o_ad X a0)), some (.int x2), none]) hX h0 clX12_114 dX12_feed_22 rfl rfl (Nat.le_of_ble_eq_true rfl) (Nat.le_of_ble_eq_true rfl) (dnX12_four hX h0 (o_bdp h)) (fun _u μ2 h => ?_)
    refine s_aload_n (i := 0) dX12_feed_25 rfl rfl ?_
    refine s_iload_n (i := 3) dX12_feed_26 rfl rfl ?_
    refine s_callVu (C := mX12_four) (As := [.int x3]) (rest := []) (L0 := [some (.ref (o_ad X a0)), some (.int x3), none]) hX h0 clX12_114 dX12_feed_27 rfl rfl (Nat.le_of_ble_eq_true rfl) (Nat.le_of_ble_eq_true rfl) (dnX12_four hX h0 (o_bdp h)) (fun _u μ3 h => ?_)
    refine s_aload_n (i := 0) dX12_feed_30 rfl rfl ?_
    refine s_iload dX12_feed_31 rfl ?_
    refine s_callVu (C := mX12_four) (As := [.int x4]) (rest := []) (L0 := [some (.ref (o_ad X a0)), some (.int x4), none]) hX h0 clX12_114 dX12_feed_33 rfl rfl (Nat.le_of_ble_eq_true rfl) (Nat.le_of_ble_eq_true rfl) (dnX12_four hX h0 (o_bdp h)) (fun _u μ4 h => ?_)
    refine s_aload_n (i := 0) dX12_feed_36 rfl rfl ?_
    refine s_iload dX12_feed_37 rfl ?_
    refine s_callVu (C := mX12_four) (As := [.int x5]) (rest := []) (L0 := [some (.ref (o_ad X a0)), some (.int x5), none]) hX h0 clX12_114 dX12_feed_39 rfl rfl (Nat.le_of_ble_eq_true rfl) (Nat.le_of_ble_eq_true rfl) (dnX12_four hX h0 (o_bdp h)) (fun _u μ5 h => ?_)
    refine s_aload_n (i := 0) dX12_feed_42 rfl rfl ?_
    refine s_getI h0 flX12_111 rfl dX12_feed_43 ?_
    exact s_ireturn rfl dX12_feed_46 ⟨_, rfl, o_ret h⟩
  · have h := o_if_f c1 h
    refine s_iconst dX12_feed_13 kI_m1 ?_
    exact s_ireturn rfl dX12_feed_14 ⟨_, rfl, o_ret h⟩
theorem dX12_byteAt_0 : decode cX12_byteAt 0 = .ok (.iload_n 1, 1) := by decide +kernel
theorem dX12_byteAt_1 : decode cX12_byteAt 1 = .ok (.aload_n 0, 1) := by decide +kernel
theorem dX12_byteAt_2 : decode cX12_byteAt 2 = .ok (.getfield 117, 3) := by decide +kernel
theorem dX12_byteAt_5 : decode cX12_byteAt 5 = .ok (.if_icmp .ge 16, 3) := by decide +kernel
theorem dX12_byteAt_8 : decode cX12_byteAt 8 = .ok (.aload_n 0, 1) := by decide +kernel
theorem dX12_byteAt_9 : decode cX12_byteAt 9 = .ok (.getfield 34, 3) := by decide +kernel
theorem dX12_byteAt_12 : decode cX12_byteAt 12 = .ok (.iload_n 1, 1) := by decide +kernel
theorem dX12_byteAt_13 : decode cX12_byteAt 13 = .ok (.baload, 1) := by decide +kernel
theorem dX12_byteAt_14 : decode cX12_byteAt 14 = .ok (.sipush 255, 3) := by decide +kernel
theorem dX12_byteAt_17 : decode cX12_byteAt 17 = .ok (.iand, 1) := by decide +kernel
theorem dX12_byteAt_18 : decode cX12_byteAt 18 = .ok (.goto 4, 3) := by decide +kernel
theorem dX12_byteAt_21 : decode cX12_byteAt 21 = .ok (.iconst (-1), 1) := by decide +kernel
theorem dX12_byteAt_22 : decode cX12_byteAt 22 = .ok (.ireturn, 1) := by decide +kernel
noncomputable def fX12_byteAt (rf : Nat → Nat → Nat) (a0 : Nat) (x1 : Int32) (μ0 : o_Mem) : Option (Int32 × o_Mem) :=
  if (μ0.1 a0 11) ≤ x1 then (
    some ((-1), μ0))
  else (
    o_ck (0 ≤ (x1).toInt ∧ (x1).toInt < 900) <|
    some (((μ0.1 (rf a0 9) x1.toNatClampNeg) &&& 255), μ0))
set_option maxRecDepth 20000 in
theorem dnX12_byteAt {X : o_Cx} (hX : o_ok X) {d : Nat} {a0 : Nat} {x1 : Int32} {μ0 : o_Mem} {q : Int32 → o_Mem → Prop} (h0 : o_is X a0 (.inl 12)) (h : o_Post (fX12_byteAt (o_rf X) a0 x1 μ0) q) : o_Ev X (d + 0) mX12_byteAt 0 [some (.ref (o_ad X a0)), some (.int x1)] [] μ0 (o_QI q) := by
  unfold fX12_byteAt at h
  refine s_iload_n (i := 1) dX12_byteAt_0 rfl rfl ?_
  refine s_aload_n (i := 0) dX12_byteAt_1 rfl rfl ?_
  refine s_getI h0 flX12_117 rfl dX12_byteAt_2 ?_
  refine s_icmp_ge (tgt := 21) dX12_byteAt_5 rfl (fun c1 => ?_) (fun c1 => ?_)
  · have h := o_if_t c1 h
    refine s_iconst dX12_byteAt_21 kI_m1 ?_
    exact s_ireturn rfl dX12_byteAt_22 ⟨_, rfl, o_ret h⟩
  · have h := o_if_f c1 h
    refine s_aload_n (i := 0) dX12_byteAt_8 rfl rfl ?_
    refine s_getR hX h0 flX12_34 rfl dX12_byteAt_9 (fun (g1 : o_is X (o_rf X a0 9) (.inr (1, 900))) => ?_)
    refine s_iload_n (i := 1) dX12_byteAt_12 rfl rfl ?_
    have hc := o_ck_c h
    have h := o_ck_k h
    refine s_baldK g1 hc rfl dX12_byteAt_13 ?_
    refine s_sipush dX12_byteAt_14 kS_255 ?_
    refine s_iand dX12_byteAt_17 ?_
    refine s_goto (tgt := 22) dX12_byteAt_18 rfl ?_
    exact s_ireturn rfl dX12_byteAt_22 ⟨_, rfl, o_ret h⟩
theorem dX12_isSmall_0 : decode cX12_isSmall 0 = .ok (.iload_n 0, 1) := by decide +kernel
theorem dX12_isSmall_1 : decode cX12_isSmall 1 = .ok (.bipush 97, 2) := by decide +kernel
theorem dX12_isSmall_3 : decode cX12_isSmall 3 = .ok (.if_icmp .lt 13, 3) := by decide +kernel
theorem dX12_isSmall_6 : decode cX12_isSmall 6 = .ok (.iload_n 0, 1) := by decide +kernel
theorem dX12_isSmall_7 : decode cX12_isSmall 7 = .ok (.bipush 122, 2) := by decide +kernel
theorem dX12_isSmall_9 : decode cX12_isSmall 9 = .ok (.if_icmp .gt 7, 3) := by decide +kernel
theorem dX12_isSmall_12 : decode cX12_isSmall 12 = .ok (.iconst 1, 1) := by decide +kernel
theorem dX12_isSmall_13 : decode cX12_isSmall 13 = .ok (.goto 4, 3) := by decide +kernel
theorem dX12_isSmall_16 : decode cX12_isSmall 16 = .ok (.iconst 0, 1) := by decide +kernel
theorem dX12_isSmall_17 : decode cX12_isSmall 17 = .ok (.ireturn, 1) := by decide +kernel
noncomputable def fX12_isSmall (rf : Nat → Nat → Nat) (x0 : Int32) (μ0 : o_Mem) : Option (Int32 × o_Mem) :=
  if x0 < 97 then (
    some (0, μ0))
  else (
    if 122 < x0 then (
      some (0, μ0))
    else (
      some (1, μ0)))
set_option maxRecDepth 20000 in
theorem dnX12_isSmall {X : o_Cx} (hX : o_ok X) {d : Nat} {x0 : Int32} {μ0 : o_Mem} {q : Int32 → o_Mem → Prop}  (h : o_Post (fX12_isSmall (o_rf X) x0 μ0) q) : o_Ev X (d + 0) mX12_isSmall 0 [some (.int x0)] [] μ0 (o_QZ q) := by
  unfold fX12_isSmall at h
  refine s_iload_n (i := 0) dX12_isSmall_0 rfl rfl ?_
  refine s_bipush dX12_isSmall_1 kB_97 ?_
  refine s_icmp_lt (tgt := 16) dX12_isSmall_3 rfl (fun c1 => ?_) (fun c1 => ?_)
  · have h := o_if_t c1 h
    refine s_iconst dX12_isSmall_16 kI_0 ?_
    exact s_zreturn rfl (Or.inl rfl) dX12_isSmall_17 ⟨_, rfl, (Or.inl rfl), o_ret h⟩
  · have h := o_if_f c1 h
    refine s_iload_n (i := 0) dX12_isSmall_6 rfl rfl ?_
    refine s_bipush dX12_isSmall_7 kB_122 ?_
    refine s_icmp_gt (tgt := 16) dX12_isSmall_9 rfl (fun c1 => ?_) (fun c1 => ?_)
    · have h := o_if_t c1 h
      refine s_iconst dX12_isSmall_16 kI_0 ?_
      exact s_zreturn rfl (Or.inl rfl) dX12_isSmall_17 ⟨_, rfl, (Or.inl rfl), o_ret h⟩
    · have h := o_if_f c1 h
      refine s_iconst dX12_isSmall_12 kI_1 ?_
      refine s_goto (tgt := 17) dX12_isSmall_13 rfl ?_
      exact s_zreturn rfl (Or.inr rfl) dX12_isSmall_17 ⟨_, rfl, (Or.inr rfl), o_ret h⟩
theorem dX12_isDigit_0 : decode cX12_isDigit 0 = .ok (.iload_n 0, 1) := by decide +kernel
theorem dX12_isDigit_1 : decode cX12_isDigit 1 = .ok (.bipush 48, 2) := by decide +kernel
theorem dX12_isDigit_3 : decode cX12_isDigit 3 = .ok (.if_icmp .lt 13, 3) := by decide +kernel
theorem dX12_isDigit_6 : decode cX12_isDigit 6 = .ok (.iload_n 0, 1) := by decide +kernel
theorem dX12_isDigit_7 : decode cX12_isDigit 7 = .ok (.bipush 57, 2) := by decide +kernel
theorem dX12_isDigit_9 : decode cX12_isDigit 9 = .ok (.if_icmp .gt 7, 3) := by decide +kernel
theorem dX12_isDigit_12 : decode cX12_isDigit 12 = .ok (.iconst 1, 1) := by decide +kernel
theorem dX12_isDigit_13 : decode cX12_isDigit 13 = .ok (.goto 4, 3) := by decide +kernel
theorem dX12_isDigit_16 : decode cX12_isDigit 16 = .ok (.iconst 0, 1) := by decide +kernel
theorem dX12_isDigit_17 : decode cX12_isDigit 17 = .ok (.ireturn, 1) := by decide +kernel
noncomputable def fX12_isDigit (rf : Nat → Nat → Nat) (x0 : Int32) (μ0 : o_Mem) : Option (Int32 × o_Mem) :=
  if x0 < 48 then (
    some (0, μ0))
  else (
    if 57 < x0 then (
      some (0, μ0))
    else (
      some (1, μ0)))
set_option maxRecDepth 20000 in
theorem dnX12_isDigit {X : o_Cx} (hX : o_ok X) {d : Nat} {x0 : Int32} {μ0 : o_Mem} {q : Int32 → o_Mem → Prop}  (h : o_Post (fX12_isDigit (o_rf X) x0 μ0) q) : o_Ev X (d + 0) mX12_isDigit 0 [some (.int x0)] [] μ0 (o_QZ q) := by
  unfold fX12_isDigit at h
  refine s_iload_n (i := 0) dX12_isDigit_0 rfl rfl ?_
  refine s_bipush dX12_isDigit_1 kB_48 ?_
  refine s_icmp_lt (tgt := 16) dX12_isDigit_3 rfl (fun c1 => ?_) (fun c1 => ?_)
  · have h := o_if_t c1 h
    refine s_iconst dX12_isDigit_16 kI_0 ?_
    exact s_zreturn rfl (Or.inl rfl) dX12_isDigit_17 ⟨_, rfl, (Or.inl rfl), o_ret h⟩
  · have h := o_if_f c1 h
    refine s_iload_n (i := 0) dX12_isDigit_6 rfl rfl ?_
    refine s_bipush dX12_isDigit_7 kB_57 ?_
    refine s_icmp_gt (tgt := 16) dX12_isDigit_9 rfl (fun c1 => ?_) (fun c1 => ?_)
    · have h := o_if_t c1 h
      refine s_iconst dX12_isDigit_16 kI_0 ?_
      exact s_zreturn rfl (Or.inl rfl) dX12_isDigit_17 ⟨_, rfl, (Or.inl rfl), o_ret h⟩
    · have h := o_if_f c1 h
      refine s_iconst dX12_isDigit_12 kI_1 ?_
      refine s_goto (tgt := 17) dX12_isDigit_13 rfl ?_
      exact s_zreturn rfl (Or.inr rfl) dX12_isDigit_17 ⟨_, rfl, (Or.inr rfl), o_ret h⟩
theorem dX12_ahead_0 : decode cX12_ahead 0 = .ok (.aload_n 0, 1) := by decide +kernel
theorem dX12_ahead_1 : decode cX12_ahead 1 = .ok (.aload_n 0, 1) := by decide +kernel
theorem dX12_ahead_2 : decode cX12_ahead 2 = .ok (.getfield 120, 3) := by decide +kernel
theorem dX12_ahead_5 : decode cX12_ahead 5 = .ok (.invokevirtual 123, 3) := by decide +kernel
theorem dX12_ahead_8 : decode cX12_ahead 8 = .ok (.bipush 32, 2) := by decide +kernel
theorem dX12_ahead_10 : decode cX12_ahead 10 = .ok (.if_icmp .eq 16, 3) := by decide +kernel
theorem dX12_ahead_13 : decode cX12_ahead 13 = .ok (.aload_n 0, 1) := by decide +kernel
theorem dX12_ahead_14 : decode cX12_ahead 14 = .ok (.aload_n 0, 1) := by decide +kernel
theorem dX12_ahead_15 : decode cX12_ahead 15 = .ok (.getfield 120, 3) := by decide +kernel
theorem dX12_ahead_18 : decode cX12_ahead 18 = .ok (.invokevirtual 123, 3) := by decide +kernel
theorem dX12_ahead_21 : decode cX12_ahead 21 = .ok (.bipush 10, 2) := by decide +kernel
theorem dX12_ahead_23 : decode cX12_ahead 23 = .ok (.if_icmp .ne 16, 3) := by decide +kernel
theorem dX12_ahead_26 : decode cX12_ahead 26 = .ok (.aload_n 0, 1) := by decide +kernel
theorem dX12_ahead_27 : decode cX12_ahead 27 = .ok (.dup, 1) := by decide +kernel
theorem dX12_ahead_28 : decode cX12_ahead 28 = .ok (.getfield 120, 3) := by decide +kernel
theorem dX12_ahead_31 : decode cX12_ahead 31 = .ok (.iconst 1, 1) := by decide +kernel
theorem dX12_ahead_32 : decode cX12_ahead 32 = .ok (.iadd, 1) := by decide +kernel
theorem dX12_ahead_33 : decode cX12_ahead 33 = .ok (.putfield 120, 3) := by decide +kernel
theorem dX12_ahead_36 : decode cX12_ahead 36 = .ok (.goto (-36), 3) := by decide +kernel
theorem dX12_ahead_39 : decode cX12_ahead 39 = .ok (.aload_n 0, 1) := by decide +kernel
theorem dX12_ahead_40 : decode cX12_ahead 40 = .ok (.aload_n 0, 1) := by decide +kernel
theorem dX12_ahead_41 : decode cX12_ahead 41 = .ok (.getfield 120, 3) := by decide +kernel
theorem dX12_ahead_44 : decode cX12_ahead 44 = .ok (.putfield 126, 3) := by decide +kernel
theorem dX12_ahead_47 : decode cX12_ahead 47 = .ok (.aload_n 0, 1) := by decide +kernel
theorem dX12_ahead_48 : decode cX12_ahead 48 = .ok (.aload_n 0, 1) := by decide +kernel
theorem dX12_ahead_49 : decode cX12_ahead 49 = .ok (.getfield 120, 3) := by decide +kernel
theorem dX12_ahead_52 : decode cX12_ahead 52 = .ok (.invokevirtual 123, 3) := by decide +kernel
theorem dX12_ahead_55 : decode cX12_ahead 55 = .ok (.istore_n 1, 1) := by decide +kernel
theorem dX12_ahead_56 : decode cX12_ahead 56 = .ok (.aload_n 0, 1) := by decide +kernel
theorem dX12_ahead_57 : decode cX12_ahead 57 = .ok (.iload_n 1, 1) := by decide +kernel
theorem dX12_ahead_58 : decode cX12_ahead 58 = .ok (.putfield 129, 3) := by decide +kernel
theorem dX12_ahead_61 : decode cX12_ahead 61 = .ok (.iload_n 1, 1) := by decide +kernel
theorem dX12_ahead_62 : decode cX12_ahead 62 = .ok (.iconst (-1), 1) := by decide +kernel
theorem dX12_ahead_63 : decode cX12_ahead 63 = .ok (.if_icmp .ne 11, 3) := by decide +kernel
theorem dX12_ahead_66 : decode cX12_ahead 66 = .ok (.aload_n 0, 1) := by decide +kernel
theorem dX12_ahead_67 : decode cX12_ahead 67 = .ok (.iconst 0, 1) := by decide +kernel
theorem dX12_ahead_68 : decode cX12_ahead 68 = .ok (.putfield 132, 3) := by decide +kernel
theorem dX12_ahead_71 : decode cX12_ahead 71 = .ok (.goto 180, 3) := by decide +kernel
theorem dX12_ahead_74 : decode cX12_ahead 74 = .ok (.iload_n 1, 1) := by decide +kernel
theorem dX12_ahead_75 : decode cX12_ahead 75 = .ok (.invokestatic 135, 3) := by decide +kernel
theorem dX12_ahead_78 : decode cX12_ahead 78 = .ok (.ifCond .eq 38, 3) := by decide +kernel
theorem dX12_ahead_81 : decode cX12_ahead 81 = .ok (.aload_n 0, 1) := by decide +kernel
theorem dX12_ahead_82 : decode cX12_ahead 82 = .ok (.aload_n 0, 1) := by decide +kernel
theorem dX12_ahead_83 : decode cX12_ahead 83 = .ok (.getfield 120, 3) := by decide +kernel
theorem dX12_ahead_86 : decode cX12_ahead 86 = .ok (.invokevirtual 123, 3) := by decide +kernel
theorem dX12_ahead_89 : decode cX12_ahead 89 = .ok (.invokestatic 135, 3) := by decide +kernel
theorem dX12_ahead_92 : decode cX12_ahead 92 = .ok (.ifCond .eq 16, 3) := by decide +kernel
theorem dX12_ahead_95 : decode cX12_ahead 95 = .ok (.aload_n 0, 1) := by decide +kernel
theorem dX12_ahead_96 : decode cX12_ahead 96 = .ok (.dup, 1) := by decide +kernel
theorem dX12_ahead_97 : decode cX12_ahead 97 = .ok (.getfield 120, 3) := by decide +kernel
theorem dX12_ahead_100 : decode cX12_ahead 100 = .ok (.iconst 1, 1) := by decide +kernel
theorem dX12_ahead_101 : decode cX12_ahead 101 = .ok (.iadd, 1) := by decide +kernel
theorem dX12_ahead_102 : decode cX12_ahead 102 = .ok (.putfield 120, 3) := by decide +kernel
theorem dX12_ahead_105 : decode cX12_ahead 105 = .ok (.goto (-24), 3) := by decide +kernel
theorem dX12_ahead_108 : decode cX12_ahead 108 = .ok (.aload_n 0, 1) := by decide +kernel
theorem dX12_ahead_109 : decode cX12_ahead 109 = .ok (.iconst 2, 1) := by decide +kernel
theorem dX12_ahead_110 : decode cX12_ahead 110 = .ok (.putfield 132, 3) := by decide +kernel
theorem dX12_ahead_113 : decode cX12_ahead 113 = .ok (.goto 138, 3) := by decide +kernel
theorem dX12_ahead_116 : decode cX12_ahead 116 = .ok (.iload_n 1, 1) := by decide +kernel
theorem dX12_ahead_117 : decode cX12_ahead 117 = .ok (.invokestatic 138, 3) := by decide +kernel
theorem dX12_ahead_120 : decode cX12_ahead 120 = .ok (.ifCond .eq 88, 3) := by decide +kernel
theorem dX12_ahead_123 : decode cX12_ahead 123 = .ok (.aload_n 0, 1) := by decide +kernel
theorem dX12_ahead_124 : decode cX12_ahead 124 = .ok (.iconst 0, 1) := by decide +kernel
theorem dX12_ahead_125 : decode cX12_ahead 125 = .ok (.putfield 129, 3) := by decide +kernel
theorem dX12_ahead_128 : decode cX12_ahead 128 = .ok (.aload_n 0, 1) := by decide +kernel
theorem dX12_ahead_129 : decode cX12_ahead 129 = .ok (.aload_n 0, 1) := by decide +kernel
theorem dX12_ahead_130 : decode cX12_ahead 130 = .ok (.getfield 120, 3) := by decide +kernel
theorem dX12_ahead_133 : decode cX12_ahead 133 = .ok (.invokevirtual 123, 3) := by decide +kernel
theorem dX12_ahead_136 : decode cX12_ahead 136 = .ok (.invokestatic 138, 3) := by decide +kernel
theorem dX12_ahead_139 : decode cX12_ahead 139 = .ok (.ifCond .eq 44, 3) := by decide +kernel
theorem dX12_ahead_142 : decode cX12_ahead 142 = .ok (.aload_n 0, 1) := by decide +kernel
theorem dX12_ahead_143 : decode cX12_ahead 143 = .ok (.ldc 141, 2) := by decide +kernel
theorem dX12_ahead_145 : decode cX12_ahead 145 = .ok (.bipush 10, 2) := by decide +kernel
theorem dX12_ahead_147 : decode cX12_ahead 147 = .ok (.aload_n 0, 1) := by decide +kernel
theorem dX12_ahead_148 : decode cX12_ahead 148 = .ok (.getfield 129, 3) := by decide +kernel
theorem dX12_ahead_151 : decode cX12_ahead 151 = .ok (.imul, 1) := by decide +kernel
theorem dX12_ahead_152 : decode cX12_ahead 152 = .ok (.aload_n 0, 1) := by decide +kernel
theorem dX12_ahead_153 : decode cX12_ahead 153 = .ok (.aload_n 0, 1) := by decide +kernel
theorem dX12_ahead_154 : decode cX12_ahead 154 = .ok (.getfield 120, 3) := by decide +kernel
theorem dX12_ahead_157 : decode cX12_ahead 157 = .ok (.invokevirtual 123, 3) := by decide +kernel
theorem dX12_ahead_160 : decode cX12_ahead 160 = .ok (.iadd, 1) := by decide +kernel
theorem dX12_ahead_161 : decode cX12_ahead 161 = .ok (.bipush 48, 2) := by decide +kernel
theorem dX12_ahead_163 : decode cX12_ahead 163 = .ok (.isub, 1) := by decide +kernel
theorem dX12_ahead_164 : decode cX12_ahead 164 = .ok (.invokestatic 142, 3) := by decide +kernel
theorem dX12_ahead_167 : decode cX12_ahead 167 = .ok (.putfield 129, 3) := by decide +kernel
theorem dX12_ahead_170 : decode cX12_ahead 170 = .ok (.aload_n 0, 1) := by decide +kernel
theorem dX12_ahead_171 : decode cX12_ahead 171 = .ok (.dup, 1) := by decide +kernel
theorem dX12_ahead_172 : decode cX12_ahead 172 = .ok (.getfield 120, 3) := by decide +kernel
theorem dX12_ahead_175 : decode cX12_ahead 175 = .ok (.iconst 1, 1) := by decide +kernel
theorem dX12_ahead_176 : decode cX12_ahead 176 = .ok (.iadd, 1) := by decide +kernel
theorem dX12_ahead_177 : decode cX12_ahead 177 = .ok (.putfield 120, 3) := by decide +kernel
theorem dX12_ahead_180 : decode cX12_ahead 180 = .ok (.goto (-52), 3) := by decide +kernel
theorem dX12_ahead_183 : decode cX12_ahead 183 = .ok (.aload_n 0, 1) := by decide +kernel
theorem dX12_ahead_184 : decode cX12_ahead 184 = .ok (.aload_n 0, 1) := by decide +kernel
theorem dX12_ahead_185 : decode cX12_ahead 185 = .ok (.getfield 120, 3) := by decide +kernel
theorem dX12_ahead_188 : decode cX12_ahead 188 = .ok (.aload_n 0, 1) := by decide +kernel
theorem dX12_ahead_189 : decode cX12_ahead 189 = .ok (.getfield 126, 3) := by decide +kernel
theorem dX12_ahead_192 : decode cX12_ahead 192 = .ok (.isub, 1) := by decide +kernel
theorem dX12_ahead_193 : decode cX12_ahead 193 = .ok (.iconst 4, 1) := by decide +kernel
theorem dX12_ahead_194 : decode cX12_ahead 194 = .ok (.if_icmp .le 7, 3) := by decide +kernel
theorem dX12_ahead_197 : decode cX12_ahead 197 = .ok (.iconst 1, 1) := by decide +kernel
theorem dX12_ahead_198 : decode cX12_ahead 198 = .ok (.goto 4, 3) := by decide +kernel
theorem dX12_ahead_201 : decode cX12_ahead 201 = .ok (.iconst 3, 1) := by decide +kernel
theorem dX12_ahead_202 : decode cX12_ahead 202 = .ok (.putfield 132, 3) := by decide +kernel
theorem dX12_ahead_205 : decode cX12_ahead 205 = .ok (.goto 46, 3) := by decide +kernel
theorem dX12_ahead_208 : decode cX12_ahead 208 = .ok (.aload_n 0, 1) := by decide +kernel
theorem dX12_ahead_209 : decode cX12_ahead 209 = .ok (.dup, 1) := by decide +kernel
theorem dX12_ahead_210 : decode cX12_ahead 210 = .ok (.getfield 120, 3) := by decide +kernel
theorem dX12_ahead_213 : decode cX12_ahead 213 = .ok (.iconst 1, 1) := by decide +kernel
theorem dX12_ahead_214 : decode cX12_ahead 214 = .ok (.iadd, 1) := by decide +kernel
theorem dX12_ahead_215 : decode cX12_ahead 215 = .ok (.putfield 120, 3) := by decide +kernel
theorem dX12_ahead_218 : decode cX12_ahead 218 = .ok (.aload_n 0, 1) := by decide +kernel
theorem dX12_ahead_219 : decode cX12_ahead 219 = .ok (.iload_n 1, 1) := by decide +kernel
theorem dX12_ahead_220 : decode cX12_ahead 220 = .ok (.bipush 59, 2) := by decide +kernel
theorem dX12_ahead_222 : decode cX12_ahead 222 = .ok (.if_icmp .eq 21, 3) := by decide +kernel
theorem dX12_ahead_225 : decode cX12_ahead 225 = .ok (.iload_n 1, 1) := by decide +kernel
theorem dX12_ahead_226 : decode cX12_ahead 226 = .ok (.bipush 60, 2) := by decide +kernel
theorem dX12_ahead_228 : decode cX12_ahead 228 = .ok (.if_icmp .eq 15, 3) := by decide +kernel
theorem dX12_ahead_231 : decode cX12_ahead 231 = .ok (.iload_n 1, 1) := by decide +kernel
theorem dX12_ahead_232 : decode cX12_ahead 232 = .ok (.bipush 62, 2) := by decide +kernel
theorem dX12_ahead_234 : decode cX12_ahead 234 = .ok (.if_icmp .eq 9, 3) := by decide +kernel
theorem dX12_ahead_237 : decode cX12_ahead 237 = .ok (.iload_n 1, 1) := by decide +kernel
theorem dX12_ahead_238 : decode cX12_ahead 238 = .ok (.bipush 61, 2) := by decide +kernel
theorem dX12_ahead_240 : decode cX12_ahead 240 = .ok (.if_icmp .ne 7, 3) := by decide +kernel
theorem dX12_ahead_243 : decode cX12_ahead 243 = .ok (.iconst 4, 1) := by decide +kernel
theorem dX12_ahead_244 : decode cX12_ahead 244 = .ok (.goto 4, 3) := by decide +kernel
theorem dX12_ahead_247 : decode cX12_ahead 247 = .ok (.iconst 1, 1) := by decide +kernel
theorem dX12_ahead_248 : decode cX12_ahead 248 = .ok (.putfield 132, 3) := by decide +kernel
theorem dX12_ahead_251 : decode cX12_ahead 251 = .ok (.return_, 1) := by decide +kernel
noncomputable def fX12_ahead_j26 (rf : Nat → Nat → Nat) (a0 : Nat) (μ0 : o_Mem) : Option ((Nat × (Unit)) × o_Mem) :=
  o_seq (o_wI μ0 a0 14 ((μ0.1 a0 14) + 1)) fun μ1 =>
  some ((0, ()), μ1)
noncomputable def fX12_ahead_s0 (rf : Nat → Nat → Nat) (a0 : Nat) (τ0 : Unit) (μ0 : o_Mem) : Option ((Nat × (Unit)) × o_Mem) :=
  o_bd (fX12_byteAt rf a0 (μ0.1 a0 14) μ0) fun r1 μ1 =>
  if r1 = 32 then (
    fX12_ahead_j26 rf a0 μ1)
  else (
    o_bd (fX12_byteAt rf a0 (μ1.1 a0 14) μ1) fun r2 μ2 =>
    if r2 = 10 then (
      fX12_ahead_j26 rf a0 μ2)
    else (
      some ((39, ()), μ2)))
noncomputable def fX12_ahead_j248 (rf : Nat → Nat → Nat) (b0 : Nat) (y1 : Int32) (μ0 : o_Mem) : Option (Unit × o_Mem) :=
  o_seq (o_wI μ0 b0 12 y1) fun μ1 =>
  some ((), μ1)
noncomputable def fX12_ahead_j243 (rf : Nat → Nat → Nat) (b0 : Nat) (μ0 : o_Mem) : Option (Unit × o_Mem) :=
  fX12_ahead_j248 rf b0 4 μ0
noncomputable def fX12_ahead_s128 (rf : Nat → Nat → Nat) (a0 : Nat) (τ128 : Unit) (μ0 : o_Mem) : Option ((Nat × (Unit)) × o_Mem) :=
  o_bd (fX12_byteAt rf a0 (μ0.1 a0 14) μ0) fun r1 μ1 =>
  o_bd (fX12_isDigit rf r1 μ1) fun r2 μ2 =>
  if r2 = 0 then (
    some ((183, ()), μ2))
  else (
    o_bd (fX12_byteAt rf a0 (μ2.1 a0 14) μ2) fun r3 μ3 =>
    o_seq (o_wI μ3 a0 15 (if 100000 > (((10 * (μ2.1 a0 15)) + r3) - 48) then (((10 * (μ2.1 a0 15)) + r3) - 48) else 100000)) fun μ4 =>
    o_seq (o_wI μ4 a0 14 ((μ4.1 a0 14) + 1)) fun μ5 =>
    some ((128, ()), μ5))
noncomputable def fX12_ahead_j202 (rf : Nat → Nat → Nat) (b0 : Nat) (y1 : Int32) (μ0 : o_Mem) : Option (Unit × o_Mem) :=
  o_seq (o_wI μ0 b0 12 y1) fun μ1 =>
  some ((), μ1)
noncomputable def fX12_ahead_s81 (rf : Nat → Nat → Nat) (a0 : Nat) (τ81 : Unit) (μ0 : o_Mem) : Option ((Nat × (Unit)) × o_Mem) :=
  o_bd (fX12_byteAt rf a0 (μ0.1 a0 14) μ0) fun r1 μ1 =>
  o_bd (fX12_isSmall rf r1 μ1) fun r2 μ2 =>
  if r2 = 0 then (
    some ((108, ()), μ2))
  else (
    o_seq (o_wI μ2 a0 14 ((μ2.1 a0 14) + 1)) fun μ3 =>
    some ((81, ()), μ3))
noncomputable def fX12_ahead (rf : Nat → Nat → Nat) (a0 : Nat) (μ0 : o_Mem) : Option (Unit × o_Mem) :=
  o_bd (o_lp 0 (fX12_ahead_s0 rf a0) o_fuel () μ0) fun ex1 μ1 =>
  if ex1.1 = 39 then (
    o_seq (o_wI μ1 a0 13 (μ1.1 a0 14)) fun μ2 =>
    o_bd (fX12_byteAt rf a0 (μ2.1 a0 14) μ2) fun r1 μ3 =>
    o_seq (o_wI μ3 a0 15 r1) fun μ4 =>
    if r1 = (-1) then (
      o_seq (o_wI μ4 a0 12 0) fun μ12 =>
      some ((), μ12))
    else (
      o_bd (fX12_isSmall rf r1 μ4) fun r2 μ5 =>
      if r2 = 0 then (
        o_bd (fX12_isDigit rf r1 μ5) fun r3 μ6 =>
        if r3 = 0 then (
          o_seq (o_wI μ6 a0 14 ((μ6.1 a0 14) + 1)) fun μ7 =>
          if r1 = 59 then (
            fX12_ahead_j243 rf a0 μ7)
          else (
            if r1 = 60 then (
              fX12_ahead_j243 rf a0 μ7)
            else (
              if r1 = 62 then (
                fX12_ahead_j243 rf a0 μ7)
              else (
                if r1 = 61 then (
                  fX12_ahead_j243 rf a0 μ7)
                else (
                  fX12_ahead_j248 rf a0 1 μ7)))))
        else (
          o_seq (o_wI μ6 a0 15 0) fun μ8 =>
          o_bd (o_lp 128 (fX12_ahead_s128 rf a0) o_fuel () μ8) fun ex9 μ9 =>
          if ex9.1 = 183 then (
            if ((μ9.1 a0 14) - (μ9.1 a0 13)) ≤ 4 then (
              fX12_ahead_j202 rf a0 3 μ9)
            else (
              fX12_ahead_j202 rf a0 1 μ9))
          else
            none))
      else (
        o_bd (o_lp 81 (fX12_ahead_s81 rf a0) o_fuel () μ5) fun ex10 μ10 =>
        if ex10.1 = 108 then (
          o_seq (o_wI μ10 a0 12 2) fun μ11 =>
          some ((), μ11))
        else
          none)))
  else
    none
set_option maxRecDepth 20000 in
theorem dnX12_ahead_j26 {X : o_Cx} (hX : o_ok X) {d : Nat} {a0 : Nat} {μ0 : o_Mem} {K : (Nat × (Unit)) → o_Mem → Prop} {Q : Option Value → o_Mem → Prop} (h0 : o_is X a0 (.inl 12)) (h : o_Post (fX12_ahead_j26 (o_rf X) a0 μ0) K) (kh : ∀ (τ0 : Unit) (μ : o_Mem), K (0, τ0) μ → o_Ev X (d + 1) mX12_ahead 0 [some (.ref (o_ad X a0)), none] [] μ Q) (k39 : ∀ (τ0 : Unit) (μ : o_Mem), K (39, τ0) μ → o_Ev X (d + 1) mX12_ahead 39 [some (.ref (o_ad X a0)), none] [] μ Q) : o_Ev X (d + 1) mX12_ahead 26 [some (.ref (o_ad X a0)), none] [] μ0 Q := by
  unfold fX12_ahead_j26 at h
  refine s_aload_n (i := 0) dX12_ahead_26 rfl rfl ?_
  refine s_dup dX12_ahead_27 rfl ?_
  refine s_getI h0 flX12_120 rfl dX12_ahead_28 ?_
  refine s_iconst dX12_ahead_31 kI_1 ?_
  refine s_iadd dX12_ahead_32 ?_
  refine s_putI hX h0 fwX12_120 rfl dX12_ahead_33 (o_gen h (fun μ1 h => ?_))
  refine s_goto (tgt := 0) dX12_ahead_36 rfl ?_
  refine s_mask [true, false] (L' := [some (.ref (o_ad X a0)), none]) rfl ?_
  exact kh () _ (o_ret h)
set_option maxRecDepth 20000 in
theorem dnX12_ahead_s0 {X : o_Cx} (hX : o_ok X) {d : Nat} {a0 : Nat} {τ0 : Unit} {μ0 : o_Mem} {K : (Nat × (Unit)) → o_Mem → Prop} {Q : Option Value → o_Mem → Prop} (h0 : o_is X a0 (.inl 12)) (h : o_Post (fX12_ahead_s0 (o_rf X) a0 τ0 μ0) K) (kh : ∀ (τ0 : Unit) (μ : o_Mem), K (0, τ0) μ → o_Ev X (d + 1) mX12_ahead 0 [some (.ref (o_ad X a0)), none] [] μ Q) (k39 : ∀ (τ0 : Unit) (μ : o_Mem), K (39, τ0) μ → o_Ev X (d + 1) mX12_ahead 39 [some (.ref (o_ad X a0)), none] [] μ Q) : o_Ev X (d + 1) mX12_ahead 0 [some (.ref (o_ad X a0)), none] [] μ0 Q := by
  unfold fX12_ahead_s0 at h
  refine s_aload_n (i := 0) dX12_ahead_0 rfl rfl ?_
  refine s_aload_n (i := 0) dX12_ahead_1 rfl rfl ?_
  refine s_getI h0 flX12_120 rfl dX12_ahead_2 ?_
  refine s_callVi (C := mX12_byteAt) (As := [.int (μ0.1 a0 14)]) (rest := []) (L0 := [some (.ref (o_ad X a0)), some (.int (μ0.1 a0 14))]) hX h0 clX12_123 dX12_ahead_5 rfl rfl (Nat.le_of_ble_eq_true rfl) (Nat.le_of_ble_eq_true rfl) (dnX12_byteAt hX h0 (o_bdp h)) (fun r1 μ1 h => ?_)
  refine s_bipush dX12_ahead_8 kB_32 ?_
  refine s_icmp_eq (tgt := 26) dX12_ahead_10 rfl (fun c1 => ?_) (fun c1 => ?_)
  · have h := o_if_t c1 h
    refine s_mask [true, false] (L' := [some (.ref (o_ad X a0)), none]) rfl ?_
    exact dnX12_ahead_j26 hX h0 h kh k39
  · have h := o_if_f c1 h
    refine s_aload_n (i := 0) dX12_ahead_13 rfl rfl ?_
    refine s_aload_n (i := 0) dX12_ahead_14 rfl rfl ?_
    refine s_getI h0 flX12_120 rfl dX12_ahead_15 ?_
    refine s_callVi (C := mX12_byteAt) (As := [.int (μ1.1 a0 14)]) (rest := []) (L0 := [some (.ref (o_ad X a0)), some (.int (μ1.1 a0 14))]) hX h0 clX12_123 dX12_ahead_18 rfl rfl (Nat.le_of_ble_eq_true rfl) (Nat.le_of_ble_eq_true rfl) (dnX12_byteAt hX h0 (o_bdp h)) (fun r2 μ2 h => ?_)
    refine s_bipush dX12_ahead_21 kB_10 ?_
    refine s_icmp_ne (tgt := 39) dX12_ahead_23 rfl (fun c1 => ?_) (fun c1 => ?_)
    · have h := o_if_f c1 h
      refine s_mask [true, false] (L' := [some (.ref (o_ad X a0)), none]) rfl ?_
      exact k39 () _ (o_ret h)
    · have h := o_if_t c1 h
      refine s_mask [true, false] (L' := [some (.ref (o_ad X a0)), none]) rfl ?_
      exact dnX12_ahead_j26 hX h0 h kh k39
set_option maxRecDepth 20000 in
theorem dnX12_ahead_j248 {X : o_Cx} (hX : o_ok X) {d : Nat} {b0 : Nat} {y1 : Int32} {μ0 : o_Mem} {q : Unit → o_Mem → Prop} (hb0 : o_is X b0 (.inl 12)) (h : o_Post (fX12_ahead_j248 (o_rf X) b0 y1 μ0) q) : o_Ev X (d + 1) mX12_ahead 248 [none, none] [.int y1, .ref (o_ad X b0)] μ0 (o_QU q) := by
  unfold fX12_ahead_j248 at h
  refine s_putI hX hb0 fwX12_132 rfl dX12_ahead_248 (o_gen h (fun μ1 h => ?_))
  exact s_return rfl dX12_ahead_251 ⟨rfl, o_ret h⟩
set_option maxRecDepth 20000 in
theorem dnX12_ahead_j243 {X : o_Cx} (hX : o_ok X) {d : Nat} {b0 : Nat} {μ0 : o_Mem} {q : Unit → o_Mem → Prop} (hb0 : o_is X b0 (.inl 12)) (h : o_Post (fX12_ahead_j243 (o_rf X) b0 μ0) q) : o_Ev X (d + 1) mX12_ahead 243 [none, none] [.ref (o_ad X b0)] μ0 (o_QU q) := by
  unfold fX12_ahead_j243 at h
  refine s_iconst dX12_ahead_243 kI_4 ?_
  refine s_goto (tgt := 248) dX12_ahead_244 rfl ?_
  refine s_mask [false, false] (L' := [none, none]) rfl ?_
  exact dnX12_ahead_j248 hX hb0 h
set_option maxRecDepth 20000 in
theorem dnX12_ahead_s128 {X : o_Cx} (hX : o_ok X) {d : Nat} {a0 : Nat} {τ128 : Unit} {μ0 : o_Mem} {K : (Nat × (Unit)) → o_Mem → Prop} {Q : Option Value → o_Mem → Prop} (h0 : o_is X a0 (.inl 12)) (h : o_Post (fX12_ahead_s128 (o_rf X) a0 τ128 μ0) K) (kh : ∀ (τ128 : Unit) (μ : o_Mem), K (128, τ128) μ → o_Ev X (d + 1) mX12_ahead 128 [some (.ref (o_ad X a0)), none] [] μ Q) (k183 : ∀ (τ128 : Unit) (μ : o_Mem), K (183, τ128) μ → o_Ev X (d + 1) mX12_ahead 183 [some (.ref (o_ad X a0)), none] [] μ Q) : o_Ev X (d + 1) mX12_ahead 128 [some (.ref (o_ad X a0)), none] [] μ0 Q := by
  unfold fX12_ahead_s128 at h
  refine s_aload_n (i := 0) dX12_ahead_128 rfl rfl ?_
  refine s_aload_n (i := 0) dX12_ahead_129 rfl rfl ?_
  refine s_getI h0 flX12_120 rfl dX12_ahead_130 ?_
  refine s_callVi (C := mX12_byteAt) (As := [.int (μ0.1 a0 14)]) (rest := []) (L0 := [some (.ref (o_ad X a0)), some (.int (μ0.1 a0 14))]) hX h0 clX12_123 dX12_ahead_133 rfl rfl (Nat.le_of_ble_eq_true rfl) (Nat.le_of_ble_eq_true rfl) (dnX12_byteAt hX h0 (o_bdp h)) (fun r1 μ1 h => ?_)
  refine s_callSz (C := mX12_isDigit) (As := [.int r1]) (rest := []) (L0 := [some (.int r1)]) clX12_138 dX12_ahead_136 rfl rfl (Nat.le_of_ble_eq_true rfl) (Nat.le_of_ble_eq_true rfl) (dnX12_isDigit hX  (o_bdp h)) (fun r2 μ2 zr2 h => ?_)
  refine s_if_eq (tgt := 183) dX12_ahead_139 rfl (fun c1 => ?_) (fun c1 => ?_)
  · have h := o_if_t c1 h
    refine s_mask [true, false] (L' := [some (.ref (o_ad X a0)), none]) rfl ?_
    exact k183 () _ (o_ret h)
  · have h := o_if_f c1 h
    refine s_aload_n (i := 0) dX12_ahead_142 rfl rfl ?_
    refine s_ldc (v := 100000) w_7_81 dX12_ahead_143 ?_
    refine s_bipush dX12_ahead_145 kB_10 ?_
    refine s_aload_n (i := 0) dX12_ahead_147 rfl rfl ?_
    refine s_getI h0 flX12_129 rfl dX12_ahead_148 ?_
    refine s_imul dX12_ahead_151 ?_
    refine s_aload_n (i := 0) dX12_ahead_152 rfl rfl ?_
    refine s_aload_n (i := 0) dX12_ahead_153 rfl rfl ?_
    refine s_getI h0 flX12_120 rfl dX12_ahead_154 ?_
    refine s_callVi (C := mX12_byteAt) (As := [.int (μ2.1 a0 14)]) (rest := [.int (10 * (μ2.1 a0 15)), .int 100000, .ref (o_ad X a0)]) (L0 := [some (.ref (o_ad X a0)), some (.int (μ2.1 a0 14))]) hX h0 clX12_123 dX12_ahead_157 rfl rfl (Nat.le_of_ble_eq_true rfl) (Nat.le_of_ble_eq_true rfl) (dnX12_byteAt hX h0 (o_bdp h)) (fun r3 μ3 h => ?_)
    refine s_iadd dX12_ahead_160 ?_
    refine s_bipush dX12_ahead_161 kB_48 ?_
    refine s_isub dX12_ahead_163 ?_
    refine s_min mlX12_142 mst_min mini mco_min (Nat.le_of_ble_eq_true rfl) dX12_ahead_164 ?_
    refine s_putI hX h0 fwX12_129 rfl dX12_ahead_167 (o_gen h (fun μ4 h => ?_))
    refine s_aload_n (i := 0) dX12_ahead_170 rfl rfl ?_
    refine s_dup dX12_ahead_171 rfl ?_
    refine s_getI h0 flX12_120 rfl dX12_ahead_172 ?_
    refine s_iconst dX12_ahead_175 kI_1 ?_
    refine s_iadd dX12_ahead_176 ?_
    refine s_putI hX h0 fwX12_120 rfl dX12_ahead_177 (o_gen h (fun μ5 h => ?_))
    refine s_goto (tgt := 128) dX12_ahead_180 rfl ?_
    refine s_mask [true, false] (L' := [some (.ref (o_ad X a0)), none]) rfl ?_
    exact kh () _ (o_ret h)
set_option maxRecDepth 20000 in
theorem dnX12_ahead_j202 {X : o_Cx} (hX : o_ok X) {d : Nat} {b0 : Nat} {y1 : Int32} {μ0 : o_Mem} {q : Unit → o_Mem → Prop} (hb0 : o_is X b0 (.inl 12)) (h : o_Post (fX12_ahead_j202 (o_rf X) b0 y1 μ0) q) : o_Ev X (d + 1) mX12_ahead 202 [none, none] [.int y1, .ref (o_ad X b0)] μ0 (o_QU q) := by
  unfold fX12_ahead_j202 at h
  refine s_putI hX hb0 fwX12_132 rfl dX12_ahead_202 (o_gen h (fun μ1 h => ?_))
  refine s_goto (tgt := 251) dX12_ahead_205 rfl ?_
  exact s_return rfl dX12_ahead_251 ⟨rfl, o_ret h⟩
set_option maxRecDepth 20000 in
theorem dnX12_ahead_s81 {X : o_Cx} (hX : o_ok X) {d : Nat} {a0 : Nat} {τ81 : Unit} {μ0 : o_Mem} {K : (Nat × (Unit)) → o_Mem → Prop} {Q : Option Value → o_Mem → Prop} (h0 : o_is X a0 (.inl 12)) (h : o_Post (fX12_ahead_s81 (o_rf X) a0 τ81 μ0) K) (kh : ∀ (τ81 : Unit) (μ : o_Mem), K (81, τ81) μ → o_Ev X (d + 1) mX12_ahead 81 [some (.ref (o_ad X a0)), none] [] μ Q) (k108 : ∀ (τ81 : Unit) (μ : o_Mem), K (108, τ81) μ → o_Ev X (d + 1) mX12_ahead 108 [some (.ref (o_ad X a0)), none] [] μ Q) : o_Ev X (d + 1) mX12_ahead 81 [some (.ref (o_ad X a0)), none] [] μ0 Q := by
  unfold fX12_ahead_s81 at h
  refine s_aload_n (i := 0) dX12_ahead_81 rfl rfl ?_
  refine s_aload_n (i := 0) dX12_ahead_82 rfl rfl ?_
  refine s_getI h0 flX12_120 rfl dX12_ahead_83 ?_
  refine s_callVi (C := mX12_byteAt) (As := [.int (μ0.1 a0 14)]) (rest := []) (L0 := [some (.ref (o_ad X a0)), some (.int (μ0.1 a0 14))]) hX h0 clX12_123 dX12_ahead_86 rfl rfl (Nat.le_of_ble_eq_true rfl) (Nat.le_of_ble_eq_true rfl) (dnX12_byteAt hX h0 (o_bdp h)) (fun r1 μ1 h => ?_)
  refine s_callSz (C := mX12_isSmall) (As := [.int r1]) (rest := []) (L0 := [some (.int r1)]) clX12_135 dX12_ahead_89 rfl rfl (Nat.le_of_ble_eq_true rfl) (Nat.le_of_ble_eq_true rfl) (dnX12_isSmall hX  (o_bdp h)) (fun r2 μ2 zr2 h => ?_)
  refine s_if_eq (tgt := 108) dX12_ahead_92 rfl (fun c1 => ?_) (fun c1 => ?_)
  · have h := o_if_t c1 h
    refine s_mask [true, false] (L' := [some (.ref (o_ad X a0)), none]) rfl ?_
    exact k108 () _ (o_ret h)
  · have h := o_if_f c1 h
    refine s_aload_n (i := 0) dX12_ahead_95 rfl rfl ?_
    refine s_dup dX12_ahead_96 rfl ?_
    refine s_getI h0 flX12_120 rfl dX12_ahead_97 ?_
    refine s_iconst dX12_ahead_100 kI_1 ?_
    refine s_iadd dX12_ahead_101 ?_
    refine s_putI hX h0 fwX12_120 rfl dX12_ahead_102 (o_gen h (fun μ3 h => ?_))
    refine s_goto (tgt := 81) dX12_ahead_105 rfl ?_
    refine s_mask [true, false] (L' := [some (.ref (o_ad X a0)), none]) rfl ?_
    exact kh () _ (o_ret h)
set_option maxRecDepth 20000 in
theorem dnX12_ahead {X : o_Cx} (hX : o_ok X) {d : Nat} {a0 : Nat} {μ0 : o_Mem} {q : Unit → o_Mem → Prop} (h0 : o_is X a0 (.inl 12)) (h : o_Post (fX12_ahead (o_rf X) a0 μ0) q) : o_Ev X (d + 1) mX12_ahead 0 [some (.ref (o_ad X a0)), none] [] μ0 (o_QU q) := by
  unfold fX12_ahead at h
  refine s_mask [true, false] (L' := [some (.ref (o_ad X a0)), none]) rfl ?_
  refine o_lp_ev (fun τ0 => [some (.ref (o_ad X a0)), none]) (fun τ0 μ _K h kv ke0 => dnX12_ahead_s0 hX h0 h kv (fun τ0 μ1 h => ?_)) o_fuel () μ0 (o_bdp h)
  · have h := o_if_t rfl (ke0 (39, τ0) μ1 (o_ne rfl) h)
    refine s_aload_n (i := 0) dX12_ahead_39 rfl rfl ?_
    refine s_aload_n (i := 0) dX12_ahead_40 rfl rfl ?_
    refine s_getI h0 flX12_120 rfl dX12_ahead_41 ?_
    refine s_putI hX h0 fwX12_126 rfl dX12_ahead_44 (o_gen h (fun μ2 h => ?_))
    refine s_aload_n (i := 0) dX12_ahead_47 rfl rfl ?_
    refine s_aload_n (i := 0) dX12_ahead_48 rfl rfl ?_
    refine s_getI h0 flX12_120 rfl dX12_ahead_49 ?_
    refine s_callVi (C := mX12_byteAt) (As := [.int (μ2.1 a0 14)]) (rest := []) (L0 := [some (.ref (o_ad X a0)), some (.int (μ2.1 a0 14))]) hX h0 clX12_123 dX12_ahead_52 rfl rfl (Nat.le_of_ble_eq_true rfl) (Nat.le_of_ble_eq_true rfl) (dnX12_byteAt hX h0 (o_bdp h)) (fun r1 μ3 h => ?_)
    refine s_istore_n (i := 1) dX12_ahead_55 rfl (Nat.le_of_ble_eq_true rfl) rfl ?_
    refine s_aload_n (i := 0) dX12_ahead_56 rfl rfl ?_
    refine s_iload_n (i := 1) dX12_ahead_57 rfl rfl ?_
    refine s_putI hX h0 fwX12_129 rfl dX12_ahead_58 (o_gen h (fun μ4 h => ?_))
    refine s_iload_n (i := 1) dX12_ahead_61 rfl rfl ?_
    refine s_iconst dX12_ahead_62 kI_m1 ?_
    refine s_icmp_ne (tgt := 74) dX12_ahead_63 rfl (fun c1 => ?_) (fun c1 => ?_)
    · have h := o_if_f c1 h
      refine s_iload_n (i := 1) dX12_ahead_74 rfl rfl ?_
      refine s_callSz (C := mX12_isSmall) (As := [.int r1]) (rest := []) (L0 := [some (.int r1)]) clX12_135 dX12_ahead_75 rfl rfl (Nat.le_of_ble_eq_true rfl) (Nat.le_of_ble_eq_true rfl) (dnX12_isSmall hX  (o_bdp h)) (fun r2 μ5 zr2 h => ?_)
      refine s_if_eq (tgt := 116) dX12_ahead_78 rfl (fun c1 => ?_) (fun c1 => ?_)
      · have h := o_if_t c1 h
        refine s_iload_n (i := 1) dX12_ahead_116 rfl rfl ?_
        refine s_callSz (C := mX12_isDigit) (As := [.int r1]) (rest := []) (L0 := [some (.int r1)]) clX12_138 dX12_ahead_117 rfl rfl (Nat.le_of_ble_eq_true rfl) (Nat.le_of_ble_eq_true rfl) (dnX12_isDigit hX  (o_bdp h)) (fun r3 μ6 zr3 h => ?_)
        refine s_if_eq (tgt := 208) dX12_ahead_120 rfl (fun c1 => ?_) (fun c1 => ?_)
        · have h := o_if_t c1 h
          refine s_aload_n (i := 0) dX12_ahead_208 rfl rfl ?_
          refine s_dup dX12_ahead_209 rfl ?_
          refine s_getI h0 flX12_120 rfl dX12_ahead_210 ?_
          refine s_iconst dX12_ahead_213 kI_1 ?_
          refine s_iadd dX12_ahead_214 ?_
          refine s_putI hX h0 fwX12_120 rfl dX12_ahead_215 (o_gen h (fun μ7 h => ?_))
          refine s_aload_n (i := 0) dX12_ahead_218 rfl rfl ?_
          refine s_iload_n (i := 1) dX12_ahead_219 rfl rfl ?_
          refine s_bipush dX12_ahead_220 kB_59 ?_
          refine s_icmp_eq (tgt := 243) dX12_ahead_222 rfl (fun c1 => ?_) (fun c1 => ?_)
          · have h := o_if_t c1 h
            refine s_mask [false, false] (L' := [none, none]) rfl ?_
            exact dnX12_ahead_j243 hX h0 h
          · have h := o_if_f c1 h
            refine s_iload_n (i := 1) dX12_ahead_225 rfl rfl ?_
            refine s_bipush dX12_ahead_226 kB_60 ?_
            refine s_icmp_eq (tgt := 243) dX12_ahead_228 rfl (fun c1 => ?_) (fun c1 => ?_)
            · have h := o_if_t c1 h
              refine s_mask [false, false] (L' := [none, none]) rfl ?_
              exact dnX12_ahead_j243 hX h0 h
            · have h := o_if_f c1 h
              refine s_iload_n (i := 1) dX12_ahead_231 rfl rfl ?_
              refine s_bipush dX12_ahead_232 kB_62 ?_
              refine s_icmp_eq (tgt := 243) dX12_ahead_234 rfl (fun c1 => ?_) (fun c1 => ?_)
              · have h := o_if_t c1 h
                refine s_mask [false, false] (L' := [none, none]) rfl ?_
                exact dnX12_ahead_j243 hX h0 h
              · have h := o_if_f c1 h
                refine s_iload_n (i := 1) dX12_ahead_237 rfl rfl ?_
                refine s_bipush dX12_ahead_238 kB_61 ?_
                refine s_icmp_ne (tgt := 247) dX12_ahead_240 rfl (fun c1 => ?_) (fun c1 => ?_)
                · have h := o_if_f c1 h
                  refine s_iconst dX12_ahead_247 kI_1 ?_
                  refine s_mask [false, false] (L' := [none, none]) rfl ?_
                  exact dnX12_ahead_j248 hX h0 h
                · have h := o_if_t c1 h
                  refine s_mask [false, false] (L' := [none, none]) rfl ?_
                  exact dnX12_ahead_j243 hX h0 h
        · have h := o_if_f c1 h
          refine s_aload_n (i := 0) dX12_ahead_123 rfl rfl ?_
          refine s_iconst dX12_ahead_124 kI_0 ?_
          refine s_putI hX h0 fwX12_129 rfl dX12_ahead_125 (o_gen h (fun μ8 h => ?_))
          refine s_mask [true, false] (L' := [some (.ref (o_ad X a0)), none]) rfl ?_
          refine o_lp_ev (fun τ128 => [some (.ref (o_ad X a0)), none]) (fun τ128 μ _K h kv ke128 => dnX12_ahead_s128 hX h0 h kv (fun τ128 μ9 h => ?_)) o_fuel () μ8 (o_bdp h)
          · have h := o_if_t rfl (ke128 (183, τ128) μ9 (o_ne rfl) h)
            refine s_aload_n (i := 0) dX12_ahead_183 rfl rfl ?_
            refine s_aload_n (i := 0) dX12_ahead_184 rfl rfl ?_
            refine s_getI h0 flX12_120 rfl dX12_ahead_185 ?_
            refine s_aload_n (i := 0) dX12_ahead_188 rfl rfl ?_
            refine s_getI h0 flX12_126 rfl dX12_ahead_189 ?_
            refine s_isub dX12_ahead_192 ?_
            refine s_iconst dX12_ahead_193 kI_4 ?_
            refine s_icmp_le (tgt := 201) dX12_ahead_194 rfl (fun c1 => ?_) (fun c1 => ?_)
            · have h := o_if_t c1 h
              refine s_iconst dX12_ahead_201 kI_3 ?_
              refine s_mask [false, false] (L' := [none, none]) rfl ?_
              exact dnX12_ahead_j202 hX h0 h
            · have h := o_if_f c1 h
              refine s_iconst dX12_ahead_197 kI_1 ?_
              refine s_goto (tgt := 202) dX12_ahead_198 rfl ?_
              refine s_mask [false, false] (L' := [none, none]) rfl ?_
              exact dnX12_ahead_j202 hX h0 h
      · have h := o_if_f c1 h
        refine s_mask [true, false] (L' := [some (.ref (o_ad X a0)), none]) rfl ?_
        refine o_lp_ev (fun τ81 => [some (.ref (o_ad X a0)), none]) (fun τ81 μ _K h kv ke81 => dnX12_ahead_s81 hX h0 h kv (fun τ81 μ10 h => ?_)) o_fuel () μ5 (o_bdp h)
        · have h := o_if_t rfl (ke81 (108, τ81) μ10 (o_ne rfl) h)
          refine s_aload_n (i := 0) dX12_ahead_108 rfl rfl ?_
          refine s_iconst dX12_ahead_109 kI_2 ?_
          refine s_putI hX h0 fwX12_132 rfl dX12_ahead_110 (o_gen h (fun μ11 h => ?_))
          refine s_goto (tgt := 251) dX12_ahead_113 rfl ?_
          exact s_return rfl dX12_ahead_251 ⟨rfl, o_ret h⟩
    · have h := o_if_t c1 h
      refine s_aload_n (i := 0) dX12_ahead_66 rfl rfl ?_
      refine s_iconst dX12_ahead_67 kI_0 ?_
      refine s_putI hX h0 fwX12_132 rfl dX12_ahead_68 (o_gen h (fun μ12 h => ?_))
      refine s_goto (tgt := 251) dX12_ahead_71 rfl ?_
      exact s_return rfl dX12_ahead_251 ⟨rfl, o_ret h⟩
theorem dX12_isSign_0 : decode cX12_isSign 0 = .ok (.aload_n 0, 1) := by decide +kernel
theorem dX12_isSign_1 : decode cX12_isSign 1 = .ok (.getfield 132, 3) := by decide +kernel
theorem dX12_isSign_4 : decode cX12_isSign 4 = .ok (.iconst 4, 1) := by decide +kernel
theorem dX12_isSign_5 : decode cX12_isSign 5 = .ok (.if_icmp .ne 15, 3) := by decide +kernel
theorem dX12_isSign_8 : decode cX12_isSign 8 = .ok (.aload_n 0, 1) := by decide +kernel
theorem dX12_isSign_9 : decode cX12_isSign 9 = .ok (.getfield 129, 3) := by decide +kernel
theorem dX12_isSign_12 : decode cX12_isSign 12 = .ok (.iload_n 1, 1) := by decide +kernel
theorem dX12_isSign_13 : decode cX12_isSign 13 = .ok (.if_icmp .ne 7, 3) := by decide +kernel
theorem dX12_isSign_16 : decode cX12_isSign 16 = .ok (.iconst 1, 1) := by decide +kernel
theorem dX12_isSign_17 : decode cX12_isSign 17 = .ok (.goto 4, 3) := by decide +kernel
theorem dX12_isSign_20 : decode cX12_isSign 20 = .ok (.iconst 0, 1) := by decide +kernel
theorem dX12_isSign_21 : decode cX12_isSign 21 = .ok (.ireturn, 1) := by decide +kernel
noncomputable def fX12_isSign (rf : Nat → Nat → Nat) (a0 : Nat) (x1 : Int32) (μ0 : o_Mem) : Option (Int32 × o_Mem) :=
  if (μ0.1 a0 12) = 4 then (
    if (μ0.1 a0 15) = x1 then (
      some (1, μ0))
    else (
      some (0, μ0)))
  else (
    some (0, μ0))
set_option maxRecDepth 20000 in
theorem dnX12_isSign {X : o_Cx} (hX : o_ok X) {d : Nat} {a0 : Nat} {x1 : Int32} {μ0 : o_Mem} {q : Int32 → o_Mem → Prop} (h0 : o_is X a0 (.inl 12)) (h : o_Post (fX12_isSign (o_rf X) a0 x1 μ0) q) : o_Ev X (d + 0) mX12_isSign 0 [some (.ref (o_ad X a0)), some (.int x1)] [] μ0 (o_QZ q) := by
  unfold fX12_isSign at h
  refine s_aload_n (i := 0) dX12_isSign_0 rfl rfl ?_
  refine s_getI h0 flX12_132 rfl dX12_isSign_1 ?_
  refine s_iconst dX12_isSign_4 kI_4 ?_
  refine s_icmp_ne (tgt := 20) dX12_isSign_5 rfl (fun c1 => ?_) (fun c1 => ?_)
  · have h := o_if_f c1 h
    refine s_iconst dX12_isSign_20 kI_0 ?_
    exact s_zreturn rfl (Or.inl rfl) dX12_isSign_21 ⟨_, rfl, (Or.inl rfl), o_ret h⟩
  · have h := o_if_t c1 h
    refine s_aload_n (i := 0) dX12_isSign_8 rfl rfl ?_
    refine s_getI h0 flX12_129 rfl dX12_isSign_9 ?_
    refine s_iload_n (i := 1) dX12_isSign_12 rfl rfl ?_
    refine s_icmp_ne (tgt := 20) dX12_isSign_13 rfl (fun c1 => ?_) (fun c1 => ?_)
    · have h := o_if_f c1 h
      refine s_iconst dX12_isSign_20 kI_0 ?_
      exact s_zreturn rfl (Or.inl rfl) dX12_isSign_21 ⟨_, rfl, (Or.inl rfl), o_ret h⟩
    · have h := o_if_t c1 h
      refine s_iconst dX12_isSign_16 kI_1 ?_
      refine s_goto (tgt := 21) dX12_isSign_17 rfl ?_
      exact s_zreturn rfl (Or.inr rfl) dX12_isSign_21 ⟨_, rfl, (Or.inr rfl), o_ret h⟩
theorem dX12_inWords_0 : decode cX12_inWords 0 = .ok (.aload_n 0, 1) := by decide +kernel
theorem dX12_inWords_1 : decode cX12_inWords 1 = .ok (.getfield 132, 3) := by decide +kernel
theorem dX12_inWords_4 : decode cX12_inWords 4 = .ok (.iconst 2, 1) := by decide +kernel
theorem dX12_inWords_5 : decode cX12_inWords 5 = .ok (.if_icmp .eq 5, 3) := by decide +kernel
theorem dX12_inWords_8 : decode cX12_inWords 8 = .ok (.iconst (-1), 1) := by decide +kernel
theorem dX12_inWords_9 : decode cX12_inWords 9 = .ok (.ireturn, 1) := by decide +kernel
theorem dX12_inWords_10 : decode cX12_inWords 10 = .ok (.iconst 0, 1) := by decide +kernel
theorem dX12_inWords_11 : decode cX12_inWords 11 = .ok (.istore_n 2, 1) := by decide +kernel
theorem dX12_inWords_12 : decode cX12_inWords 12 = .ok (.iconst 1, 1) := by decide +kernel
theorem dX12_inWords_13 : decode cX12_inWords 13 = .ok (.istore_n 3, 1) := by decide +kernel
theorem dX12_inWords_14 : decode cX12_inWords 14 = .ok (.iload_n 3, 1) := by decide +kernel
theorem dX12_inWords_15 : decode cX12_inWords 15 = .ok (.aload_n 1, 1) := by decide +kernel
theorem dX12_inWords_16 : decode cX12_inWords 16 = .ok (.invokevirtual 147, 3) := by decide +kernel
theorem dX12_inWords_19 : decode cX12_inWords 19 = .ok (.if_icmp .ge 114, 3) := by decide +kernel
theorem dX12_inWords_22 : decode cX12_inWords 22 = .ok (.iload_n 3, 1) := by decide +kernel
theorem dX12_inWords_23 : decode cX12_inWords 23 = .ok (.istore 4, 2) := by decide +kernel
theorem dX12_inWords_25 : decode cX12_inWords 25 = .ok (.aload_n 1, 1) := by decide +kernel
theorem dX12_inWords_26 : decode cX12_inWords 26 = .ok (.iload 4, 2) := by decide +kernel
theorem dX12_inWords_28 : decode cX12_inWords 28 = .ok (.invokevirtual 153, 3) := by decide +kernel
theorem dX12_inWords_31 : decode cX12_inWords 31 = .ok (.bipush 32, 2) := by decide +kernel
theorem dX12_inWords_33 : decode cX12_inWords 33 = .ok (.if_icmp .eq 9, 3) := by decide +kernel
theorem dX12_inWords_36 : decode cX12_inWords 36 = .ok (.iinc 4 1, 3) := by decide +kernel
theorem dX12_inWords_39 : decode cX12_inWords 39 = .ok (.goto (-14), 3) := by decide +kernel
theorem dX12_inWords_42 : decode cX12_inWords 42 = .ok (.iload 4, 2) := by decide +kernel
theorem dX12_inWords_44 : decode cX12_inWords 44 = .ok (.iload_n 3, 1) := by decide +kernel
theorem dX12_inWords_45 : decode cX12_inWords 45 = .ok (.isub, 1) := by decide +kernel
theorem dX12_inWords_46 : decode cX12_inWords 46 = .ok (.aload_n 0, 1) := by decide +kernel
theorem dX12_inWords_47 : decode cX12_inWords 47 = .ok (.getfield 120, 3) := by decide +kernel
theorem dX12_inWords_50 : decode cX12_inWords 50 = .ok (.aload_n 0, 1) := by decide +kernel
theorem dX12_inWords_51 : decode cX12_inWords 51 = .ok (.getfield 126, 3) := by decide +kernel
theorem dX12_inWords_54 : decode cX12_inWords 54 = .ok (.isub, 1) := by decide +kernel
theorem dX12_inWords_55 : decode cX12_inWords 55 = .ok (.if_icmp .ne 7, 3) := by decide +kernel
theorem dX12_inWords_58 : decode cX12_inWords 58 = .ok (.iconst 1, 1) := by decide +kernel
theorem dX12_inWords_59 : decode cX12_inWords 59 = .ok (.goto 4, 3) := by decide +kernel
theorem dX12_inWords_62 : decode cX12_inWords 62 = .ok (.iconst 0, 1) := by decide +kernel
theorem dX12_inWords_63 : decode cX12_inWords 63 = .ok (.istore 5, 2) := by decide +kernel
theorem dX12_inWords_65 : decode cX12_inWords 65 = .ok (.iload_n 3, 1) := by decide +kernel
theorem dX12_inWords_66 : decode cX12_inWords 66 = .ok (.istore 6, 2) := by decide +kernel
theorem dX12_inWords_68 : decode cX12_inWords 68 = .ok (.iload 6, 2) := by decide +kernel
theorem dX12_inWords_70 : decode cX12_inWords 70 = .ok (.iload 4, 2) := by decide +kernel
theorem dX12_inWords_72 : decode cX12_inWords 72 = .ok (.if_icmp .ge 43, 3) := by decide +kernel
theorem dX12_inWords_75 : decode cX12_inWords 75 = .ok (.iload 5, 2) := by decide +kernel
theorem dX12_inWords_77 : decode cX12_inWords 77 = .ok (.ifCond .eq 38, 3) := by decide +kernel
theorem dX12_inWords_80 : decode cX12_inWords 80 = .ok (.aload_n 1, 1) := by decide +kernel
theorem dX12_inWords_81 : decode cX12_inWords 81 = .ok (.iload 6, 2) := by decide +kernel
theorem dX12_inWords_83 : decode cX12_inWords 83 = .ok (.invokevirtual 153, 3) := by decide +kernel
theorem dX12_inWords_86 : decode cX12_inWords 86 = .ok (.aload_n 0, 1) := by decide +kernel
theorem dX12_inWords_87 : decode cX12_inWords 87 = .ok (.aload_n 0, 1) := by decide +kernel
theorem dX12_inWords_88 : decode cX12_inWords 88 = .ok (.getfield 126, 3) := by decide +kernel
theorem dX12_inWords_91 : decode cX12_inWords 91 = .ok (.iload 6, 2) := by decide +kernel
theorem dX12_inWords_93 : decode cX12_inWords 93 = .ok (.iadd, 1) := by decide +kernel
theorem dX12_inWords_94 : decode cX12_inWords 94 = .ok (.iload_n 3, 1) := by decide +kernel
theorem dX12_inWords_95 : decode cX12_inWords 95 = .ok (.isub, 1) := by decide +kernel
theorem dX12_inWords_96 : decode cX12_inWords 96 = .ok (.invokevirtual 123, 3) := by decide +kernel
theorem dX12_inWords_99 : decode cX12_inWords 99 = .ok (.if_icmp .ne 7, 3) := by decide +kernel
theorem dX12_inWords_102 : decode cX12_inWords 102 = .ok (.iconst 1, 1) := by decide +kernel
theorem dX12_inWords_103 : decode cX12_inWords 103 = .ok (.goto 4, 3) := by decide +kernel
theorem dX12_inWords_106 : decode cX12_inWords 106 = .ok (.iconst 0, 1) := by decide +kernel
theorem dX12_inWords_107 : decode cX12_inWords 107 = .ok (.istore 5, 2) := by decide +kernel
theorem dX12_inWords_109 : decode cX12_inWords 109 = .ok (.iinc 6 1, 3) := by decide +kernel
theorem dX12_inWords_112 : decode cX12_inWords 112 = .ok (.goto (-44), 3) := by decide +kernel
theorem dX12_inWords_115 : decode cX12_inWords 115 = .ok (.iload 5, 2) := by decide +kernel
theorem dX12_inWords_117 : decode cX12_inWords 117 = .ok (.ifCond .eq 5, 3) := by decide +kernel
theorem dX12_inWords_120 : decode cX12_inWords 120 = .ok (.iload_n 2, 1) := by decide +kernel
theorem dX12_inWords_121 : decode cX12_inWords 121 = .ok (.ireturn, 1) := by decide +kernel
theorem dX12_inWords_122 : decode cX12_inWords 122 = .ok (.iinc 2 1, 3) := by decide +kernel
theorem dX12_inWords_125 : decode cX12_inWords 125 = .ok (.iload 4, 2) := by decide +kernel
theorem dX12_inWords_127 : decode cX12_inWords 127 = .ok (.iconst 1, 1) := by decide +kernel
theorem dX12_inWords_128 : decode cX12_inWords 128 = .ok (.iadd, 1) := by decide +kernel
theorem dX12_inWords_129 : decode cX12_inWords 129 = .ok (.istore_n 3, 1) := by decide +kernel
theorem dX12_inWords_130 : decode cX12_inWords 130 = .ok (.goto (-116), 3) := by decide +kernel
theorem dX12_inWords_133 : decode cX12_inWords 133 = .ok (.iconst (-1), 1) := by decide +kernel
theorem dX12_inWords_134 : decode cX12_inWords 134 = .ok (.ireturn, 1) := by decide +kernel
noncomputable def fX12_inWords_s25 (rf : Nat → Nat → Nat) (a0 : Nat) (x2 : Int32) (x3 : Int32) (τ25 : Int32) (μ0 : o_Mem) : Option ((Nat × (Int32)) × o_Mem) :=
  o_ck (0 ≤ (τ25).toInt ∧ (τ25).toInt < (o_ln 1).toInt) <|
  if (o_chr 1 (τ25).toNatClampNeg) = 32 then (
    some ((42, τ25), μ0))
  else (
    some ((25, (τ25 + 1)), μ0))
noncomputable def fX12_inWords_s68 (rf : Nat → Nat → Nat) (a0 : Nat) (x2 : Int32) (x3 : Int32) (x4 : Int32) (τ68 : Int32 × Int32) (μ0 : o_Mem) : Option ((Nat × (Int32 × Int32)) × o_Mem) :=
  if x4 ≤ τ68.2 then (
    some ((115, (τ68.1, 0)), μ0))
  else (
    if τ68.1 = 0 then (
      some ((115, (τ68.1, 0)), μ0))
    else (
      o_ck (0 ≤ (τ68.2).toInt ∧ (τ68.2).toInt < (o_ln 1).toInt) <|
      o_bd (fX12_byteAt rf a0 (((μ0.1 a0 13) + τ68.2) - x3) μ0) fun r1 μ1 =>
      if (o_chr 1 (τ68.2).toNatClampNeg) = r1 then (
        some ((68, (1, (τ68.2 + 1))), μ1))
      else (
        some ((68, (0, (τ68.2 + 1))), μ1))))
noncomputable def fX12_inWords_j115 (rf : Nat → Nat → Nat) (a0 : Nat) (x2 : Int32) (x4 : Int32) (x5 : Int32) (μ0 : o_Mem) : Option ((Nat × (Int32 × Int32)) × o_Mem) :=
  if x5 = 0 then (
    some ((14, ((x2 + 1), (x4 + 1))), μ0))
  else (
    some ((120, (x2, 0)), μ0))
noncomputable def fX12_inWords_s14 (rf : Nat → Nat → Nat) (a0 : Nat) (τ14 : Int32 × Int32) (μ0 : o_Mem) : Option ((Nat × (Int32 × Int32)) × o_Mem) :=
  if (o_ln 1) ≤ τ14.2 then (
    some ((133, (0, 0)), μ0))
  else (
    o_bd (o_lp 25 (fX12_inWords_s25 rf a0 τ14.1 τ14.2) o_fuel (τ14.2 : Int32) μ0) fun ex1 μ1 =>
    if ex1.1 = 42 then (
      if (ex1.2 - τ14.2) = ((μ1.1 a0 14) - (μ1.1 a0 13)) then (
        o_bd (o_lp 68 (fX12_inWords_s68 rf a0 τ14.1 τ14.2 ex1.2) o_fuel (1, τ14.2) μ1) fun ex3 μ3 =>
        if ex3.1 = 115 then (
          fX12_inWords_j115 rf a0 τ14.1 ex1.2 ex3.2.1 μ3)
        else
          none)
      else (
        o_bd (o_lp 68 (fX12_inWords_s68 rf a0 τ14.1 τ14.2 ex1.2) o_fuel (0, τ14.2) μ1) fun ex2 μ2 =>
        if ex2.1 = 115 then (
          fX12_inWords_j115 rf a0 τ14.1 ex1.2 ex2.2.1 μ2)
        else
          none))
    else
      none)
noncomputable def fX12_inWords (rf : Nat → Nat → Nat) (a0 : Nat) (μ0 : o_Mem) : Option (Int32 × o_Mem) :=
  if (μ0.1 a0 12) = 2 then (
    o_bd (o_lp 14 (fX12_inWords_s14 rf a0) o_fuel (0, 1) μ0) fun ex1 μ1 =>
    if ex1.1 = 120 then (
      some (ex1.2.1, μ1))
    else
    if ex1.1 = 133 then (
      some ((-1), μ1))
    else
      none)
  else (
    some ((-1), μ0))
set_option maxRecDepth 20000 in
theorem dnX12_inWords_s25 {X : o_Cx} (hX : o_ok X) {d : Nat} {a0 : Nat} {x2 : Int32} {x3 : Int32} {τ25 : Int32} {μ0 : o_Mem} {K : (Nat × (Int32)) → o_Mem → Prop} {Q : Option Value → o_Mem → Prop} (h0 : o_is X a0 (.inl 12)) (h : o_Post (fX12_inWords_s25 (o_rf X) a0 x2 x3 τ25 μ0) K) (kh : ∀ (τ25 : Int32) (μ : o_Mem), K (25, τ25) μ → o_Ev X (d + 4) mX12_inWords 25 [some (.ref (o_ad X a0)), some (.ref (o_aK X 1)), some (.int x2), some (.int x3), some (.int τ25), none, none] [] μ Q) (k42 : ∀ (τ25 : Int32) (μ : o_Mem), K (42, τ25) μ → o_Ev X (d + 4) mX12_inWords 42 [some (.ref (o_ad X a0)), some (.ref (o_aK X 1)), some (.int x2), some (.int x3), some (.int τ25), none, none] [] μ Q) : o_Ev X (d + 4) mX12_inWords 25 [some (.ref (o_ad X a0)), some (.ref (o_aK X 1)), some (.int x2), some (.int x3), some (.int τ25), none, none] [] μ0 Q := by
  unfold fX12_inWords_s25 at h
  refine s_aload_n (i := 1) dX12_inWords_25 rfl rfl ?_
  refine s_iload dX12_inWords_26 rfl ?_
  have hc := o_ck_c h
  have h := o_ck_k h
  refine s_charAt1 (rest := []) mlX12_153 hc (Nat.le_of_ble_eq_true rfl) dX12_inWords_28 ?_
  refine s_bipush dX12_inWords_31 kB_32 ?_
  refine s_icmp_eq (tgt := 42) dX12_inWords_33 rfl (fun c1 => ?_) (fun c1 => ?_)
  · have h := o_if_t c1 h
    refine s_mask [true, true, true, true, true, false, false] (L' := [some (.ref (o_ad X a0)), some (.ref (o_aK X 1)), some (.int x2), some (.int x3), some (.int τ25), none, none]) rfl ?_
    exact k42 τ25 _ (o_ret h)
  · have h := o_if_f c1 h
    refine s_iinc (v := (τ25 + 1)) dX12_inWords_36 rfl rfl (Nat.le_of_ble_eq_true rfl) rfl ?_
    refine s_goto (tgt := 25) dX12_inWords_39 rfl ?_
    refine s_mask [true, true, true, true, true, false, false] (L' := [some (.ref (o_ad X a0)), some (.ref (o_aK X 1)), some (.int x2), some (.int x3), some (.int (τ25 + 1)), none, none]) rfl ?_
    exact kh (τ25 + 1) _ (o_ret h)
set_option maxRecDepth 20000 in
theorem dnX12_inWords_s68 {X : o_Cx} (hX : o_ok X) {d : Nat} {a0 : Nat} {x2 : Int32} {x3 : Int32} {x4 : Int32} {τ68 : Int32 × Int32} {μ0 : o_Mem} {K : (Nat × (Int32 × Int32)) → o_Mem → Prop} {Q : Option Value → o_Mem → Prop} (h0 : o_is X a0 (.inl 12)) (h : o_Post (fX12_inWords_s68 (o_rf X) a0 x2 x3 x4 τ68 μ0) K) (kh : ∀ (τ68 : Int32 × Int32) (μ : o_Mem), K (68, τ68) μ → o_Ev X (d + 4) mX12_inWords 68 [some (.ref (o_ad X a0)), some (.ref (o_aK X 1)), some (.int x2), some (.int x3), some (.int x4), some (.int τ68.1), some (.int τ68.2)] [] μ Q) (k115 : ∀ (τ68 : Int32 × Int32) (μ : o_Mem), K (115, τ68) μ → o_Ev X (d + 4) mX12_inWords 115 [some (.ref (o_ad X a0)), some (.ref (o_aK X 1)), some (.int x2), none, some (.int x4), some (.int τ68.1), none] [] μ Q) : o_Ev X (d + 4) mX12_inWords 68 [some (.ref (o_ad X a0)), some (.ref (o_aK X 1)), some (.int x2), some (.int x3), some (.int x4), some (.int τ68.1), some (.int τ68.2)] [] μ0 Q := by
  unfold fX12_inWords_s68 at h
  refine s_iload dX12_inWords_68 rfl ?_
  refine s_iload dX12_inWords_70 rfl ?_
  refine s_icmp_ge (tgt := 115) dX12_inWords_72 rfl (fun c1 => ?_) (fun c1 => ?_)
  · have h := o_if_t c1 h
    refine s_mask [true, true, true, false, true, true, false] (L' := [some (.ref (o_ad X a0)), some (.ref (o_aK X 1)), some (.int x2), none, some (.int x4), some (.int τ68.1), none]) rfl ?_
    exact k115 (τ68.1, 0) _ (o_ret h)
  · have h := o_if_f c1 h
    refine s_iload dX12_inWords_75 rfl ?_
    refine s_if_eq (tgt := 115) dX12_inWords_77 rfl (fun c1 => ?_) (fun c1 => ?_)
    · have h := o_if_t c1 h
      refine s_mask [true, true, true, false, true, true, false] (L' := [some (.ref (o_ad X a0)), some (.ref (o_aK X 1)), some (.int x2), none, some (.int x4), some (.int τ68.1), none]) rfl ?_
      exact k115 (τ68.1, 0) _ (o_ret h)
    · have h := o_if_f c1 h
      refine s_aload_n (i := 1) dX12_inWords_80 rfl rfl ?_
      refine s_iload dX12_inWords_81 rfl ?_
      have hc := o_ck_c h
      have h := o_ck_k h
      refine s_charAt1 (rest := []) mlX12_153 hc (Nat.le_of_ble_eq_true rfl) dX12_inWords_83 ?_
      refine s_aload_n (i := 0) dX12_inWords_86 rfl rfl ?_
      refine s_aload_n (i := 0) dX12_inWords_87 rfl rfl ?_
      refine s_getI h0 flX12_126 rfl dX12_inWords_88 ?_
      refine s_iload dX12_inWords_91 rfl ?_
      refine s_iadd dX12_inWords_93 ?_
      refine s_iload_n (i := 3) dX12_inWords_94 rfl rfl ?_
      refine s_isub dX12_inWords_95 ?_
      refine s_callVi (C := mX12_byteAt) (As := [.int (((μ0.1 a0 13) + τ68.2) - x3)]) (rest := [.int (o_chr 1 (τ68.2).toNatClampNeg)]) (L0 := [some (.ref (o_ad X a0)), some (.int (((μ0.1 a0 13) + τ68.2) - x3))]) hX h0 clX12_123 dX12_inWords_96 rfl rfl (Nat.le_of_ble_eq_true rfl) (Nat.le_of_ble_eq_true rfl) (dnX12_byteAt hX h0 (o_bdp h)) (fun r1 μ1 h => ?_)
      refine s_icmp_ne (tgt := 106) dX12_inWords_99 rfl (fun c1 => ?_) (fun c1 => ?_)
      · have h := o_if_f c1 h
        refine s_iconst dX12_inWords_106 kI_0 ?_
        refine s_istore dX12_inWords_107 (Nat.le_of_ble_eq_true rfl) rfl ?_
        refine s_iinc (v := (τ68.2 + 1)) dX12_inWords_109 rfl rfl (Nat.le_of_ble_eq_true rfl) rfl ?_
        refine s_goto (tgt := 68) dX12_inWords_112 rfl ?_
        refine s_mask [true, true, true, true, true, true, true] (L' := [some (.ref (o_ad X a0)), some (.ref (o_aK X 1)), some (.int x2), some (.int x3), some (.int x4), some (.int 0), some (.int (τ68.2 + 1))]) rfl ?_
        exact kh (0, (τ68.2 + 1)) _ (o_ret h)
      · have h := o_if_t c1 h
        refine s_iconst dX12_inWords_102 kI_1 ?_
        refine s_goto (tgt := 107) dX12_inWords_103 rfl ?_
        refine s_istore dX12_inWords_107 (Nat.le_of_ble_eq_true rfl) rfl ?_
        refine s_iinc (v := (τ68.2 + 1)) dX12_inWords_109 rfl rfl (Nat.le_of_ble_eq_true rfl) rfl ?_
        refine s_goto (tgt := 68) dX12_inWords_112 rfl ?_
        refine s_mask [true, true, true, true, true, true, true] (L' := [some (.ref (o_ad X a0)), some (.ref (o_aK X 1)), some (.int x2), some (.int x3), some (.int x4), some (.int 1), some (.int (τ68.2 + 1))]) rfl ?_
        exact kh (1, (τ68.2 + 1)) _ (o_ret h)
set_option maxRecDepth 20000 in
theorem dnX12_inWords_j115 {X : o_Cx} (hX : o_ok X) {d : Nat} {a0 : Nat} {x2 : Int32} {x4 : Int32} {x5 : Int32} {μ0 : o_Mem} {K : (Nat × (Int32 × Int32)) → o_Mem → Prop} {Q : Option Value → o_Mem → Prop} (h0 : o_is X a0 (.inl 12)) (h : o_Post (fX12_inWords_j115 (o_rf X) a0 x2 x4 x5 μ0) K) (kh : ∀ (τ14 : Int32 × Int32) (μ : o_Mem), K (14, τ14) μ → o_Ev X (d + 4) mX12_inWords 14 [some (.ref (o_ad X a0)), some (.ref (o_aK X 1)), some (.int τ14.1), some (.int τ14.2), none, none, none] [] μ Q) (k120 : ∀ (τ14 : Int32 × Int32) (μ : o_Mem), K (120, τ14) μ → o_Ev X (d + 4) mX12_inWords 120 [none, none, some (.int τ14.1), none, none, none, none] [] μ Q) (k133 : ∀ (τ14 : Int32 × Int32) (μ : o_Mem), K (133, τ14) μ → o_Ev X (d + 4) mX12_inWords 133 [none, none, none, none, none, none, none] [] μ Q) : o_Ev X (d + 4) mX12_inWords 115 [some (.ref (o_ad X a0)), some (.ref (o_aK X 1)), some (.int x2), none, some (.int x4), some (.int x5), none] [] μ0 Q := by
  unfold fX12_inWords_j115 at h
  refine s_iload dX12_inWords_115 rfl ?_
  refine s_if_eq (tgt := 122) dX12_inWords_117 rfl (fun c1 => ?_) (fun c1 => ?_)
  · have h := o_if_t c1 h
    refine s_iinc (v := (x2 + 1)) dX12_inWords_122 rfl rfl (Nat.le_of_ble_eq_true rfl) rfl ?_
    refine s_iload dX12_inWords_125 rfl ?_
    refine s_iconst dX12_inWords_127 kI_1 ?_
    refine s_iadd dX12_inWords_128 ?_
    refine s_istore_n (i := 3) dX12_inWords_129 rfl (Nat.le_of_ble_eq_true rfl) rfl ?_
    refine s_goto (tgt := 14) dX12_inWords_130 rfl ?_
    refine s_mask [true, true, true, true, false, false, false] (L' := [some (.ref (o_ad X a0)), some (.ref (o_aK X 1)), some (.int (x2 + 1)), some (.int (x4 + 1)), none, none, none]) rfl ?_
    exact kh ((x2 + 1), (x4 + 1)) _ (o_ret h)
  · have h := o_if_f c1 h
    refine s_mask [false, false, true, false, false, false, false] (L' := [none, none, some (.int x2), none, none, none, none]) rfl ?_
    exact k120 (x2, 0) _ (o_ret h)
set_option maxRecDepth 20000 in
theorem dnX12_inWords_s14 {X : o_Cx} (hX : o_ok X) {d : Nat} {a0 : Nat} {τ14 : Int32 × Int32} {μ0 : o_Mem} {K : (Nat × (Int32 × Int32)) → o_Mem → Prop} {Q : Option Value → o_Mem → Prop} (h0 : o_is X a0 (.inl 12)) (h : o_Post (fX12_inWords_s14 (o_rf X) a0 τ14 μ0) K) (kh : ∀ (τ14 : Int32 × Int32) (μ : o_Mem), K (14, τ14) μ → o_Ev X (d + 4) mX12_inWords 14 [some (.ref (o_ad X a0)), some (.ref (o_aK X 1)), some (.int τ14.1), some (.int τ14.2), none, none, none] [] μ Q) (k120 : ∀ (τ14 : Int32 × Int32) (μ : o_Mem), K (120, τ14) μ → o_Ev X (d + 4) mX12_inWords 120 [none, none, some (.int τ14.1), none, none, none, none] [] μ Q) (k133 : ∀ (τ14 : Int32 × Int32) (μ : o_Mem), K (133, τ14) μ → o_Ev X (d + 4) mX12_inWords 133 [none, none, none, none, none, none, none] [] μ Q) : o_Ev X (d + 4) mX12_inWords 14 [some (.ref (o_ad X a0)), some (.ref (o_aK X 1)), some (.int τ14.1), some (.int τ14.2), none, none, none] [] μ0 Q := by
  unfold fX12_inWords_s14 at h
  refine s_iload_n (i := 3) dX12_inWords_14 rfl rfl ?_
  refine s_aload_n (i := 1) dX12_inWords_15 rfl rfl ?_
  refine s_strlen1 (rest := [.int τ14.2]) mlX12_147 (Nat.le_of_ble_eq_true rfl) dX12_inWords_16 ?_
  refine s_icmp_ge (tgt := 133) dX12_inWords_19 rfl (fun c1 => ?_) (fun c1 => ?_)
  · have h := o_if_t c1 h
    refine s_mask [false, false, false, false, false, false, false] (L' := [none, none, none, none, none, none, none]) rfl ?_
    exact k133 (0, 0) _ (o_ret h)
  · have h := o_if_f c1 h
    refine s_iload_n (i := 3) dX12_inWords_22 rfl rfl ?_
    refine s_istore dX12_inWords_23 (Nat.le_of_ble_eq_true rfl) rfl ?_
    refine s_mask [true, true, true, true, true, false, false] (L' := [some (.ref (o_ad X a0)), some (.ref (o_aK X 1)), some (.int τ14.1), some (.int τ14.2), some (.int τ14.2), none, none]) rfl ?_
    refine o_lp_ev (fun τ25 => [some (.ref (o_ad X a0)), some (.ref (o_aK X 1)), some (.int τ14.1), some (.int τ14.2), some (.int τ25), none, none]) (fun τ25 μ _K h kv ke25 => dnX12_inWords_s25 hX h0 h kv (fun τ25 μ1 h => ?_)) o_fuel τ14.2 μ0 (o_bdp h)
    · have h := o_if_t rfl (ke25 (42, τ25) μ1 (o_ne rfl) h)
      refine s_iload dX12_inWords_42 rfl ?_
      refine s_iload_n (i := 3) dX12_inWords_44 rfl rfl ?_
      refine s_isub dX12_inWords_45 ?_
      refine s_aload_n (i := 0) dX12_inWords_46 rfl rfl ?_
      refine s_getI h0 flX12_120 rfl dX12_inWords_47 ?_
      refine s_aload_n (i := 0) dX12_inWords_50 rfl rfl ?_
      refine s_getI h0 flX12_126 rfl dX12_inWords_51 ?_
      refine s_isub dX12_inWords_54 ?_
      refine s_icmp_ne (tgt := 62) dX12_inWords_55 rfl (fun c1 => ?_) (fun c1 => ?_)
      · have h := o_if_f c1 h
        refine s_iconst dX12_inWords_62 kI_0 ?_
        refine s_istore dX12_inWords_63 (Nat.le_of_ble_eq_true rfl) rfl ?_
        refine s_iload_n (i := 3) dX12_inWords_65 rfl rfl ?_
        refine s_istore dX12_inWords_66 (Nat.le_of_ble_eq_true rfl) rfl ?_
        refine s_mask [true, true, true, true, true, true, true] (L' := [some (.ref (o_ad X a0)), some (.ref (o_aK X 1)), some (.int τ14.1), some (.int τ14.2), some (.int τ25), some (.int 0), some (.int τ14.2)]) rfl ?_
        refine o_lp_ev (fun τ68 => [some (.ref (o_ad X a0)), some (.ref (o_aK X 1)), some (.int τ14.1), some (.int τ14.2), some (.int τ25), some (.int τ68.1), some (.int τ68.2)]) (fun τ68 μ _K h kv ke68 => dnX12_inWords_s68 hX h0 h kv (fun τ68 μ2 h => ?_)) o_fuel (0, τ14.2) μ1 (o_bdp h)
        · have h := o_if_t rfl (ke68 (115, τ68) μ2 (o_ne rfl) h)
          refine s_mask [true, true, true, false, true, true, false] (L' := [some (.ref (o_ad X a0)), some (.ref (o_aK X 1)), some (.int τ14.1), none, some (.int τ25), some (.int τ68.1), none]) rfl ?_
          exact dnX12_inWords_j115 hX h0 h kh k120 k133
      · have h := o_if_t c1 h
        refine s_iconst dX12_inWords_58 kI_1 ?_
        refine s_goto (tgt := 63) dX12_inWords_59 rfl ?_
        refine s_istore dX12_inWords_63 (Nat.le_of_ble_eq_true rfl) rfl ?_
        refine s_iload_n (i := 3) dX12_inWords_65 rfl rfl ?_
        refine s_istore dX12_inWords_66 (Nat.le_of_ble_eq_true rfl) rfl ?_
        refine s_mask [true, true, true, true, true, true, true] (L' := [some (.ref (o_ad X a0)), some (.ref (o_aK X 1)), some (.int τ14.1), some (.int τ14.2), some (.int τ25), some (.int 1), some (.int τ14.2)]) rfl ?_
        refine o_lp_ev (fun τ68 => [some (.ref (o_ad X a0)), some (.ref (o_aK X 1)), some (.int τ14.1), some (.int τ14.2), some (.int τ25), some (.int τ68.1), some (.int τ68.2)]) (fun τ68 μ _K h kv ke68 => dnX12_inWords_s68 hX h0 h kv (fun τ68 μ3 h => ?_)) o_fuel (1, τ14.2) μ1 (o_bdp h)
        · have h := o_if_t rfl (ke68 (115, τ68) μ3 (o_ne rfl) h)
          refine s_mask [true, true, true, false, true, true, false] (L' := [some (.ref (o_ad X a0)), some (.ref (o_aK X 1)), some (.int τ14.1), none, some (.int τ25), some (.int τ68.1), none]) rfl ?_
          exact dnX12_inWords_j115 hX h0 h kh k120 k133
set_option maxRecDepth 20000 in
theorem dnX12_inWords {X : o_Cx} (hX : o_ok X) {d : Nat} {a0 : Nat} {μ0 : o_Mem} {q : Int32 → o_Mem → Prop} (h0 : o_is X a0 (.inl 12)) (h : o_Post (fX12_inWords (o_rf X) a0 μ0) q) : o_Ev X (d + 4) mX12_inWords 0 [some (.ref (o_ad X a0)), some (.ref (o_aK X 1)), none, none, none, none, none] [] μ0 (o_QI q) := by
  unfold fX12_inWords at h
  refine s_aload_n (i := 0) dX12_inWords_0 rfl rfl ?_
  refine s_getI h0 flX12_132 rfl dX12_inWords_1 ?_
  refine s_iconst dX12_inWords_4 kI_2 ?_
  refine s_icmp_eq (tgt := 10) dX12_inWords_5 rfl (fun c1 => ?_) (fun c1 => ?_)
  · have h := o_if_t c1 h
    refine s_iconst dX12_inWords_10 kI_0 ?_
    refine s_istore_n (i := 2) dX12_inWords_11 rfl (Nat.le_of_ble_eq_true rfl) rfl ?_
    refine s_iconst dX12_inWords_12 kI_1 ?_
    refine s_istore_n (i := 3) dX12_inWords_13 rfl (Nat.le_of_ble_eq_true rfl) rfl ?_
    refine s_mask [true, true, true, true, false, false, false] (L' := [some (.ref (o_ad X a0)), some (.ref (o_aK X 1)), some (.int 0), some (.int 1), none, none, none]) rfl ?_
    refine o_lp_ev (fun τ14 => [some (.ref (o_ad X a0)), some (.ref (o_aK X 1)), some (.int τ14.1), some (.int τ14.2), none, none, none]) (fun τ14 μ _K h kv ke14 => dnX12_inWords_s14 hX h0 h kv (fun τ14 μ1 h => ?_) (fun τ14 μ1 h => ?_)) o_fuel (0, 1) μ0 (o_bdp h)
    · have h := o_if_t rfl (ke14 (120, τ14) μ1 (o_ne rfl) h)
      refine s_iload_n (i := 2) dX12_inWords_120 rfl rfl ?_
      exact s_ireturn rfl dX12_inWords_121 ⟨_, rfl, o_ret h⟩
    · have h := o_if_t rfl (o_if_f (o_ne rfl) (ke14 (133, τ14) μ1 (o_ne rfl) h))
      refine s_iconst dX12_inWords_133 kI_m1 ?_
      exact s_ireturn rfl dX12_inWords_134 ⟨_, rfl, o_ret h⟩
  · have h := o_if_f c1 h
    refine s_iconst dX12_inWords_8 kI_m1 ?_
    exact s_ireturn rfl dX12_inWords_9 ⟨_, rfl, o_ret h⟩
theorem dX12_fails_0 : decode cX12_fails 0 = .ok (.aload_n 0, 1) := by decide +kernel
theorem dX12_fails_1 : decode cX12_fails 1 = .ok (.getfield 157, 3) := by decide +kernel
theorem dX12_fails_4 : decode cX12_fails 4 = .ok (.ifCond .ne 28, 3) := by decide +kernel
theorem dX12_fails_7 : decode cX12_fails 7 = .ok (.aload_n 0, 1) := by decide +kernel
theorem dX12_fails_8 : decode cX12_fails 8 = .ok (.aload_n 0, 1) := by decide +kernel
theorem dX12_fails_9 : decode cX12_fails 9 = .ok (.getfield 132, 3) := by decide +kernel
theorem dX12_fails_12 : decode cX12_fails 12 = .ok (.iconst 1, 1) := by decide +kernel
theorem dX12_fails_13 : decode cX12_fails 13 = .ok (.if_icmp .ne 7, 3) := by decide +kernel
theorem dX12_fails_16 : decode cX12_fails 16 = .ok (.iconst 1, 1) := by decide +kernel
theorem dX12_fails_17 : decode cX12_fails 17 = .ok (.goto 4, 3) := by decide +kernel
theorem dX12_fails_20 : decode cX12_fails 20 = .ok (.iload_n 1, 1) := by decide +kernel
theorem dX12_fails_21 : decode cX12_fails 21 = .ok (.putfield 157, 3) := by decide +kernel
theorem dX12_fails_24 : decode cX12_fails 24 = .ok (.aload_n 0, 1) := by decide +kernel
theorem dX12_fails_25 : decode cX12_fails 25 = .ok (.aload_n 0, 1) := by decide +kernel
theorem dX12_fails_26 : decode cX12_fails 26 = .ok (.getfield 126, 3) := by decide +kernel
theorem dX12_fails_29 : decode cX12_fails 29 = .ok (.putfield 41, 3) := by decide +kernel
theorem dX12_fails_32 : decode cX12_fails 32 = .ok (.iconst 0, 1) := by decide +kernel
theorem dX12_fails_33 : decode cX12_fails 33 = .ok (.ireturn, 1) := by decide +kernel
noncomputable def fX12_fails_j21 (rf : Nat → Nat → Nat) (a0 : Nat) (b0 : Nat) (y1 : Int32) (μ0 : o_Mem) : Option (Int32 × o_Mem) :=
  o_seq (o_wI μ0 b0 18 y1) fun μ1 =>
  o_seq (o_wI μ1 a0 17 (μ1.1 a0 13)) fun μ2 =>
  some (0, μ2)
noncomputable def fX12_fails (rf : Nat → Nat → Nat) (a0 : Nat) (x1 : Int32) (μ0 : o_Mem) : Option (Int32 × o_Mem) :=
  if (μ0.1 a0 18) = 0 then (
    if (μ0.1 a0 12) = 1 then (
      fX12_fails_j21 rf a0 a0 1 μ0)
    else (
      fX12_fails_j21 rf a0 a0 x1 μ0))
  else (
    some (0, μ0))
set_option maxRecDepth 20000 in
theorem dnX12_fails_j21 {X : o_Cx} (hX : o_ok X) {d : Nat} {a0 : Nat} {b0 : Nat} {y1 : Int32} {μ0 : o_Mem} {q : Int32 → o_Mem → Prop} (h0 : o_is X a0 (.inl 12)) (hb0 : o_is X b0 (.inl 12)) (h : o_Post (fX12_fails_j21 (o_rf X) a0 b0 y1 μ0) q) : o_Ev X (d + 0) mX12_fails 21 [some (.ref (o_ad X a0)), none] [.int y1, .ref (o_ad X b0)] μ0 (o_QZ q) := by
  unfold fX12_fails_j21 at h
  refine s_putI hX hb0 fwX12_157 rfl dX12_fails_21 (o_gen h (fun μ1 h => ?_))
  refine s_aload_n (i := 0) dX12_fails_24 rfl rfl ?_
  refine s_aload_n (i := 0) dX12_fails_25 rfl rfl ?_
  refine s_getI h0 flX12_126 rfl dX12_fails_26 ?_
  refine s_putI hX h0 fwX12_41 rfl dX12_fails_29 (o_gen h (fun μ2 h => ?_))
  refine s_iconst dX12_fails_32 kI_0 ?_
  exact s_zreturn rfl (Or.inl rfl) dX12_fails_33 ⟨_, rfl, (Or.inl rfl), o_ret h⟩
set_option maxRecDepth 20000 in
theorem dnX12_fails {X : o_Cx} (hX : o_ok X) {d : Nat} {a0 : Nat} {x1 : Int32} {μ0 : o_Mem} {q : Int32 → o_Mem → Prop} (h0 : o_is X a0 (.inl 12)) (h : o_Post (fX12_fails (o_rf X) a0 x1 μ0) q) : o_Ev X (d + 0) mX12_fails 0 [some (.ref (o_ad X a0)), some (.int x1)] [] μ0 (o_QZ q) := by
  unfold fX12_fails at h
  refine s_aload_n (i := 0) dX12_fails_0 rfl rfl ?_
  refine s_getI h0 flX12_157 rfl dX12_fails_1 ?_
  refine s_if_ne (tgt := 32) dX12_fails_4 rfl (fun c1 => ?_) (fun c1 => ?_)
  · have h := o_if_f c1 h
    refine s_iconst dX12_fails_32 kI_0 ?_
    exact s_zreturn rfl (Or.inl rfl) dX12_fails_33 ⟨_, rfl, (Or.inl rfl), o_ret h⟩
  · have h := o_if_t c1 h
    refine s_aload_n (i := 0) dX12_fails_7 rfl rfl ?_
    refine s_aload_n (i := 0) dX12_fails_8 rfl rfl ?_
    refine s_getI h0 flX12_132 rfl dX12_fails_9 ?_
    refine s_iconst dX12_fails_12 kI_1 ?_
    refine s_icmp_ne (tgt := 20) dX12_fails_13 rfl (fun c1 => ?_) (fun c1 => ?_)
    · have h := o_if_f c1 h
      refine s_iload_n (i := 1) dX12_fails_20 rfl rfl ?_
      refine s_mask [true, false] (L' := [some (.ref (o_ad X a0)), none]) rfl ?_
      exact dnX12_fails_j21 hX h0 h0 h
    · have h := o_if_t c1 h
      refine s_iconst dX12_fails_16 kI_1 ?_
      refine s_goto (tgt := 21) dX12_fails_17 rfl ?_
      refine s_mask [true, false] (L' := [some (.ref (o_ad X a0)), none]) rfl ?_
      exact dnX12_fails_j21 hX h0 h0 h
theorem dX12_begins_0 : decode cX12_begins 0 = .ok (.iload_n 1, 1) := by decide +kernel
theorem dX12_begins_1 : decode cX12_begins 1 = .ok (.ifCond .lt 16, 3) := by decide +kernel
theorem dX12_begins_4 : decode cX12_begins 4 = .ok (.iload_n 1, 1) := by decide +kernel
theorem dX12_begins_5 : decode cX12_begins 5 = .ok (.aload_n 0, 1) := by decide +kernel
theorem dX12_begins_6 : decode cX12_begins 6 = .ok (.getfield 111, 3) := by decide +kernel
theorem dX12_begins_9 : decode cX12_begins 9 = .ok (.if_icmp .gt 8, 3) := by decide +kernel
theorem dX12_begins_12 : decode cX12_begins 12 = .ok (.iload_n 1, 1) := by decide +kernel
theorem dX12_begins_13 : decode cX12_begins 13 = .ok (.iload_n 2, 1) := by decide +kernel
theorem dX12_begins_14 : decode cX12_begins 14 = .ok (.if_icmp .le 5, 3) := by decide +kernel
theorem dX12_begins_17 : decode cX12_begins 17 = .ok (.iconst 0, 1) := by decide +kernel
theorem dX12_begins_18 : decode cX12_begins 18 = .ok (.ireturn, 1) := by decide +kernel
theorem dX12_begins_19 : decode cX12_begins 19 = .ok (.aload_n 0, 1) := by decide +kernel
theorem dX12_begins_20 : decode cX12_begins 20 = .ok (.iload_n 1, 1) := by decide +kernel
theorem dX12_begins_21 : decode cX12_begins 21 = .ok (.putfield 117, 3) := by decide +kernel
theorem dX12_begins_24 : decode cX12_begins 24 = .ok (.iconst 0, 1) := by decide +kernel
theorem dX12_begins_25 : decode cX12_begins 25 = .ok (.istore_n 3, 1) := by decide +kernel
theorem dX12_begins_26 : decode cX12_begins 26 = .ok (.iload_n 3, 1) := by decide +kernel
theorem dX12_begins_27 : decode cX12_begins 27 = .ok (.iload_n 1, 1) := by decide +kernel
theorem dX12_begins_28 : decode cX12_begins 28 = .ok (.if_icmp .ge 21, 3) := by decide +kernel
theorem dX12_begins_31 : decode cX12_begins 31 = .ok (.aload_n 0, 1) := by decide +kernel
theorem dX12_begins_32 : decode cX12_begins 32 = .ok (.getfield 34, 3) := by decide +kernel
theorem dX12_begins_35 : decode cX12_begins 35 = .ok (.iload_n 3, 1) := by decide +kernel
theorem dX12_begins_36 : decode cX12_begins 36 = .ok (.aload_n 0, 1) := by decide +kernel
theorem dX12_begins_37 : decode cX12_begins 37 = .ok (.getfield 30, 3) := by decide +kernel
theorem dX12_begins_40 : decode cX12_begins 40 = .ok (.iload_n 3, 1) := by decide +kernel
theorem dX12_begins_41 : decode cX12_begins 41 = .ok (.baload, 1) := by decide +kernel
theorem dX12_begins_42 : decode cX12_begins 42 = .ok (.bastore, 1) := by decide +kernel
theorem dX12_begins_43 : decode cX12_begins 43 = .ok (.iinc 3 1, 3) := by decide +kernel
theorem dX12_begins_46 : decode cX12_begins 46 = .ok (.goto (-20), 3) := by decide +kernel
theorem dX12_begins_49 : decode cX12_begins 49 = .ok (.aload_n 0, 1) := by decide +kernel
theorem dX12_begins_50 : decode cX12_begins 50 = .ok (.iconst 0, 1) := by decide +kernel
theorem dX12_begins_51 : decode cX12_begins 51 = .ok (.putfield 111, 3) := by decide +kernel
theorem dX12_begins_54 : decode cX12_begins 54 = .ok (.aload_n 0, 1) := by decide +kernel
theorem dX12_begins_55 : decode cX12_begins 55 = .ok (.iconst 0, 1) := by decide +kernel
theorem dX12_begins_56 : decode cX12_begins 56 = .ok (.putfield 157, 3) := by decide +kernel
theorem dX12_begins_59 : decode cX12_begins 59 = .ok (.aload_n 0, 1) := by decide +kernel
theorem dX12_begins_60 : decode cX12_begins 60 = .ok (.iconst (-1), 1) := by decide +kernel
theorem dX12_begins_61 : decode cX12_begins 61 = .ok (.putfield 41, 3) := by decide +kernel
theorem dX12_begins_64 : decode cX12_begins 64 = .ok (.aload_n 0, 1) := by decide +kernel
theorem dX12_begins_65 : decode cX12_begins 65 = .ok (.iconst 0, 1) := by decide +kernel
theorem dX12_begins_66 : decode cX12_begins 66 = .ok (.putfield 120, 3) := by decide +kernel
theorem dX12_begins_69 : decode cX12_begins 69 = .ok (.aload_n 0, 1) := by decide +kernel
theorem dX12_begins_70 : decode cX12_begins 70 = .ok (.iconst 0, 1) := by decide +kernel
theorem dX12_begins_71 : decode cX12_begins 71 = .ok (.putfield 160, 3) := by decide +kernel
theorem dX12_begins_74 : decode cX12_begins 74 = .ok (.aload_n 0, 1) := by decide +kernel
theorem dX12_begins_75 : decode cX12_begins 75 = .ok (.invokevirtual 163, 3) := by decide +kernel
theorem dX12_begins_78 : decode cX12_begins 78 = .ok (.iconst 1, 1) := by decide +kernel
theorem dX12_begins_79 : decode cX12_begins 79 = .ok (.ireturn, 1) := by decide +kernel
noncomputable def fX12_begins_s26 (rf : Nat → Nat → Nat) (a0 : Nat) (x1 : Int32) (τ26 : Int32) (μ0 : o_Mem) : Option ((Nat × (Int32)) × o_Mem) :=
  if x1 ≤ τ26 then (
    some ((49, 0), μ0))
  else (
    o_ck (0 ≤ (τ26).toInt ∧ (τ26).toInt < 900) <|
    o_ck (0 ≤ (τ26).toInt ∧ (τ26).toInt < 900) <|
    o_seq (o_wI μ0 (rf a0 9) τ26.toNatClampNeg ((μ0.1 (rf a0 8) τ26.toNatClampNeg).toInt8.toInt32)) fun μ1 =>
    some ((26, (τ26 + 1)), μ1))
noncomputable def fX12_begins (rf : Nat → Nat → Nat) (a0 : Nat) (x1 : Int32) (x2 : Int32) (μ0 : o_Mem) : Option (Int32 × o_Mem) :=
  if x1 < 0 then (
    some (0, μ0))
  else (
    if (μ0.1 a0 10) < x1 then (
      some (0, μ0))
    else (
      if x1 ≤ x2 then (
        o_seq (o_wI μ0 a0 11 x1) fun μ1 =>
        o_bd (o_lp 26 (fX12_begins_s26 rf a0 x1) o_fuel (0 : Int32) μ1) fun ex2 μ2 =>
        if ex2.1 = 49 then (
          o_seq (o_wI μ2 a0 10 0) fun μ3 =>
          o_seq (o_wI μ3 a0 18 0) fun μ4 =>
          o_seq (o_wI μ4 a0 17 (-1)) fun μ5 =>
          o_seq (o_wI μ5 a0 14 0) fun μ6 =>
          o_seq (o_wI μ6 a0 19 0) fun μ7 =>
          o_bd (fX12_ahead rf a0 μ7) fun _u μ8 =>
          some (1, μ8))
        else
          none)
      else (
        some (0, μ0))))
set_option maxRecDepth 20000 in
theorem dnX12_begins_s26 {X : o_Cx} (hX : o_ok X) {d : Nat} {a0 : Nat} {x1 : Int32} {τ26 : Int32} {μ0 : o_Mem} {K : (Nat × (Int32)) → o_Mem → Prop} {Q : Option Value → o_Mem → Prop} (h0 : o_is X a0 (.inl 12)) (h : o_Post (fX12_begins_s26 (o_rf X) a0 x1 τ26 μ0) K) (kh : ∀ (τ26 : Int32) (μ : o_Mem), K (26, τ26) μ → o_Ev X (d + 2) mX12_begins 26 [some (.ref (o_ad X a0)), some (.int x1), none, some (.int τ26)] [] μ Q) (k49 : ∀ (τ26 : Int32) (μ : o_Mem), K (49, τ26) μ → o_Ev X (d + 2) mX12_begins 49 [some (.ref (o_ad X a0)), none, none, none] [] μ Q) : o_Ev X (d + 2) mX12_begins 26 [some (.ref (o_ad X a0)), some (.int x1), none, some (.int τ26)] [] μ0 Q := by
  unfold fX12_begins_s26 at h
  refine s_iload_n (i := 3) dX12_begins_26 rfl rfl ?_
  refine s_iload_n (i := 1) dX12_begins_27 rfl rfl ?_
  refine s_icmp_ge (tgt := 49) dX12_begins_28 rfl (fun c1 => ?_) (fun c1 => ?_)
  · have h := o_if_t c1 h
    refine s_mask [true, false, false, false] (L' := [some (.ref (o_ad X a0)), none, none, none]) rfl ?_
    exact k49 0 _ (o_ret h)
  · have h := o_if_f c1 h
    refine s_aload_n (i := 0) dX12_begins_31 rfl rfl ?_
    refine s_getR hX h0 flX12_34 rfl dX12_begins_32 (fun (g1 : o_is X (o_rf X a0 9) (.inr (1, 900))) => ?_)
    refine s_iload_n (i := 3) dX12_begins_35 rfl rfl ?_
    refine s_aload_n (i := 0) dX12_begins_36 rfl rfl ?_
    refine s_getR hX h0 flX12_30 rfl dX12_begins_37 (fun (g2 : o_is X (o_rf X a0 8) (.inr (1, 900))) => ?_)
    refine s_iload_n (i := 3) dX12_begins_40 rfl rfl ?_
    have hc := o_ck_c h
    have h := o_ck_k h
    refine s_baldK g2 hc rfl dX12_begins_41 ?_
    have hc := o_ck_c h
    have h := o_ck_k h
    refine s_bastK hX g1 hc rfl dX12_begins_42 (o_gen h (fun μ1 h => ?_))
    refine s_iinc (v := (τ26 + 1)) dX12_begins_43 rfl rfl (Nat.le_of_ble_eq_true rfl) rfl ?_
    refine s_goto (tgt := 26) dX12_begins_46 rfl ?_
    refine s_mask [true, true, false, true] (L' := [some (.ref (o_ad X a0)), some (.int x1), none, some (.int (τ26 + 1))]) rfl ?_
    exact kh (τ26 + 1) _ (o_ret h)
set_option maxRecDepth 20000 in
theorem dnX12_begins {X : o_Cx} (hX : o_ok X) {d : Nat} {a0 : Nat} {x1 : Int32} {x2 : Int32} {μ0 : o_Mem} {q : Int32 → o_Mem → Prop} (h0 : o_is X a0 (.inl 12)) (h : o_Post (fX12_begins (o_rf X) a0 x1 x2 μ0) q) : o_Ev X (d + 2) mX12_begins 0 [some (.ref (o_ad X a0)), some (.int x1), some (.int x2), none] [] μ0 (o_QZ q) := by
  unfold fX12_begins at h
  refine s_iload_n (i := 1) dX12_begins_0 rfl rfl ?_
  refine s_if_lt (tgt := 17) dX12_begins_1 rfl (fun c1 => ?_) (fun c1 => ?_)
  · have h := o_if_t c1 h
    refine s_iconst dX12_begins_17 kI_0 ?_
    exact s_zreturn rfl (Or.inl rfl) dX12_begins_18 ⟨_, rfl, (Or.inl rfl), o_ret h⟩
  · have h := o_if_f c1 h
    refine s_iload_n (i := 1) dX12_begins_4 rfl rfl ?_
    refine s_aload_n (i := 0) dX12_begins_5 rfl rfl ?_
    refine s_getI h0 flX12_111 rfl dX12_begins_6 ?_
    refine s_icmp_gt (tgt := 17) dX12_begins_9 rfl (fun c1 => ?_) (fun c1 => ?_)
    · have h := o_if_t c1 h
      refine s_iconst dX12_begins_17 kI_0 ?_
      exact s_zreturn rfl (Or.inl rfl) dX12_begins_18 ⟨_, rfl, (Or.inl rfl), o_ret h⟩
    · have h := o_if_f c1 h
      refine s_iload_n (i := 1) dX12_begins_12 rfl rfl ?_
      refine s_iload_n (i := 2) dX12_begins_13 rfl rfl ?_
      refine s_icmp_le (tgt := 19) dX12_begins_14 rfl (fun c1 => ?_) (fun c1 => ?_)
      · have h := o_if_t c1 h
        refine s_aload_n (i := 0) dX12_begins_19 rfl rfl ?_
        refine s_iload_n (i := 1) dX12_begins_20 rfl rfl ?_
        refine s_putI hX h0 fwX12_117 rfl dX12_begins_21 (o_gen h (fun μ1 h => ?_))
        refine s_iconst dX12_begins_24 kI_0 ?_
        refine s_istore_n (i := 3) dX12_begins_25 rfl (Nat.le_of_ble_eq_true rfl) rfl ?_
        refine s_mask [true, true, false, true] (L' := [some (.ref (o_ad X a0)), some (.int x1), none, some (.int 0)]) rfl ?_
        refine o_lp_ev (fun τ26 => [some (.ref (o_ad X a0)), some (.int x1), none, some (.int τ26)]) (fun τ26 μ _K h kv ke26 => dnX12_begins_s26 hX h0 h kv (fun τ26 μ2 h => ?_)) o_fuel 0 μ1 (o_bdp h)
        · have h := o_if_t rfl (ke26 (49, τ26) μ2 (o_ne rfl) h)
          refine s_aload_n (i := 0) dX12_begins_49 rfl rfl ?_
          refine s_iconst dX12_begins_50 kI_0 ?_
          refine s_putI hX h0 fwX12_111 rfl dX12_begins_51 (o_gen h (fun μ3 h => ?_))
          refine s_aload_n (i := 0) dX12_begins_54 rfl rfl ?_
          refine s_iconst dX12_begins_55 kI_0 ?_
          refine s_putI hX h0 fwX12_157 rfl dX12_begins_56 (o_gen h (fun μ4 h => ?_))
          refine s_aload_n (i := 0) dX12_begins_59 rfl rfl ?_
          refine s_iconst dX12_begins_60 kI_m1 ?_
          refine s_putI hX h0 fwX12_41 rfl dX12_begins_61 (o_gen h (fun μ5 h => ?_))
          refine s_aload_n (i := 0) dX12_begins_64 rfl rfl ?_
          refine s_iconst dX12_begins_65 kI_0 ?_
          refine s_putI hX h0 fwX12_120 rfl dX12_begins_66 (o_gen h (fun μ6 h => ?_))
          refine s_aload_n (i := 0) dX12_begins_69 rfl rfl ?_
          refine s_iconst dX12_begins_70 kI_0 ?_
          refine s_putI hX h0 fwX12_160 rfl dX12_begins_71 (o_gen h (fun μ7 h => ?_))
          refine s_aload_n (i := 0) dX12_begins_74 rfl rfl ?_
          refine s_callVu (C := mX12_ahead) (As := []) (rest := []) (L0 := [some (.ref (o_ad X a0)), none]) hX h0 clX12_163 dX12_begins_75 rfl rfl (Nat.le_of_ble_eq_true rfl) (Nat.le_of_ble_eq_true rfl) (dnX12_ahead hX h0 (o_bdp h)) (fun _u μ8 h => ?_)
          refine s_iconst dX12_begins_78 kI_1 ?_
          exact s_zreturn rfl (Or.inr rfl) dX12_begins_79 ⟨_, rfl, (Or.inr rfl), o_ret h⟩
      · have h := o_if_f c1 h
        refine s_iconst dX12_begins_17 kI_0 ?_
        exact s_zreturn rfl (Or.inl rfl) dX12_begins_18 ⟨_, rfl, (Or.inl rfl), o_ret h⟩
theorem dX12_wantSign_0 : decode cX12_wantSign 0 = .ok (.aload_n 0, 1) := by decide +kernel
theorem dX12_wantSign_1 : decode cX12_wantSign 1 = .ok (.iload_n 1, 1) := by decide +kernel
theorem dX12_wantSign_2 : decode cX12_wantSign 2 = .ok (.invokevirtual 166, 3) := by decide +kernel
theorem dX12_wantSign_5 : decode cX12_wantSign 5 = .ok (.ifCond .ne 9, 3) := by decide +kernel
theorem dX12_wantSign_8 : decode cX12_wantSign 8 = .ok (.aload_n 0, 1) := by decide +kernel
theorem dX12_wantSign_9 : decode cX12_wantSign 9 = .ok (.iconst 2, 1) := by decide +kernel
theorem dX12_wantSign_10 : decode cX12_wantSign 10 = .ok (.invokevirtual 169, 3) := by decide +kernel
theorem dX12_wantSign_13 : decode cX12_wantSign 13 = .ok (.ireturn, 1) := by decide +kernel
theorem dX12_wantSign_14 : decode cX12_wantSign 14 = .ok (.aload_n 0, 1) := by decide +kernel
theorem dX12_wantSign_15 : decode cX12_wantSign 15 = .ok (.invokevirtual 163, 3) := by decide +kernel
theorem dX12_wantSign_18 : decode cX12_wantSign 18 = .ok (.iconst 1, 1) := by decide +kernel
theorem dX12_wantSign_19 : decode cX12_wantSign 19 = .ok (.ireturn, 1) := by decide +kernel
noncomputable def fX12_wantSign (rf : Nat → Nat → Nat) (a0 : Nat) (x1 : Int32) (μ0 : o_Mem) : Option (Int32 × o_Mem) :=
  o_bd (fX12_isSign rf a0 x1 μ0) fun r1 μ1 =>
  if r1 = 0 then (
    o_bd (fX12_fails rf a0 2 μ1) fun r2 μ3 =>
    some (r2, μ3))
  else (
    o_bd (fX12_ahead rf a0 μ1) fun _u μ2 =>
    some (1, μ2))
set_option maxRecDepth 20000 in
theorem dnX12_wantSign {X : o_Cx} (hX : o_ok X) {d : Nat} {a0 : Nat} {x1 : Int32} {μ0 : o_Mem} {q : Int32 → o_Mem → Prop} (h0 : o_is X a0 (.inl 12)) (h : o_Post (fX12_wantSign (o_rf X) a0 x1 μ0) q) : o_Ev X (d + 2) mX12_wantSign 0 [some (.ref (o_ad X a0)), some (.int x1)] [] μ0 (o_QZ q) := by
  unfold fX12_wantSign at h
  refine s_aload_n (i := 0) dX12_wantSign_0 rfl rfl ?_
  refine s_iload_n (i := 1) dX12_wantSign_1 rfl rfl ?_
  refine s_callVz (C := mX12_isSign) (As := [.int x1]) (rest := []) (L0 := [some (.ref (o_ad X a0)), some (.int x1)]) hX h0 clX12_166 dX12_wantSign_2 rfl rfl (Nat.le_of_ble_eq_true rfl) (Nat.le_of_ble_eq_true rfl) (dnX12_isSign hX h0 (o_bdp h)) (fun r1 μ1 zr1 h => ?_)
  refine s_if_ne (tgt := 14) dX12_wantSign_5 rfl (fun c1 => ?_) (fun c1 => ?_)
  · have h := o_if_f c1 h
    refine s_aload_n (i := 0) dX12_wantSign_14 rfl rfl ?_
    refine s_callVu (C := mX12_ahead) (As := []) (rest := []) (L0 := [some (.ref (o_ad X a0)), none]) hX h0 clX12_163 dX12_wantSign_15 rfl rfl (Nat.le_of_ble_eq_true rfl) (Nat.le_of_ble_eq_true rfl) (dnX12_ahead hX h0 (o_bdp h)) (fun _u μ2 h => ?_)
    refine s_iconst dX12_wantSign_18 kI_1 ?_
    exact s_zreturn rfl (Or.inr rfl) dX12_wantSign_19 ⟨_, rfl, (Or.inr rfl), o_ret h⟩
  · have h := o_if_t c1 h
    refine s_aload_n (i := 0) dX12_wantSign_8 rfl rfl ?_
    refine s_iconst dX12_wantSign_9 kI_2 ?_
    refine s_callVz (C := mX12_fails) (As := [.int 2]) (rest := []) (L0 := [some (.ref (o_ad X a0)), some (.int 2)]) hX h0 clX12_169 dX12_wantSign_10 rfl rfl (Nat.le_of_ble_eq_true rfl) (Nat.le_of_ble_eq_true rfl) (dnX12_fails hX h0 (o_bdp h)) (fun r2 μ3 zr2 h => ?_)
    exact s_zreturn rfl zr2 dX12_wantSign_13 ⟨_, rfl, zr2, o_ret h⟩
