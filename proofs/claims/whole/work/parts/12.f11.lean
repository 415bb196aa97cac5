theorem dX11_post_0 : decode cX11_post 0 = .ok (.aload_n 0, 1) := by decide +kernel
theorem dX11_post_1 : decode cX11_post 1 = .ok (.getfield 23, 3) := by decide +kernel
theorem dX11_post_4 : decode cX11_post 4 = .ok (.iload_n 1, 1) := by decide +kernel
theorem dX11_post_5 : decode cX11_post 5 = .ok (.iload_n 2, 1) := by decide +kernel
theorem dX11_post_6 : decode cX11_post 6 = .ok (.iload_n 3, 1) := by decide +kernel
theorem dX11_post_7 : decode cX11_post 7 = .ok (.iload 4, 2) := by decide +kernel
theorem dX11_post_9 : decode cX11_post 9 = .ok (.invokevirtual 280, 3) := by decide +kernel
theorem dX11_post_12 : decode cX11_post 12 = .ok (.ifCond .ne 9, 3) := by decide +kernel
theorem dX11_post_15 : decode cX11_post 15 = .ok (.aload_n 0, 1) := by decide +kernel
theorem dX11_post_16 : decode cX11_post 16 = .ok (.iconst 1, 1) := by decide +kernel
theorem dX11_post_17 : decode cX11_post 17 = .ok (.invokevirtual 139, 3) := by decide +kernel
theorem dX11_post_20 : decode cX11_post 20 = .ok (.ireturn, 1) := by decide +kernel
theorem dX11_post_21 : decode cX11_post 21 = .ok (.aload_n 0, 1) := by decide +kernel
theorem dX11_post_22 : decode cX11_post 22 = .ok (.getfield 23, 3) := by decide +kernel
theorem dX11_post_25 : decode cX11_post 25 = .ok (.getfield 212, 3) := by decide +kernel
theorem dX11_post_28 : decode cX11_post 28 = .ok (.invokevirtual 284, 3) := by decide +kernel
theorem dX11_post_31 : decode cX11_post 31 = .ok (.ifCond .eq 9, 3) := by decide +kernel
theorem dX11_post_34 : decode cX11_post 34 = .ok (.aload_n 0, 1) := by decide +kernel
theorem dX11_post_35 : decode cX11_post 35 = .ok (.iconst 4, 1) := by decide +kernel
theorem dX11_post_36 : decode cX11_post 36 = .ok (.invokevirtual 139, 3) := by decide +kernel
theorem dX11_post_39 : decode cX11_post 39 = .ok (.ireturn, 1) := by decide +kernel
theorem dX11_post_40 : decode cX11_post 40 = .ok (.aload_n 0, 1) := by decide +kernel
theorem dX11_post_41 : decode cX11_post 41 = .ok (.getfield 23, 3) := by decide +kernel
theorem dX11_post_44 : decode cX11_post 44 = .ok (.getfield 212, 3) := by decide +kernel
theorem dX11_post_47 : decode cX11_post 47 = .ok (.iload_n 1, 1) := by decide +kernel
theorem dX11_post_48 : decode cX11_post 48 = .ok (.iload_n 2, 1) := by decide +kernel
theorem dX11_post_49 : decode cX11_post 49 = .ok (.iload_n 3, 1) := by decide +kernel
theorem dX11_post_50 : decode cX11_post 50 = .ok (.iload 4, 2) := by decide +kernel
theorem dX11_post_52 : decode cX11_post 52 = .ok (.iconst (-1), 1) := by decide +kernel
theorem dX11_post_53 : decode cX11_post 53 = .ok (.invokevirtual 287, 3) := by decide +kernel
theorem dX11_post_56 : decode cX11_post 56 = .ok (.aload_n 0, 1) := by decide +kernel
theorem dX11_post_57 : decode cX11_post 57 = .ok (.aload_n 0, 1) := by decide +kernel
theorem dX11_post_58 : decode cX11_post 58 = .ok (.getfield 23, 3) := by decide +kernel
theorem dX11_post_61 : decode cX11_post 61 = .ok (.getfield 212, 3) := by decide +kernel
theorem dX11_post_64 : decode cX11_post 64 = .ok (.getfield 216, 3) := by decide +kernel
theorem dX11_post_67 : decode cX11_post 67 = .ok (.invokevirtual 187, 3) := by decide +kernel
theorem dX11_post_70 : decode cX11_post 70 = .ok (.ireturn, 1) := by decide +kernel
noncomputable def fX11_post (rf : Nat → Nat → Nat) (a0 : Nat) (x1 : Int32) (x2 : Int32) (x3 : Int32) (x4 : Int32) (μ0 : o_Mem) : Option (Int32 × o_Mem) :=
  o_bd (fX8_isLetter rf (rf a0 4) x1 x2 x3 x4 μ0) fun r1 μ1 =>
  if r1 = 0 then (
    o_bd (fX11_refuses rf a0 1 μ1) fun r5 μ6 =>
    some (r5, μ6))
  else (
    o_bd (fX1_isFull rf (rf (rf a0 4) 15) μ1) fun r2 μ2 =>
    if r2 = 0 then (
      o_bd (fX1_add rf (rf (rf a0 4) 15) x1 x2 x3 x4 (-1) μ2) fun _u μ3 =>
      o_bd (fX11_gives rf a0 (μ3.1 (rf (rf a0 4) 15) 0) μ3) fun r3 μ4 =>
      some (r3, μ4))
    else (
      o_bd (fX11_refuses rf a0 4 μ2) fun r4 μ5 =>
      some (r4, μ5)))
set_option maxRecDepth 20000 in
theorem dnX11_post {X : o_Cx} (hX : o_ok X) {d : Nat} {a0 : Nat} {x1 : Int32} {x2 : Int32} {x3 : Int32} {x4 : Int32} {μ0 : o_Mem} {q : Int32 → o_Mem → Prop} (h0 : o_is X a0 (.inl 11)) (h : o_Post (fX11_post (o_rf X) a0 x1 x2 x3 x4 μ0) q) : o_Ev X (d + 2) mX11_post 0 [some (.ref (o_ad X a0)), some (.int x1), some (.int x2), some (.int x3), some (.int x4)] [] μ0 (o_QI q) := by
  unfold fX11_post at h
  refine s_aload_n (i := 0) dX11_post_0 rfl rfl ?_
  refine s_getR hX h0 flX11_23 rfl dX11_post_1 (fun (g1 : o_is X (o_rf X a0 4) (.inl 8)) => ?_)
  refine s_iload_n (i := 1) dX11_post_4 rfl rfl ?_
  refine s_iload_n (i := 2) dX11_post_5 rfl rfl ?_
  refine s_iload_n (i := 3) dX11_post_6 rfl rfl ?_
  refine s_iload dX11_post_7 rfl ?_
  refine s_callVz (C := mX8_isLetter) (As := [.int x1, .int x2, .int x3, .int x4]) (rest := []) (L0 := [some (.ref (o_ad X (o_rf X a0 4))), some (.int x1), some (.int x2), some (.int x3), some (.int x4)]) hX g1 clX11_280 dX11_post_9 rfl rfl (Nat.le_of_ble_eq_true rfl) (Nat.le_of_ble_eq_true rfl) (dnX8_isLetter hX g1 (o_bdp h)) (fun r1 μ1 zr1 h => ?_)
  refine s_if_ne (tgt := 21) dX11_post_12 rfl (fun c1 => ?_) (fun c1 => ?_)
  · have h := o_if_f c1 h
    refine s_aload_n (i := 0) dX11_post_21 rfl rfl ?_
    refine s_getR hX h0 flX11_23 rfl dX11_post_22 (fun (g2 : o_is X (o_rf X a0 4) (.inl 8)) => ?_)
    refine s_getR hX g2 flX11_212 rfl dX11_post_25 (fun (g3 : o_is X (o_rf X (o_rf X a0 4) 15) (.inl 1)) => ?_)
    refine s_callVz (C := mX1_isFull) (As := []) (rest := []) (L0 := [some (.ref (o_ad X (o_rf X (o_rf X a0 4) 15)))]) hX g3 clX11_284 dX11_post_28 rfl rfl (Nat.le_of_ble_eq_true rfl) (Nat.le_of_ble_eq_true rfl) (dnX1_isFull hX g3 (o_bdp h)) (fun r2 μ2 zr2 h => ?_)
    refine s_if_eq (tgt := 40) dX11_post_31 rfl (fun c1 => ?_) (fun c1 => ?_)
    · have h := o_if_t c1 h
      refine s_aload_n (i := 0) dX11_post_40 rfl rfl ?_
      refine s_getR hX h0 flX11_23 rfl dX11_post_41 (fun (g4 : o_is X (o_rf X a0 4) (.inl 8)) => ?_)
      refine s_getR hX g4 flX11_212 rfl dX11_post_44 (fun (g5 : o_is X (o_rf X (o_rf X a0 4) 15) (.inl 1)) => ?_)
      refine s_iload_n (i := 1) dX11_post_47 rfl rfl ?_
      refine s_iload_n (i := 2) dX11_post_48 rfl rfl ?_
      refine s_iload_n (i := 3) dX11_post_49 rfl rfl ?_
      refine s_iload dX11_post_50 rfl ?_
      refine s_iconst dX11_post_52 kI_m1 ?_
      refine s_callVu (C := mX1_add) (As := [.int x1, .int x2, .int x3, .int x4, .int (-1)]) (rest := []) (L0 := [some (.ref (o_ad X (o_rf X (o_rf X a0 4) 15))), some (.int x1), some (.int x2), some (.int x3), some (.int x4), some (.int (-1))]) hX g5 clX11_287 dX11_post_53 rfl rfl (Nat.le_of_ble_eq_true rfl) (Nat.le_of_ble_eq_true rfl) (dnX1_add hX g5 (o_bdp h)) (fun _u μ3 h => ?_)
      refine s_aload_n (i := 0) dX11_post_56 rfl rfl ?_
      refine s_aload_n (i := 0) dX11_post_57 rfl rfl ?_
      refine s_getR hX h0 flX11_23 rfl dX11_post_58 (fun (g6 : o_is X (o_rf X a0 4) (.inl 8)) => ?_)
      refine s_getR hX g6 flX11_212 rfl dX11_post_61 (fun (g7 : o_is X (o_rf X (o_rf X a0 4) 15) (.inl 1)) => ?_)
      refine s_getI g7 flX11_216 rfl dX11_post_64 ?_
      refine s_callVi (C := mX11_gives) (As := [.int (μ3.1 (o_rf X (o_rf X a0 4) 15) 0)]) (rest := []) (L0 := [some (.ref (o_ad X a0)), some (.int (μ3.1 (o_rf X (o_rf X a0 4) 15) 0))]) hX h0 clX11_187 dX11_post_67 rfl rfl (Nat.le_of_ble_eq_true rfl) (Nat.le_of_ble_eq_true rfl) (dnX11_gives hX h0 (o_bdp h)) (fun r3 μ4 h => ?_)
      exact s_ireturn rfl dX11_post_70 ⟨_, rfl, o_ret h⟩
    · have h := o_if_f c1 h
      refine s_aload_n (i := 0) dX11_post_34 rfl rfl ?_
      refine s_iconst dX11_post_35 kI_4 ?_
      refine s_callVi (C := mX11_refuses) (As := [.int 4]) (rest := []) (L0 := [some (.ref (o_ad X a0)), some (.int 4)]) hX h0 clX11_139 dX11_post_36 rfl rfl (Nat.le_of_ble_eq_true rfl) (Nat.le_of_ble_eq_true rfl) (dnX11_refuses hX h0 (o_bdp h)) (fun r4 μ5 h => ?_)
      exact s_ireturn rfl dX11_post_39 ⟨_, rfl, o_ret h⟩
  · have h := o_if_t c1 h
    refine s_aload_n (i := 0) dX11_post_15 rfl rfl ?_
    refine s_iconst dX11_post_16 kI_1 ?_
    refine s_callVi (C := mX11_refuses) (As := [.int 1]) (rest := []) (L0 := [some (.ref (o_ad X a0)), some (.int 1)]) hX h0 clX11_139 dX11_post_17 rfl rfl (Nat.le_of_ble_eq_true rfl) (Nat.le_of_ble_eq_true rfl) (dnX11_refuses hX h0 (o_bdp h)) (fun r5 μ6 h => ?_)
    exact s_ireturn rfl dX11_post_20 ⟨_, rfl, o_ret h⟩
theorem dX11_day_0 : decode cX11_day 0 = .ok (.iload_n 1, 1) := by decide +kernel
theorem dX11_day_1 : decode cX11_day 1 = .ok (.i2l, 1) := by decide +kernel
theorem dX11_day_2 : decode cX11_day 2 = .ok (.lconst 1, 1) := by decide +kernel
theorem dX11_day_3 : decode cX11_day 3 = .ok (.ldc2_w 291, 3) := by decide +kernel
theorem dX11_day_6 : decode cX11_day 6 = .ok (.invokestatic 118, 3) := by decide +kernel
theorem dX11_day_9 : decode cX11_day 9 = .ok (.ifCond .ne 9, 3) := by decide +kernel
theorem dX11_day_12 : decode cX11_day 12 = .ok (.aload_n 0, 1) := by decide +kernel
theorem dX11_day_13 : decode cX11_day 13 = .ok (.iconst 1, 1) := by decide +kernel
theorem dX11_day_14 : decode cX11_day 14 = .ok (.invokevirtual 139, 3) := by decide +kernel
theorem dX11_day_17 : decode cX11_day 17 = .ok (.ireturn, 1) := by decide +kernel
theorem dX11_day_18 : decode cX11_day 18 = .ok (.aload_n 0, 1) := by decide +kernel
theorem dX11_day_19 : decode cX11_day 19 = .ok (.getfield 23, 3) := by decide +kernel
theorem dX11_day_22 : decode cX11_day 22 = .ok (.iload_n 1, 1) := by decide +kernel
theorem dX11_day_23 : decode cX11_day 23 = .ok (.invokevirtual 293, 3) := by decide +kernel
theorem dX11_day_26 : decode cX11_day 26 = .ok (.ifCond .ne 9, 3) := by decide +kernel
theorem dX11_day_29 : decode cX11_day 29 = .ok (.aload_n 0, 1) := by decide +kernel
theorem dX11_day_30 : decode cX11_day 30 = .ok (.iconst 4, 1) := by decide +kernel
theorem dX11_day_31 : decode cX11_day 31 = .ok (.invokevirtual 139, 3) := by decide +kernel
theorem dX11_day_34 : decode cX11_day 34 = .ok (.ireturn, 1) := by decide +kernel
theorem dX11_day_35 : decode cX11_day 35 = .ok (.aload_n 0, 1) := by decide +kernel
theorem dX11_day_36 : decode cX11_day 36 = .ok (.aload_n 0, 1) := by decide +kernel
theorem dX11_day_37 : decode cX11_day 37 = .ok (.getfield 23, 3) := by decide +kernel
theorem dX11_day_40 : decode cX11_day 40 = .ok (.iload_n 1, 1) := by decide +kernel
theorem dX11_day_41 : decode cX11_day 41 = .ok (.invokevirtual 296, 3) := by decide +kernel
theorem dX11_day_44 : decode cX11_day 44 = .ok (.invokevirtual 187, 3) := by decide +kernel
theorem dX11_day_47 : decode cX11_day 47 = .ok (.ireturn, 1) := by decide +kernel
noncomputable def fX11_day (rf : Nat → Nat → Nat) (a0 : Nat) (x1 : Int32) (μ0 : o_Mem) : Option (Int32 × o_Mem) :=
  o_bd (fX11_within rf x1.toInt64 (1 : Int64) (99 : Int64) μ0) fun r1 μ1 =>
  if r1 = 0 then (
    o_bd (fX11_refuses rf a0 1 μ1) fun r6 μ6 =>
    some (r6, μ6))
  else (
    o_bd (fX8_hasDays rf (rf a0 4) x1 μ1) fun r2 μ2 =>
    if r2 = 0 then (
      o_bd (fX11_refuses rf a0 4 μ2) fun r5 μ5 =>
      some (r5, μ5))
    else (
      o_bd (fX8_goDays rf (rf a0 4) x1 μ2) fun r3 μ3 =>
      o_bd (fX11_gives rf a0 r3 μ3) fun r4 μ4 =>
      some (r4, μ4)))
set_option maxRecDepth 20000 in
theorem dnX11_day {X : o_Cx} (hX : o_ok X) {d : Nat} {a0 : Nat} {x1 : Int32} {μ0 : o_Mem} {q : Int32 → o_Mem → Prop} (h0 : o_is X a0 (.inl 11)) (h : o_Post (fX11_day (o_rf X) a0 x1 μ0) q) : o_Ev X (d + 4) mX11_day 0 [some (.ref (o_ad X a0)), some (.int x1)] [] μ0 (o_QI q) := by
  unfold fX11_day at h
  refine s_iload_n (i := 1) dX11_day_0 rfl rfl ?_
  refine s_i2l dX11_day_1 ?_
  refine s_lconst (v := 1) dX11_day_2 rfl ?_
  refine s_ldc2 (v := 99) w_4_186 dX11_day_3 ?_
  refine s_callSz (C := mX11_within) (As := [.long x1.toInt64, .long (1 : Int64), .long (99 : Int64)]) (rest := []) (L0 := [some (.long x1.toInt64), none, some (.long (1 : Int64)), none, some (.long (99 : Int64)), none]) clX11_118 dX11_day_6 rfl rfl (Nat.le_of_ble_eq_true rfl) (Nat.le_of_ble_eq_true rfl) (dnX11_within hX  (o_bdp h)) (fun r1 μ1 zr1 h => ?_)
  refine s_if_ne (tgt := 18) dX11_day_9 rfl (fun c1 => ?_) (fun c1 => ?_)
  · have h := o_if_f c1 h
    refine s_aload_n (i := 0) dX11_day_18 rfl rfl ?_
    refine s_getR hX h0 flX11_23 rfl dX11_day_19 (fun (g1 : o_is X (o_rf X a0 4) (.inl 8)) => ?_)
    refine s_iload_n (i := 1) dX11_day_22 rfl rfl ?_
    refine s_callVz (C := mX8_hasDays) (As := [.int x1]) (rest := []) (L0 := [some (.ref (o_ad X (o_rf X a0 4))), some (.int x1)]) hX g1 clX11_293 dX11_day_23 rfl rfl (Nat.le_of_ble_eq_true rfl) (Nat.le_of_ble_eq_true rfl) (dnX8_hasDays hX g1 (o_bdp h)) (fun r2 μ2 zr2 h => ?_)
    refine s_if_ne (tgt := 35) dX11_day_26 rfl (fun c1 => ?_) (fun c1 => ?_)
    · have h := o_if_f c1 h
      refine s_aload_n (i := 0) dX11_day_35 rfl rfl ?_
      refine s_aload_n (i := 0) dX11_day_36 rfl rfl ?_
      refine s_getR hX h0 flX11_23 rfl dX11_day_37 (fun (g2 : o_is X (o_rf X a0 4) (.inl 8)) => ?_)
      refine s_iload_n (i := 1) dX11_day_40 rfl rfl ?_
      refine s_callVi (C := mX8_goDays) (As := [.int x1]) (rest := [.ref (o_ad X a0)]) (L0 := [some (.ref (o_ad X (o_rf X a0 4))), some (.int x1), none, none, none]) hX g2 clX11_296 dX11_day_41 rfl rfl (Nat.le_of_ble_eq_true rfl) (Nat.le_of_ble_eq_true rfl) (dnX8_goDays hX g2 (o_bdp h)) (fun r3 μ3 h => ?_)
      refine s_callVi (C := mX11_gives) (As := [.int r3]) (rest := []) (L0 := [some (.ref (o_ad X a0)), some (.int r3)]) hX h0 clX11_187 dX11_day_44 rfl rfl (Nat.le_of_ble_eq_true rfl) (Nat.le_of_ble_eq_true rfl) (dnX11_gives hX h0 (o_bdp h)) (fun r4 μ4 h => ?_)
      exact s_ireturn rfl dX11_day_47 ⟨_, rfl, o_ret h⟩
    · have h := o_if_t c1 h
      refine s_aload_n (i := 0) dX11_day_29 rfl rfl ?_
      refine s_iconst dX11_day_30 kI_4 ?_
      refine s_callVi (C := mX11_refuses) (As := [.int 4]) (rest := []) (L0 := [some (.ref (o_ad X a0)), some (.int 4)]) hX h0 clX11_139 dX11_day_31 rfl rfl (Nat.le_of_ble_eq_true rfl) (Nat.le_of_ble_eq_true rfl) (dnX11_refuses hX h0 (o_bdp h)) (fun r5 μ5 h => ?_)
      exact s_ireturn rfl dX11_day_34 ⟨_, rfl, o_ret h⟩
  · have h := o_if_t c1 h
    refine s_aload_n (i := 0) dX11_day_12 rfl rfl ?_
    refine s_iconst dX11_day_13 kI_1 ?_
    refine s_callVi (C := mX11_refuses) (As := [.int 1]) (rest := []) (L0 := [some (.ref (o_ad X a0)), some (.int 1)]) hX h0 clX11_139 dX11_day_14 rfl rfl (Nat.le_of_ble_eq_true rfl) (Nat.le_of_ble_eq_true rfl) (dnX11_refuses hX h0 (o_bdp h)) (fun r6 μ6 h => ?_)
    exact s_ireturn rfl dX11_day_17 ⟨_, rfl, o_ret h⟩
theorem dX11_drink_0 : decode cX11_drink 0 = .ok (.aload_n 0, 1) := by decide +kernel
theorem dX11_drink_1 : decode cX11_drink 1 = .ok (.getfield 23, 3) := by decide +kernel
theorem dX11_drink_4 : decode cX11_drink 4 = .ok (.getfield 228, 3) := by decide +kernel
theorem dX11_drink_7 : decode cX11_drink 7 = .ok (.iload_n 1, 1) := by decide +kernel
theorem dX11_drink_8 : decode cX11_drink 8 = .ok (.if_icmp .ne 10, 3) := by decide +kernel
theorem dX11_drink_11 : decode cX11_drink 11 = .ok (.aload_n 0, 1) := by decide +kernel
theorem dX11_drink_12 : decode cX11_drink 12 = .ok (.bipush 7, 2) := by decide +kernel
theorem dX11_drink_14 : decode cX11_drink 14 = .ok (.invokevirtual 124, 3) := by decide +kernel
theorem dX11_drink_17 : decode cX11_drink 17 = .ok (.ireturn, 1) := by decide +kernel
theorem dX11_drink_18 : decode cX11_drink 18 = .ok (.aload_n 0, 1) := by decide +kernel
theorem dX11_drink_19 : decode cX11_drink 19 = .ok (.getfield 23, 3) := by decide +kernel
theorem dX11_drink_22 : decode cX11_drink 22 = .ok (.iload_n 1, 1) := by decide +kernel
theorem dX11_drink_23 : decode cX11_drink 23 = .ok (.putfield 228, 3) := by decide +kernel
theorem dX11_drink_26 : decode cX11_drink 26 = .ok (.aload_n 0, 1) := by decide +kernel
theorem dX11_drink_27 : decode cX11_drink 27 = .ok (.iconst 0, 1) := by decide +kernel
theorem dX11_drink_28 : decode cX11_drink 28 = .ok (.invokevirtual 124, 3) := by decide +kernel
theorem dX11_drink_31 : decode cX11_drink 31 = .ok (.ireturn, 1) := by decide +kernel
noncomputable def fX11_drink (rf : Nat → Nat → Nat) (a0 : Nat) (x1 : Int32) (μ0 : o_Mem) : Option (Int32 × o_Mem) :=
  if (μ0.1 (rf a0 4) 6) = x1 then (
    o_bd (fX11_ends rf a0 7 μ0) fun r2 μ3 =>
    some (r2, μ3))
  else (
    o_ck (x1 = 0 ∨ x1 = 1) <|
    o_seq (o_wI μ0 (rf a0 4) 6 x1) fun μ1 =>
    o_bd (fX11_ends rf a0 0 μ1) fun r1 μ2 =>
    some (r1, μ2))
set_option maxRecDepth 20000 in
theorem dnX11_drink {X : o_Cx} (hX : o_ok X) {d : Nat} {a0 : Nat} {x1 : Int32} {μ0 : o_Mem} {q : Int32 → o_Mem → Prop} (h0 : o_is X a0 (.inl 11)) (h : o_Post (fX11_drink (o_rf X) a0 x1 μ0) q) : o_Ev X (d + 1) mX11_drink 0 [some (.ref (o_ad X a0)), some (.int x1)] [] μ0 (o_QZ q) := by
  unfold fX11_drink at h
  refine s_aload_n (i := 0) dX11_drink_0 rfl rfl ?_
  refine s_getR hX h0 flX11_23 rfl dX11_drink_1 (fun (g1 : o_is X (o_rf X a0 4) (.inl 8)) => ?_)
  refine s_getI g1 flX11_228 rfl dX11_drink_4 ?_
  refine s_iload_n (i := 1) dX11_drink_7 rfl rfl ?_
  refine s_icmp_ne (tgt := 18) dX11_drink_8 rfl (fun c1 => ?_) (fun c1 => ?_)
  · have h := o_if_f c1 h
    refine s_aload_n (i := 0) dX11_drink_18 rfl rfl ?_
    refine s_getR hX h0 flX11_23 rfl dX11_drink_19 (fun (g2 : o_is X (o_rf X a0 4) (.inl 8)) => ?_)
    refine s_iload_n (i := 1) dX11_drink_22 rfl rfl ?_
    have hz := o_ck_c h
    have h := o_ck_k h
    refine s_putZ hX g2 fwX11_228 rfl hz dX11_drink_23 (o_gen h (fun μ1 h => ?_))
    refine s_aload_n (i := 0) dX11_drink_26 rfl rfl ?_
    refine s_iconst dX11_drink_27 kI_0 ?_
    refine s_callVz (C := mX11_ends) (As := [.int 0]) (rest := []) (L0 := [some (.ref (o_ad X a0)), some (.int 0)]) hX h0 clX11_124 dX11_drink_28 rfl rfl (Nat.le_of_ble_eq_true rfl) (Nat.le_of_ble_eq_true rfl) (dnX11_ends hX h0 (o_bdp h)) (fun r1 μ2 zr1 h => ?_)
    exact s_zreturn rfl zr1 dX11_drink_31 ⟨_, rfl, zr1, o_ret h⟩
  · have h := o_if_t c1 h
    refine s_aload_n (i := 0) dX11_drink_11 rfl rfl ?_
    refine s_bipush dX11_drink_12 kB_7 ?_
    refine s_callVz (C := mX11_ends) (As := [.int 7]) (rest := []) (L0 := [some (.ref (o_ad X a0)), some (.int 7)]) hX h0 clX11_124 dX11_drink_14 rfl rfl (Nat.le_of_ble_eq_true rfl) (Nat.le_of_ble_eq_true rfl) (dnX11_ends hX h0 (o_bdp h)) (fun r2 μ3 zr2 h => ?_)
    exact s_zreturn rfl zr2 dX11_drink_17 ⟨_, rfl, zr2, o_ret h⟩
theorem dX11_take_0 : decode cX11_take 0 = .ok (.iload_n 1, 1) := by decide +kernel
theorem dX11_take_1 : decode cX11_take 1 = .ok (.i2l, 1) := by decide +kernel
theorem dX11_take_2 : decode cX11_take 2 = .ok (.lconst 0, 1) := by decide +kernel
theorem dX11_take_3 : decode cX11_take 3 = .ok (.aload_n 0, 1) := by decide +kernel
theorem dX11_take_4 : decode cX11_take 4 = .ok (.getfield 23, 3) := by decide +kernel
theorem dX11_take_7 : decode cX11_take 7 = .ok (.getfield 212, 3) := by decide +kernel
theorem dX11_take_10 : decode cX11_take 10 = .ok (.getfield 216, 3) := by decide +kernel
theorem dX11_take_13 : decode cX11_take 13 = .ok (.iconst 1, 1) := by decide +kernel
theorem dX11_take_14 : decode cX11_take 14 = .ok (.isub, 1) := by decide +kernel
theorem dX11_take_15 : decode cX11_take 15 = .ok (.i2l, 1) := by decide +kernel
theorem dX11_take_16 : decode cX11_take 16 = .ok (.invokestatic 118, 3) := by decide +kernel
theorem dX11_take_19 : decode cX11_take 19 = .ok (.ifCond .ne 9, 3) := by decide +kernel
theorem dX11_take_22 : decode cX11_take 22 = .ok (.aload_n 0, 1) := by decide +kernel
theorem dX11_take_23 : decode cX11_take 23 = .ok (.iconst 1, 1) := by decide +kernel
theorem dX11_take_24 : decode cX11_take 24 = .ok (.invokevirtual 139, 3) := by decide +kernel
theorem dX11_take_27 : decode cX11_take 27 = .ok (.ireturn, 1) := by decide +kernel
theorem dX11_take_28 : decode cX11_take 28 = .ok (.aload_n 0, 1) := by decide +kernel
theorem dX11_take_29 : decode cX11_take 29 = .ok (.getfield 23, 3) := by decide +kernel
theorem dX11_take_32 : decode cX11_take 32 = .ok (.getfield 212, 3) := by decide +kernel
theorem dX11_take_35 : decode cX11_take 35 = .ok (.iload_n 1, 1) := by decide +kernel
theorem dX11_take_36 : decode cX11_take 36 = .ok (.invokevirtual 299, 3) := by decide +kernel
theorem dX11_take_39 : decode cX11_take 39 = .ok (.aload_n 0, 1) := by decide +kernel
theorem dX11_take_40 : decode cX11_take 40 = .ok (.aload_n 0, 1) := by decide +kernel
theorem dX11_take_41 : decode cX11_take 41 = .ok (.getfield 23, 3) := by decide +kernel
theorem dX11_take_44 : decode cX11_take 44 = .ok (.getfield 212, 3) := by decide +kernel
theorem dX11_take_47 : decode cX11_take 47 = .ok (.getfield 216, 3) := by decide +kernel
theorem dX11_take_50 : decode cX11_take 50 = .ok (.invokevirtual 187, 3) := by decide +kernel
theorem dX11_take_53 : decode cX11_take 53 = .ok (.ireturn, 1) := by decide +kernel
noncomputable def fX11_take (rf : Nat → Nat → Nat) (a0 : Nat) (x1 : Int32) (μ0 : o_Mem) : Option (Int32 × o_Mem) :=
  o_bd (fX11_within rf x1.toInt64 (0 : Int64) (((μ0.1 (rf (rf a0 4) 15) 0) - 1).toInt64) μ0) fun r1 μ1 =>
  if r1 = 0 then (
    o_bd (fX11_refuses rf a0 1 μ1) fun r3 μ4 =>
    some (r3, μ4))
  else (
    o_bd (fX1_dropAt rf (rf (rf a0 4) 15) x1 μ1) fun _u μ2 =>
    o_bd (fX11_gives rf a0 (μ2.1 (rf (rf a0 4) 15) 0) μ2) fun r2 μ3 =>
    some (r2, μ3))
set_option maxRecDepth 20000 in
theorem dnX11_take {X : o_Cx} (hX : o_ok X) {d : Nat} {a0 : Nat} {x1 : Int32} {μ0 : o_Mem} {q : Int32 → o_Mem → Prop} (h0 : o_is X a0 (.inl 11)) (h : o_Post (fX11_take (o_rf X) a0 x1 μ0) q) : o_Ev X (d + 1) mX11_take 0 [some (.ref (o_ad X a0)), some (.int x1)] [] μ0 (o_QI q) := by
  unfold fX11_take at h
  refine s_iload_n (i := 1) dX11_take_0 rfl rfl ?_
  refine s_i2l dX11_take_1 ?_
  refine s_lconst (v := 0) dX11_take_2 rfl ?_
  refine s_aload_n (i := 0) dX11_take_3 rfl rfl ?_
  refine s_getR hX h0 flX11_23 rfl dX11_take_4 (fun (g1 : o_is X (o_rf X a0 4) (.inl 8)) => ?_)
  refine s_getR hX g1 flX11_212 rfl dX11_take_7 (fun (g2 : o_is X (o_rf X (o_rf X a0 4) 15) (.inl 1)) => ?_)
  refine s_getI g2 flX11_216 rfl dX11_take_10 ?_
  refine s_iconst dX11_take_13 kI_1 ?_
  refine s_isub dX11_take_14 ?_
  refine s_i2l dX11_take_15 ?_
  refine s_callSz (C := mX11_within) (As := [.long x1.toInt64, .long (0 : Int64), .long (((μ0.1 (o_rf X (o_rf X a0 4) 15) 0) - 1).toInt64)]) (rest := []) (L0 := [some (.long x1.toInt64), none, some (.long (0 : Int64)), none, some (.long (((μ0.1 (o_rf X (o_rf X a0 4) 15) 0) - 1).toInt64)), none]) clX11_118 dX11_take_16 rfl rfl (Nat.le_of_ble_eq_true rfl) (Nat.le_of_ble_eq_true rfl) (dnX11_within hX  (o_bdp h)) (fun r1 μ1 zr1 h => ?_)
  refine s_if_ne (tgt := 28) dX11_take_19 rfl (fun c1 => ?_) (fun c1 => ?_)
  · have h := o_if_f c1 h
    refine s_aload_n (i := 0) dX11_take_28 rfl rfl ?_
    refine s_getR hX h0 flX11_23 rfl dX11_take_29 (fun (g3 : o_is X (o_rf X a0 4) (.inl 8)) => ?_)
    refine s_getR hX g3 flX11_212 rfl dX11_take_32 (fun (g4 : o_is X (o_rf X (o_rf X a0 4) 15) (.inl 1)) => ?_)
    refine s_iload_n (i := 1) dX11_take_35 rfl rfl ?_
    refine s_callVu (C := mX1_dropAt) (As := [.int x1]) (rest := []) (L0 := [some (.ref (o_ad X (o_rf X (o_rf X a0 4) 15))), some (.int x1), none]) hX g4 clX11_299 dX11_take_36 rfl rfl (Nat.le_of_ble_eq_true rfl) (Nat.le_of_ble_eq_true rfl) (dnX1_dropAt hX g4 (o_bdp h)) (fun _u μ2 h => ?_)
    refine s_aload_n (i := 0) dX11_take_39 rfl rfl ?_
    refine s_aload_n (i := 0) dX11_take_40 rfl rfl ?_
    refine s_getR hX h0 flX11_23 rfl dX11_take_41 (fun (g5 : o_is X (o_rf X a0 4) (.inl 8)) => ?_)
    refine s_getR hX g5 flX11_212 rfl dX11_take_44 (fun (g6 : o_is X (o_rf X (o_rf X a0 4) 15) (.inl 1)) => ?_)
    refine s_getI g6 flX11_216 rfl dX11_take_47 ?_
    refine s_callVi (C := mX11_gives) (As := [.int (μ2.1 (o_rf X (o_rf X a0 4) 15) 0)]) (rest := []) (L0 := [some (.ref (o_ad X a0)), some (.int (μ2.1 (o_rf X (o_rf X a0 4) 15) 0))]) hX h0 clX11_187 dX11_take_50 rfl rfl (Nat.le_of_ble_eq_true rfl) (Nat.le_of_ble_eq_true rfl) (dnX11_gives hX h0 (o_bdp h)) (fun r2 μ3 h => ?_)
    exact s_ireturn rfl dX11_take_53 ⟨_, rfl, o_ret h⟩
  · have h := o_if_t c1 h
    refine s_aload_n (i := 0) dX11_take_22 rfl rfl ?_
    refine s_iconst dX11_take_23 kI_1 ?_
    refine s_callVi (C := mX11_refuses) (As := [.int 1]) (rest := []) (L0 := [some (.ref (o_ad X a0)), some (.int 1)]) hX h0 clX11_139 dX11_take_24 rfl rfl (Nat.le_of_ble_eq_true rfl) (Nat.le_of_ble_eq_true rfl) (dnX11_refuses hX h0 (o_bdp h)) (fun r3 μ4 h => ?_)
    exact s_ireturn rfl dX11_take_27 ⟨_, rfl, o_ret h⟩
theorem dX11_wrapped_0 : decode cX11_wrapped 0 = .ok (.iload_n 1, 1) := by decide +kernel
theorem dX11_wrapped_1 : decode cX11_wrapped 1 = .ok (.i2l, 1) := by decide +kernel
theorem dX11_wrapped_2 : decode cX11_wrapped 2 = .ok (.lconst 0, 1) := by decide +kernel
theorem dX11_wrapped_3 : decode cX11_wrapped 3 = .ok (.aload_n 0, 1) := by decide +kernel
theorem dX11_wrapped_4 : decode cX11_wrapped 4 = .ok (.getfield 23, 3) := by decide +kernel
theorem dX11_wrapped_7 : decode cX11_wrapped 7 = .ok (.getfield 212, 3) := by decide +kernel
theorem dX11_wrapped_10 : decode cX11_wrapped 10 = .ok (.getfield 216, 3) := by decide +kernel
theorem dX11_wrapped_13 : decode cX11_wrapped 13 = .ok (.iconst 1, 1) := by decide +kernel
theorem dX11_wrapped_14 : decode cX11_wrapped 14 = .ok (.isub, 1) := by decide +kernel
theorem dX11_wrapped_15 : decode cX11_wrapped 15 = .ok (.i2l, 1) := by decide +kernel
theorem dX11_wrapped_16 : decode cX11_wrapped 16 = .ok (.invokestatic 118, 3) := by decide +kernel
theorem dX11_wrapped_19 : decode cX11_wrapped 19 = .ok (.ifCond .eq 15, 3) := by decide +kernel
theorem dX11_wrapped_22 : decode cX11_wrapped 22 = .ok (.iload_n 2, 1) := by decide +kernel
theorem dX11_wrapped_23 : decode cX11_wrapped 23 = .ok (.i2l, 1) := by decide +kernel
theorem dX11_wrapped_24 : decode cX11_wrapped 24 = .ok (.lconst 1, 1) := by decide +kernel
theorem dX11_wrapped_25 : decode cX11_wrapped 25 = .ok (.ldc2_w 302, 3) := by decide +kernel
theorem dX11_wrapped_28 : decode cX11_wrapped 28 = .ok (.invokestatic 118, 3) := by decide +kernel
theorem dX11_wrapped_31 : decode cX11_wrapped 31 = .ok (.ifCond .ne 9, 3) := by decide +kernel
theorem dX11_wrapped_34 : decode cX11_wrapped 34 = .ok (.aload_n 0, 1) := by decide +kernel
theorem dX11_wrapped_35 : decode cX11_wrapped 35 = .ok (.iconst 1, 1) := by decide +kernel
theorem dX11_wrapped_36 : decode cX11_wrapped 36 = .ok (.invokevirtual 139, 3) := by decide +kernel
theorem dX11_wrapped_39 : decode cX11_wrapped 39 = .ok (.ireturn, 1) := by decide +kernel
theorem dX11_wrapped_40 : decode cX11_wrapped 40 = .ok (.aload_n 0, 1) := by decide +kernel
theorem dX11_wrapped_41 : decode cX11_wrapped 41 = .ok (.getfield 23, 3) := by decide +kernel
theorem dX11_wrapped_44 : decode cX11_wrapped 44 = .ok (.getfield 212, 3) := by decide +kernel
theorem dX11_wrapped_47 : decode cX11_wrapped 47 = .ok (.getfield 304, 3) := by decide +kernel
theorem dX11_wrapped_50 : decode cX11_wrapped 50 = .ok (.iload_n 1, 1) := by decide +kernel
theorem dX11_wrapped_51 : decode cX11_wrapped 51 = .ok (.iaload, 1) := by decide +kernel
theorem dX11_wrapped_52 : decode cX11_wrapped 52 = .ok (.iload_n 2, 1) := by decide +kernel
theorem dX11_wrapped_53 : decode cX11_wrapped 53 = .ok (.iadd, 1) := by decide +kernel
theorem dX11_wrapped_54 : decode cX11_wrapped 54 = .ok (.istore_n 3, 1) := by decide +kernel
theorem dX11_wrapped_55 : decode cX11_wrapped 55 = .ok (.iload_n 3, 1) := by decide +kernel
theorem dX11_wrapped_56 : decode cX11_wrapped 56 = .ok (.bipush 99, 2) := by decide +kernel
theorem dX11_wrapped_58 : decode cX11_wrapped 58 = .ok (.if_icmp .le 10, 3) := by decide +kernel
theorem dX11_wrapped_61 : decode cX11_wrapped 61 = .ok (.aload_n 0, 1) := by decide +kernel
theorem dX11_wrapped_62 : decode cX11_wrapped 62 = .ok (.bipush 7, 2) := by decide +kernel
theorem dX11_wrapped_64 : decode cX11_wrapped 64 = .ok (.invokevirtual 139, 3) := by decide +kernel
theorem dX11_wrapped_67 : decode cX11_wrapped 67 = .ok (.ireturn, 1) := by decide +kernel
theorem dX11_wrapped_68 : decode cX11_wrapped 68 = .ok (.aload_n 0, 1) := by decide +kernel
theorem dX11_wrapped_69 : decode cX11_wrapped 69 = .ok (.getfield 23, 3) := by decide +kernel
theorem dX11_wrapped_72 : decode cX11_wrapped 72 = .ok (.getfield 212, 3) := by decide +kernel
theorem dX11_wrapped_75 : decode cX11_wrapped 75 = .ok (.getfield 304, 3) := by decide +kernel
theorem dX11_wrapped_78 : decode cX11_wrapped 78 = .ok (.iload_n 1, 1) := by decide +kernel
theorem dX11_wrapped_79 : decode cX11_wrapped 79 = .ok (.iload_n 3, 1) := by decide +kernel
theorem dX11_wrapped_80 : decode cX11_wrapped 80 = .ok (.iastore, 1) := by decide +kernel
theorem dX11_wrapped_81 : decode cX11_wrapped 81 = .ok (.aload_n 0, 1) := by decide +kernel
theorem dX11_wrapped_82 : decode cX11_wrapped 82 = .ok (.iload_n 3, 1) := by decide +kernel
theorem dX11_wrapped_83 : decode cX11_wrapped 83 = .ok (.invokevirtual 187, 3) := by decide +kernel
theorem dX11_wrapped_86 : decode cX11_wrapped 86 = .ok (.ireturn, 1) := by decide +kernel
noncomputable def fX11_wrapped_j34 (rf : Nat → Nat → Nat) (a0 : Nat) (μ0 : o_Mem) : Option (Int32 × o_Mem) :=
  o_bd (fX11_refuses rf a0 1 μ0) fun r1 μ1 =>
  some (r1, μ1)
noncomputable def fX11_wrapped (rf : Nat → Nat → Nat) (a0 : Nat) (x1 : Int32) (x2 : Int32) (μ0 : o_Mem) : Option (Int32 × o_Mem) :=
  o_bd (fX11_within rf x1.toInt64 (0 : Int64) (((μ0.1 (rf (rf a0 4) 15) 0) - 1).toInt64) μ0) fun r1 μ1 =>
  if r1 = 0 then (
    fX11_wrapped_j34 rf a0 μ1)
  else (
    o_bd (fX11_within rf x2.toInt64 (1 : Int64) (98 : Int64) μ1) fun r2 μ2 =>
    if r2 = 0 then (
      fX11_wrapped_j34 rf a0 μ2)
    else (
      o_ck (0 ≤ (x1).toInt ∧ (x1).toInt < 12) <|
      if ((μ2.1 (rf (rf (rf a0 4) 15) 3) x1.toNatClampNeg) + x2) ≤ 99 then (
        o_ck (0 ≤ (x1).toInt ∧ (x1).toInt < 12) <|
        o_seq (o_wI μ2 (rf (rf (rf a0 4) 15) 3) x1.toNatClampNeg ((μ2.1 (rf (rf (rf a0 4) 15) 3) x1.toNatClampNeg) + x2)) fun μ3 =>
        o_bd (fX11_gives rf a0 ((μ2.1 (rf (rf (rf a0 4) 15) 3) x1.toNatClampNeg) + x2) μ3) fun r3 μ4 =>
        some (r3, μ4))
      else (
        o_bd (fX11_refuses rf a0 7 μ2) fun r4 μ5 =>
        some (r4, μ5))))
set_option maxRecDepth 20000 in
theorem dnX11_wrapped_j34 {X : o_Cx} (hX : o_ok X) {d : Nat} {a0 : Nat} {μ0 : o_Mem} {q : Int32 → o_Mem → Prop} (h0 : o_is X a0 (.inl 11)) (h : o_Post (fX11_wrapped_j34 (o_rf X) a0 μ0) q) : o_Ev X (d + 1) mX11_wrapped 34 [some (.ref (o_ad X a0)), none, none, none] [] μ0 (o_QI q) := by
  unfold fX11_wrapped_j34 at h
  refine s_aload_n (i := 0) dX11_wrapped_34 rfl rfl ?_
  refine s_iconst dX11_wrapped_35 kI_1 ?_
  refine s_callVi (C := mX11_refuses) (As := [.int 1]) (rest := []) (L0 := [some (.ref (o_ad X a0)), some (.int 1)]) hX h0 clX11_139 dX11_wrapped_36 rfl rfl (Nat.le_of_ble_eq_true rfl) (Nat.le_of_ble_eq_true rfl) (dnX11_refuses hX h0 (o_bdp h)) (fun r1 μ1 h => ?_)
  exact s_ireturn rfl dX11_wrapped_39 ⟨_, rfl, o_ret h⟩
set_option maxRecDepth 20000 in
theorem dnX11_wrapped {X : o_Cx} (hX : o_ok X) {d : Nat} {a0 : Nat} {x1 : Int32} {x2 : Int32} {μ0 : o_Mem} {q : Int32 → o_Mem → Prop} (h0 : o_is X a0 (.inl 11)) (h : o_Post (fX11_wrapped (o_rf X) a0 x1 x2 μ0) q) : o_Ev X (d + 1) mX11_wrapped 0 [some (.ref (o_ad X a0)), some (.int x1), some (.int x2), none] [] μ0 (o_QI q) := by
  unfold fX11_wrapped at h
  refine s_iload_n (i := 1) dX11_wrapped_0 rfl rfl ?_
  refine s_i2l dX11_wrapped_1 ?_
  refine s_lconst (v := 0) dX11_wrapped_2 rfl ?_
  refine s_aload_n (i := 0) dX11_wrapped_3 rfl rfl ?_
  refine s_getR hX h0 flX11_23 rfl dX11_wrapped_4 (fun (g1 : o_is X (o_rf X a0 4) (.inl 8)) => ?_)
  refine s_getR hX g1 flX11_212 rfl dX11_wrapped_7 (fun (g2 : o_is X (o_rf X (o_rf X a0 4) 15) (.inl 1)) => ?_)
  refine s_getI g2 flX11_216 rfl dX11_wrapped_10 ?_
  refine s_iconst dX11_wrapped_13 kI_1 ?_
  refine s_isub dX11_wrapped_14 ?_
  refine s_i2l dX11_wrapped_15 ?_
  refine s_callSz (C := mX11_within) (As := [.long x1.toInt64, .long (0 : Int64), .long (((μ0.1 (o_rf X (o_rf X a0 4) 15) 0) - 1).toInt64)]) (rest := []) (L0 := [some (.long x1.toInt64), none, some (.long (0 : Int64)), none, some (.long (((μ0.1 (o_rf X (o_rf X a0 4) 15) 0) - 1).toInt64)), none]) clX11_118 dX11_wrapped_16 rfl rfl (Nat.le_of_ble_eq_true rfl) (Nat.le_of_ble_eq_true rfl) (dnX11_within hX  (o_bdp h)) (fun r1 μ1 zr1 h => ?_)
  refine s_if_eq (tgt := 34) dX11_wrapped_19 rfl (fun c1 => ?_) (fun c1 => ?_)
  · have h := o_if_t c1 h
    refine s_mask [true, false, false, false] (L' := [some (.ref (o_ad X a0)), none, none, none]) rfl ?_
    exact dnX11_wrapped_j34 hX h0 h
  · have h := o_if_f c1 h
    refine s_iload_n (i := 2) dX11_wrapped_22 rfl rfl ?_
    refine s_i2l dX11_wrapped_23 ?_
    refine s_lconst (v := 1) dX11_wrapped_24 rfl ?_
    refine s_ldc2 (v := 98) w_5_4 dX11_wrapped_25 ?_
    refine s_callSz (C := mX11_within) (As := [.long x2.toInt64, .long (1 : Int64), .long (98 : Int64)]) (rest := []) (L0 := [some (.long x2.toInt64), none, some (.long (1 : Int64)), none, some (.long (98 : Int64)), none]) clX11_118 dX11_wrapped_28 rfl rfl (Nat.le_of_ble_eq_true rfl) (Nat.le_of_ble_eq_true rfl) (dnX11_within hX  (o_bdp h)) (fun r2 μ2 zr2 h => ?_)
    refine s_if_ne (tgt := 40) dX11_wrapped_31 rfl (fun c1 => ?_) (fun c1 => ?_)
    · have h := o_if_f c1 h
      refine s_aload_n (i := 0) dX11_wrapped_40 rfl rfl ?_
      refine s_getR hX h0 flX11_23 rfl dX11_wrapped_41 (fun (g3 : o_is X (o_rf X a0 4) (.inl 8)) => ?_)
      refine s_getR hX g3 flX11_212 rfl dX11_wrapped_44 (fun (g4 : o_is X (o_rf X (o_rf X a0 4) 15) (.inl 1)) => ?_)
      refine s_getR hX g4 flX11_304 rfl dX11_wrapped_47 (fun (g5 : o_is X (o_rf X (o_rf X (o_rf X a0 4) 15) 3) (.inr (0, 12))) => ?_)
      refine s_iload_n (i := 1) dX11_wrapped_50 rfl rfl ?_
      have hc := o_ck_c h
      have h := o_ck_k h
      refine s_ialdK g5 hc rfl dX11_wrapped_51 ?_
      refine s_iload_n (i := 2) dX11_wrapped_52 rfl rfl ?_
      refine s_iadd dX11_wrapped_53 ?_
      refine s_istore_n (i := 3) dX11_wrapped_54 rfl (Nat.le_of_ble_eq_true rfl) rfl ?_
      refine s_iload_n (i := 3) dX11_wrapped_55 rfl rfl ?_
      refine s_bipush dX11_wrapped_56 kB_99 ?_
      refine s_icmp_le (tgt := 68) dX11_wrapped_58 rfl (fun c1 => ?_) (fun c1 => ?_)
      · have h := o_if_t c1 h
        refine s_aload_n (i := 0) dX11_wrapped_68 rfl rfl ?_
        refine s_getR hX h0 flX11_23 rfl dX11_wrapped_69 (fun (g6 : o_is X (o_rf X a0 4) (.inl 8)) => ?_)
        refine s_getR hX g6 flX11_212 rfl dX11_wrapped_72 (fun (g7 : o_is X (o_rf X (o_rf X a0 4) 15) (.inl 1)) => ?_)
        refine s_getR hX g7 flX11_304 rfl dX11_wrapped_75 (fun (g8 : o_is X (o_rf X (o_rf X (o_rf X a0 4) 15) 3) (.inr (0, 12))) => ?_)
        refine s_iload_n (i := 1) dX11_wrapped_78 rfl rfl ?_
        refine s_iload_n (i := 3) dX11_wrapped_79 rfl rfl ?_
        have hc := o_ck_c h
        have h := o_ck_k h
        refine s_iastK hX g8 hc rfl dX11_wrapped_80 (o_gen h (fun μ3 h => ?_))
        refine s_aload_n (i := 0) dX11_wrapped_81 rfl rfl ?_
        refine s_iload_n (i := 3) dX11_wrapped_82 rfl rfl ?_
        refine s_callVi (C := mX11_gives) (As := [.int ((μ2.1 (o_rf X (o_rf X (o_rf X a0 4) 15) 3) x1.toNatClampNeg) + x2)]) (rest := []) (L0 := [some (.ref (o_ad X a0)), some (.int ((μ2.1 (o_rf X (o_rf X (o_rf X a0 4) 15) 3) x1.toNatClampNeg) + x2))]) hX h0 clX11_187 dX11_wrapped_83 rfl rfl (Nat.le_of_ble_eq_true rfl) (Nat.le_of_ble_eq_true rfl) (dnX11_gives hX h0 (o_bdp h)) (fun r3 μ4 h => ?_)
        exact s_ireturn rfl dX11_wrapped_86 ⟨_, rfl, o_ret h⟩
      · have h := o_if_f c1 h
        refine s_aload_n (i := 0) dX11_wrapped_61 rfl rfl ?_
        refine s_bipush dX11_wrapped_62 kB_7 ?_
        refine s_callVi (C := mX11_refuses) (As := [.int 7]) (rest := []) (L0 := [some (.ref (o_ad X a0)), some (.int 7)]) hX h0 clX11_139 dX11_wrapped_64 rfl rfl (Nat.le_of_ble_eq_true rfl) (Nat.le_of_ble_eq_true rfl) (dnX11_refuses hX h0 (o_bdp h)) (fun r4 μ5 h => ?_)
        exact s_ireturn rfl dX11_wrapped_67 ⟨_, rfl, o_ret h⟩
    · have h := o_if_t c1 h
      refine s_mask [true, false, false, false] (L' := [some (.ref (o_ad X a0)), none, none, none]) rfl ?_
      exact dnX11_wrapped_j34 hX h0 h
theorem dX11_learn_0 : decode cX11_learn 0 = .ok (.aload_n 0, 1) := by decide +kernel
theorem dX11_learn_1 : decode cX11_learn 1 = .ok (.getfield 23, 3) := by decide +kernel
theorem dX11_learn_4 : decode cX11_learn 4 = .ok (.iload_n 1, 1) := by decide +kernel
theorem dX11_learn_5 : decode cX11_learn 5 = .ok (.invokevirtual 248, 3) := by decide +kernel
theorem dX11_learn_8 : decode cX11_learn 8 = .ok (.ifCond .eq 14, 3) := by decide +kernel
theorem dX11_learn_11 : decode cX11_learn 11 = .ok (.aload_n 0, 1) := by decide +kernel
theorem dX11_learn_12 : decode cX11_learn 12 = .ok (.getfield 23, 3) := by decide +kernel
theorem dX11_learn_15 : decode cX11_learn 15 = .ok (.iload_n 2, 1) := by decide +kernel
theorem dX11_learn_16 : decode cX11_learn 16 = .ok (.invokevirtual 307, 3) := by decide +kernel
theorem dX11_learn_19 : decode cX11_learn 19 = .ok (.ifCond .ne 9, 3) := by decide +kernel
theorem dX11_learn_22 : decode cX11_learn 22 = .ok (.aload_n 0, 1) := by decide +kernel
theorem dX11_learn_23 : decode cX11_learn 23 = .ok (.iconst 1, 1) := by decide +kernel
theorem dX11_learn_24 : decode cX11_learn 24 = .ok (.invokevirtual 124, 3) := by decide +kernel
theorem dX11_learn_27 : decode cX11_learn 27 = .ok (.ireturn, 1) := by decide +kernel
theorem dX11_learn_28 : decode cX11_learn 28 = .ok (.aload_n 0, 1) := by decide +kernel
theorem dX11_learn_29 : decode cX11_learn 29 = .ok (.getfield 23, 3) := by decide +kernel
theorem dX11_learn_32 : decode cX11_learn 32 = .ok (.getfield 251, 3) := by decide +kernel
theorem dX11_learn_35 : decode cX11_learn 35 = .ok (.iload_n 1, 1) := by decide +kernel
theorem dX11_learn_36 : decode cX11_learn 36 = .ok (.iload_n 2, 1) := by decide +kernel
theorem dX11_learn_37 : decode cX11_learn 37 = .ok (.iastore, 1) := by decide +kernel
theorem dX11_learn_38 : decode cX11_learn 38 = .ok (.aload_n 0, 1) := by decide +kernel
theorem dX11_learn_39 : decode cX11_learn 39 = .ok (.iconst 0, 1) := by decide +kernel
theorem dX11_learn_40 : decode cX11_learn 40 = .ok (.invokevirtual 124, 3) := by decide +kernel
theorem dX11_learn_43 : decode cX11_learn 43 = .ok (.ireturn, 1) := by decide +kernel
noncomputable def fX11_learn_j22 (rf : Nat → Nat → Nat) (a0 : Nat) (μ0 : o_Mem) : Option (Int32 × o_Mem) :=
  o_bd (fX11_ends rf a0 1 μ0) fun r1 μ1 =>
  some (r1, μ1)
noncomputable def fX11_learn (rf : Nat → Nat → Nat) (a0 : Nat) (x1 : Int32) (x2 : Int32) (μ0 : o_Mem) : Option (Int32 × o_Mem) :=
  o_bd (fX8_isPerson rf (rf a0 4) x1 μ0) fun r1 μ1 =>
  if r1 = 0 then (
    fX11_learn_j22 rf a0 μ1)
  else (
    o_bd (fX8_isHand rf (rf a0 4) x2 μ1) fun r2 μ2 =>
    if r2 = 0 then (
      fX11_learn_j22 rf a0 μ2)
    else (
      o_ck (0 ≤ (x1).toInt ∧ (x1).toInt < 6) <|
      o_seq (o_wI μ2 (rf (rf a0 4) 11) x1.toNatClampNeg x2) fun μ3 =>
      o_bd (fX11_ends rf a0 0 μ3) fun r3 μ4 =>
      some (r3, μ4)))
set_option maxRecDepth 20000 in
theorem dnX11_learn_j22 {X : o_Cx} (hX : o_ok X) {d : Nat} {a0 : Nat} {μ0 : o_Mem} {q : Int32 → o_Mem → Prop} (h0 : o_is X a0 (.inl 11)) (h : o_Post (fX11_learn_j22 (o_rf X) a0 μ0) q) : o_Ev X (d + 1) mX11_learn 22 [some (.ref (o_ad X a0)), none, none] [] μ0 (o_QZ q) := by
  unfold fX11_learn_j22 at h
  refine s_aload_n (i := 0) dX11_learn_22 rfl rfl ?_
  refine s_iconst dX11_learn_23 kI_1 ?_
  refine s_callVz (C := mX11_ends) (As := [.int 1]) (rest := []) (L0 := [some (.ref (o_ad X a0)), some (.int 1)]) hX h0 clX11_124 dX11_learn_24 rfl rfl (Nat.le_of_ble_eq_true rfl) (Nat.le_of_ble_eq_true rfl) (dnX11_ends hX h0 (o_bdp h)) (fun r1 μ1 zr1 h => ?_)
  exact s_zreturn rfl zr1 dX11_learn_27 ⟨_, rfl, zr1, o_ret h⟩
set_option maxRecDepth 20000 in
theorem dnX11_learn {X : o_Cx} (hX : o_ok X) {d : Nat} {a0 : Nat} {x1 : Int32} {x2 : Int32} {μ0 : o_Mem} {q : Int32 → o_Mem → Prop} (h0 : o_is X a0 (.inl 11)) (h : o_Post (fX11_learn (o_rf X) a0 x1 x2 μ0) q) : o_Ev X (d + 1) mX11_learn 0 [some (.ref (o_ad X a0)), some (.int x1), some (.int x2)] [] μ0 (o_QZ q) := by
  unfold fX11_learn at h
  refine s_aload_n (i := 0) dX11_learn_0 rfl rfl ?_
  refine s_getR hX h0 flX11_23 rfl dX11_learn_1 (fun (g1 : o_is X (o_rf X a0 4) (.inl 8)) => ?_)
  refine s_iload_n (i := 1) dX11_learn_4 rfl rfl ?_
  refine s_callVz (C := mX8_isPerson) (As := [.int x1]) (rest := []) (L0 := [some (.ref (o_ad X (o_rf X a0 4))), some (.int x1)]) hX g1 clX11_248 dX11_learn_5 rfl rfl (Nat.le_of_ble_eq_true rfl) (Nat.le_of_ble_eq_true rfl) (dnX8_isPerson hX g1 (o_bdp h)) (fun r1 μ1 zr1 h => ?_)
  refine s_if_eq (tgt := 22) dX11_learn_8 rfl (fun c1 => ?_) (fun c1 => ?_)
  · have h := o_if_t c1 h
    refine s_mask [true, false, false] (L' := [some (.ref (o_ad X a0)), none, none]) rfl ?_
    exact dnX11_learn_j22 hX h0 h
  · have h := o_if_f c1 h
    refine s_aload_n (i := 0) dX11_learn_11 rfl rfl ?_
    refine s_getR hX h0 flX11_23 rfl dX11_learn_12 (fun (g2 : o_is X (o_rf X a0 4) (.inl 8)) => ?_)
    refine s_iload_n (i := 2) dX11_learn_15 rfl rfl ?_
    refine s_callVz (C := mX8_isHand) (As := [.int x2]) (rest := []) (L0 := [some (.ref (o_ad X (o_rf X a0 4))), some (.int x2)]) hX g2 clX11_307 dX11_learn_16 rfl rfl (Nat.le_of_ble_eq_true rfl) (Nat.le_of_ble_eq_true rfl) (dnX8_isHand hX g2 (o_bdp h)) (fun r2 μ2 zr2 h => ?_)
    refine s_if_ne (tgt := 28) dX11_learn_19 rfl (fun c1 => ?_) (fun c1 => ?_)
    · have h := o_if_f c1 h
      refine s_aload_n (i := 0) dX11_learn_28 rfl rfl ?_
      refine s_getR hX h0 flX11_23 rfl dX11_learn_29 (fun (g3 : o_is X (o_rf X a0 4) (.inl 8)) => ?_)
      refine s_getR hX g3 flX11_251 rfl dX11_learn_32 (fun (g4 : o_is X (o_rf X (o_rf X a0 4) 11) (.inr (0, 6))) => ?_)
      refine s_iload_n (i := 1) dX11_learn_35 rfl rfl ?_
      refine s_iload_n (i := 2) dX11_learn_36 rfl rfl ?_
      have hc := o_ck_c h
      have h := o_ck_k h
      refine s_iastK hX g4 hc rfl dX11_learn_37 (o_gen h (fun μ3 h => ?_))
      refine s_aload_n (i := 0) dX11_learn_38 rfl rfl ?_
      refine s_iconst dX11_learn_39 kI_0 ?_
      refine s_callVz (C := mX11_ends) (As := [.int 0]) (rest := []) (L0 := [some (.ref (o_ad X a0)), some (.int 0)]) hX h0 clX11_124 dX11_learn_40 rfl rfl (Nat.le_of_ble_eq_true rfl) (Nat.le_of_ble_eq_true rfl) (dnX11_ends hX h0 (o_bdp h)) (fun r3 μ4 zr3 h => ?_)
      exact s_zreturn rfl zr3 dX11_learn_43 ⟨_, rfl, zr3, o_ret h⟩
    · have h := o_if_t c1 h
      refine s_mask [true, false, false] (L' := [some (.ref (o_ad X a0)), none, none]) rfl ?_
      exact dnX11_learn_j22 hX h0 h
theorem dX11_teach_0 : decode cX11_teach 0 = .ok (.aload_n 0, 1) := by decide +kernel
theorem dX11_teach_1 : decode cX11_teach 1 = .ok (.getfield 23, 3) := by decide +kernel
theorem dX11_teach_4 : decode cX11_teach 4 = .ok (.iload_n 1, 1) := by decide +kernel
theorem dX11_teach_5 : decode cX11_teach 5 = .ok (.iload_n 2, 1) := by decide +kernel
theorem dX11_teach_6 : decode cX11_teach 6 = .ok (.invokevirtual 262, 3) := by decide +kernel
theorem dX11_teach_9 : decode cX11_teach 9 = .ok (.ifCond .eq 32, 3) := by decide +kernel
theorem dX11_teach_12 : decode cX11_teach 12 = .ok (.aload_n 0, 1) := by decide +kernel
theorem dX11_teach_13 : decode cX11_teach 13 = .ok (.getfield 23, 3) := by decide +kernel
theorem dX11_teach_16 : decode cX11_teach 16 = .ok (.iload_n 3, 1) := by decide +kernel
theorem dX11_teach_17 : decode cX11_teach 17 = .ok (.invokevirtual 248, 3) := by decide +kernel
theorem dX11_teach_20 : decode cX11_teach 20 = .ok (.ifCond .eq 21, 3) := by decide +kernel
theorem dX11_teach_23 : decode cX11_teach 23 = .ok (.iload_n 3, 1) := by decide +kernel
theorem dX11_teach_24 : decode cX11_teach 24 = .ok (.iload_n 1, 1) := by decide +kernel
theorem dX11_teach_25 : decode cX11_teach 25 = .ok (.if_icmp .eq 16, 3) := by decide +kernel
theorem dX11_teach_28 : decode cX11_teach 28 = .ok (.iload 4, 2) := by decide +kernel
theorem dX11_teach_30 : decode cX11_teach 30 = .ok (.i2l, 1) := by decide +kernel
theorem dX11_teach_31 : decode cX11_teach 31 = .ok (.lconst 1, 1) := by decide +kernel
theorem dX11_teach_32 : decode cX11_teach 32 = .ok (.ldc2_w 291, 3) := by decide +kernel
theorem dX11_teach_35 : decode cX11_teach 35 = .ok (.invokestatic 118, 3) := by decide +kernel
theorem dX11_teach_38 : decode cX11_teach 38 = .ok (.ifCond .ne 9, 3) := by decide +kernel
theorem dX11_teach_41 : decode cX11_teach 41 = .ok (.aload_n 0, 1) := by decide +kernel
theorem dX11_teach_42 : decode cX11_teach 42 = .ok (.iconst 1, 1) := by decide +kernel
theorem dX11_teach_43 : decode cX11_teach 43 = .ok (.invokevirtual 124, 3) := by decide +kernel
theorem dX11_teach_46 : decode cX11_teach 46 = .ok (.ireturn, 1) := by decide +kernel
theorem dX11_teach_47 : decode cX11_teach 47 = .ok (.aload_n 0, 1) := by decide +kernel
theorem dX11_teach_48 : decode cX11_teach 48 = .ok (.getfield 23, 3) := by decide +kernel
theorem dX11_teach_51 : decode cX11_teach 51 = .ok (.iload_n 1, 1) := by decide +kernel
theorem dX11_teach_52 : decode cX11_teach 52 = .ok (.iload_n 2, 1) := by decide +kernel
theorem dX11_teach_53 : decode cX11_teach 53 = .ok (.iload_n 3, 1) := by decide +kernel
theorem dX11_teach_54 : decode cX11_teach 54 = .ok (.iload 4, 2) := by decide +kernel
theorem dX11_teach_56 : decode cX11_teach 56 = .ok (.invokevirtual 310, 3) := by decide +kernel
theorem dX11_teach_59 : decode cX11_teach 59 = .ok (.aload_n 0, 1) := by decide +kernel
theorem dX11_teach_60 : decode cX11_teach 60 = .ok (.iconst 0, 1) := by decide +kernel
theorem dX11_teach_61 : decode cX11_teach 61 = .ok (.invokevirtual 124, 3) := by decide +kernel
theorem dX11_teach_64 : decode cX11_teach 64 = .ok (.ireturn, 1) := by decide +kernel
noncomputable def fX11_teach_j41 (rf : Nat → Nat → Nat) (a0 : Nat) (μ0 : o_Mem) : Option (Int32 × o_Mem) :=
  o_bd (fX11_ends rf a0 1 μ0) fun r1 μ1 =>
  some (r1, μ1)
noncomputable def fX11_teach (rf : Nat → Nat → Nat) (a0 : Nat) (x1 : Int32) (x2 : Int32) (x3 : Int32) (x4 : Int32) (μ0 : o_Mem) : Option (Int32 × o_Mem) :=
  o_bd (fX8_isCouple rf (rf a0 4) x1 x2 μ0) fun r1 μ1 =>
  if r1 = 0 then (
    fX11_teach_j41 rf a0 μ1)
  else (
    o_bd (fX8_isPerson rf (rf a0 4) x3 μ1) fun r2 μ2 =>
    if r2 = 0 then (
      fX11_teach_j41 rf a0 μ2)
    else (
      if x3 = x1 then (
        fX11_teach_j41 rf a0 μ2)
      else (
        o_bd (fX11_within rf x4.toInt64 (1 : Int64) (99 : Int64) μ2) fun r3 μ3 =>
        if r3 = 0 then (
          fX11_teach_j41 rf a0 μ3)
        else (
          o_bd (fX8_setActs rf (rf a0 4) x1 x2 x3 x4 μ3) fun _u μ4 =>
          o_bd (fX11_ends rf a0 0 μ4) fun r4 μ5 =>
          some (r4, μ5)))))
set_option maxRecDepth 20000 in
theorem dnX11_teach_j41 {X : o_Cx} (hX : o_ok X) {d : Nat} {a0 : Nat} {μ0 : o_Mem} {q : Int32 → o_Mem → Prop} (h0 : o_is X a0 (.inl 11)) (h : o_Post (fX11_teach_j41 (o_rf X) a0 μ0) q) : o_Ev X (d + 2) mX11_teach 41 [some (.ref (o_ad X a0)), none, none, none, none] [] μ0 (o_QZ q) := by
  unfold fX11_teach_j41 at h
  refine s_aload_n (i := 0) dX11_teach_41 rfl rfl ?_
  refine s_iconst dX11_teach_42 kI_1 ?_
  refine s_callVz (C := mX11_ends) (As := [.int 1]) (rest := []) (L0 := [some (.ref (o_ad X a0)), some (.int 1)]) hX h0 clX11_124 dX11_teach_43 rfl rfl (Nat.le_of_ble_eq_true rfl) (Nat.le_of_ble_eq_true rfl) (dnX11_ends hX h0 (o_bdp h)) (fun r1 μ1 zr1 h => ?_)
  exact s_zreturn rfl zr1 dX11_teach_46 ⟨_, rfl, zr1, o_ret h⟩
set_option maxRecDepth 20000 in
theorem dnX11_teach {X : o_Cx} (hX : o_ok X) {d : Nat} {a0 : Nat} {x1 : Int32} {x2 : Int32} {x3 : Int32} {x4 : Int32} {μ0 : o_Mem} {q : Int32 → o_Mem → Prop} (h0 : o_is X a0 (.inl 11)) (h : o_Post (fX11_teach (o_rf X) a0 x1 x2 x3 x4 μ0) q) : o_Ev X (d + 2) mX11_teach 0 [some (.ref (o_ad X a0)), some (.int x1), some (.int x2), some (.int x3), some (.int x4)] [] μ0 (o_QZ q) := by
  unfold fX11_teach at h
  refine s_aload_n (i := 0) dX11_teach_0 rfl rfl ?_
  refine s_getR hX h0 flX11_23 rfl dX11_teach_1 (fun (g1 : o_is X (o_rf X a0 4) (.inl 8)) => ?_)
  refine s_iload_n (i := 1) dX11_teach_4 rfl rfl ?_
  refine s_iload_n (i := 2) dX11_teach_5 rfl rfl ?_
  refine s_callVz (C := mX8_isCouple) (As := [.int x1, .int x2]) (rest := []) (L0 := [some (.ref (o_ad X (o_rf X a0 4))), some (.int x1), some (.int x2)]) hX g1 clX11_262 dX11_teach_6 rfl rfl (Nat.le_of_ble_eq_true rfl) (Nat.le_of_ble_eq_true rfl) (dnX8_isCouple hX g1 (o_bdp h)) (fun r1 μ1 zr1 h => ?_)
  refine s_if_eq (tgt := 41) dX11_teach_9 rfl (fun c1 => ?_) (fun c1 => ?_)
  · have h := o_if_t c1 h
    refine s_mask [true, false, false, false, false] (L' := [some (.ref (o_ad X a0)), none, none, none, none]) rfl ?_
    exact dnX11_teach_j41 hX h0 h
  · have h := o_if_f c1 h
    refine s_aload_n (i := 0) dX11_teach_12 rfl rfl ?_
    refine s_getR hX h0 flX11_23 rfl dX11_teach_13 (fun (g2 : o_is X (o_rf X a0 4) (.inl 8)) => ?_)
    refine s_iload_n (i := 3) dX11_teach_16 rfl rfl ?_
    refine s_callVz (C := mX8_isPerson) (As := [.int x3]) (rest := []) (L0 := [some (.ref (o_ad X (o_rf X a0 4))), some (.int x3)]) hX g2 clX11_248 dX11_teach_17 rfl rfl (Nat.le_of_ble_eq_true rfl) (Nat.le_of_ble_eq_true rfl) (dnX8_isPerson hX g2 (o_bdp h)) (fun r2 μ2 zr2 h => ?_)
    refine s_if_eq (tgt := 41) dX11_teach_20 rfl (fun c1 => ?_) (fun c1 => ?_)
    · have h := o_if_t c1 h
      refine s_mask [true, false, false, false, false] (L' := [some (.ref (o_ad X a0)), none, none, none, none]) rfl ?_
      exact dnX11_teach_j41 hX h0 h
    · have h := o_if_f c1 h
      refine s_iload_n (i := 3) dX11_teach_23 rfl rfl ?_
      refine s_iload_n (i := 1) dX11_teach_24 rfl rfl ?_
      refine s_icmp_eq (tgt := 41) dX11_teach_25 rfl (fun c1 => ?_) (fun c1 => ?_)
      · have h := o_if_t c1 h
        refine s_mask [true, false, false, false, false] (L' := [some (.ref (o_ad X a0)), none, none, none, none]) rfl ?_
        exact dnX11_teach_j41 hX h0 h
      · have h := o_if_f c1 h
        refine s_iload dX11_teach_28 rfl ?_
        refine s_i2l dX11_teach_30 ?_
        refine s_lconst (v := 1) dX11_teach_31 rfl ?_
        refine s_ldc2 (v := 99) w_4_186 dX11_teach_32 ?_
        refine s_callSz (C := mX11_within) (As := [.long x4.toInt64, .long (1 : Int64), .long (99 : Int64)]) (rest := []) (L0 := [some (.long x4.toInt64), none, some (.long (1 : Int64)), none, some (.long (99 : Int64)), none]) clX11_118 dX11_teach_35 rfl rfl (Nat.le_of_ble_eq_true rfl) (Nat.le_of_ble_eq_true rfl) (dnX11_within hX  (o_bdp h)) (fun r3 μ3 zr3 h => ?_)
        refine s_if_ne (tgt := 47) dX11_teach_38 rfl (fun c1 => ?_) (fun c1 => ?_)
        · have h := o_if_f c1 h
          refine s_aload_n (i := 0) dX11_teach_47 rfl rfl ?_
          refine s_getR hX h0 flX11_23 rfl dX11_teach_48 (fun (g3 : o_is X (o_rf X a0 4) (.inl 8)) => ?_)
          refine s_iload_n (i := 1) dX11_teach_51 rfl rfl ?_
          refine s_iload_n (i := 2) dX11_teach_52 rfl rfl ?_
          refine s_iload_n (i := 3) dX11_teach_53 rfl rfl ?_
          refine s_iload dX11_teach_54 rfl ?_
          refine s_callVu (C := mX8_setActs) (As := [.int x1, .int x2, .int x3, .int x4]) (rest := []) (L0 := [some (.ref (o_ad X (o_rf X a0 4))), some (.int x1), some (.int x2), some (.int x3), some (.int x4)]) hX g3 clX11_310 dX11_teach_56 rfl rfl (Nat.le_of_ble_eq_true rfl) (Nat.le_of_ble_eq_true rfl) (dnX8_setActs hX g3 (o_bdp h)) (fun _u μ4 h => ?_)
          refine s_aload_n (i := 0) dX11_teach_59 rfl rfl ?_
          refine s_iconst dX11_teach_60 kI_0 ?_
          refine s_callVz (C := mX11_ends) (As := [.int 0]) (rest := []) (L0 := [some (.ref (o_ad X a0)), some (.int 0)]) hX h0 clX11_124 dX11_teach_61 rfl rfl (Nat.le_of_ble_eq_true rfl) (Nat.le_of_ble_eq_true rfl) (dnX11_ends hX h0 (o_bdp h)) (fun r4 μ5 zr4 h => ?_)
          exact s_zreturn rfl zr4 dX11_teach_64 ⟨_, rfl, zr4, o_ret h⟩
        · have h := o_if_t c1 h
          refine s_mask [true, false, false, false, false] (L' := [some (.ref (o_ad X a0)), none, none, none, none]) rfl ?_
          exact dnX11_teach_j41 hX h0 h
theorem dX11_forget_0 : decode cX11_forget 0 = .ok (.aload_n 0, 1) := by decide +kernel
theorem dX11_forget_1 : decode cX11_forget 1 = .ok (.getfield 23, 3) := by decide +kernel
theorem dX11_forget_4 : decode cX11_forget 4 = .ok (.iload_n 1, 1) := by decide +kernel
theorem dX11_forget_5 : decode cX11_forget 5 = .ok (.iload_n 2, 1) := by decide +kernel
theorem dX11_forget_6 : decode cX11_forget 6 = .ok (.invokevirtual 262, 3) := by decide +kernel
theorem dX11_forget_9 : decode cX11_forget 9 = .ok (.ifCond .ne 9, 3) := by decide +kernel
theorem dX11_forget_12 : decode cX11_forget 12 = .ok (.aload_n 0, 1) := by decide +kernel
theorem dX11_forget_13 : decode cX11_forget 13 = .ok (.iconst 1, 1) := by decide +kernel
theorem dX11_forget_14 : decode cX11_forget 14 = .ok (.invokevirtual 124, 3) := by decide +kernel
theorem dX11_forget_17 : decode cX11_forget 17 = .ok (.ireturn, 1) := by decide +kernel
theorem dX11_forget_18 : decode cX11_forget 18 = .ok (.aload_n 0, 1) := by decide +kernel
theorem dX11_forget_19 : decode cX11_forget 19 = .ok (.getfield 23, 3) := by decide +kernel
theorem dX11_forget_22 : decode cX11_forget 22 = .ok (.getfield 266, 3) := by decide +kernel
theorem dX11_forget_25 : decode cX11_forget 25 = .ok (.iload_n 1, 1) := by decide +kernel
theorem dX11_forget_26 : decode cX11_forget 26 = .ok (.bipush 6, 2) := by decide +kernel
theorem dX11_forget_28 : decode cX11_forget 28 = .ok (.imul, 1) := by decide +kernel
theorem dX11_forget_29 : decode cX11_forget 29 = .ok (.iload_n 2, 1) := by decide +kernel
theorem dX11_forget_30 : decode cX11_forget 30 = .ok (.iadd, 1) := by decide +kernel
theorem dX11_forget_31 : decode cX11_forget 31 = .ok (.iaload, 1) := by decide +kernel
theorem dX11_forget_32 : decode cX11_forget 32 = .ok (.iconst (-1), 1) := by decide +kernel
theorem dX11_forget_33 : decode cX11_forget 33 = .ok (.if_icmp .ne 10, 3) := by decide +kernel
theorem dX11_forget_36 : decode cX11_forget 36 = .ok (.aload_n 0, 1) := by decide +kernel
theorem dX11_forget_37 : decode cX11_forget 37 = .ok (.bipush 7, 2) := by decide +kernel
theorem dX11_forget_39 : decode cX11_forget 39 = .ok (.invokevirtual 124, 3) := by decide +kernel
theorem dX11_forget_42 : decode cX11_forget 42 = .ok (.ireturn, 1) := by decide +kernel
theorem dX11_forget_43 : decode cX11_forget 43 = .ok (.aload_n 0, 1) := by decide +kernel
theorem dX11_forget_44 : decode cX11_forget 44 = .ok (.getfield 23, 3) := by decide +kernel
theorem dX11_forget_47 : decode cX11_forget 47 = .ok (.iload_n 1, 1) := by decide +kernel
theorem dX11_forget_48 : decode cX11_forget 48 = .ok (.iload_n 2, 1) := by decide +kernel
theorem dX11_forget_49 : decode cX11_forget 49 = .ok (.iconst (-1), 1) := by decide +kernel
theorem dX11_forget_50 : decode cX11_forget 50 = .ok (.iconst (-1), 1) := by decide +kernel
theorem dX11_forget_51 : decode cX11_forget 51 = .ok (.invokevirtual 310, 3) := by decide +kernel
theorem dX11_forget_54 : decode cX11_forget 54 = .ok (.aload_n 0, 1) := by decide +kernel
theorem dX11_forget_55 : decode cX11_forget 55 = .ok (.iconst 0, 1) := by decide +kernel
theorem dX11_forget_56 : decode cX11_forget 56 = .ok (.invokevirtual 124, 3) := by decide +kernel
theorem dX11_forget_59 : decode cX11_forget 59 = .ok (.ireturn, 1) := by decide +kernel
noncomputable def fX11_forget (rf : Nat → Nat → Nat) (a0 : Nat) (x1 : Int32) (x2 : Int32) (μ0 : o_Mem) : Option (Int32 × o_Mem) :=
  o_bd (fX8_isCouple rf (rf a0 4) x1 x2 μ0) fun r1 μ1 =>
  if r1 = 0 then (
    o_bd (fX11_ends rf a0 1 μ1) fun r4 μ5 =>
    some (r4, μ5))
  else (
    o_ck (0 ≤ (((x1 * 6) + x2)).toInt ∧ (((x1 * 6) + x2)).toInt < 36) <|
    if (μ1.1 (rf (rf a0 4) 13) (((x1 * 6) + x2)).toNatClampNeg) = (-1) then (
      o_bd (fX11_ends rf a0 7 μ1) fun r3 μ4 =>
      some (r3, μ4))
    else (
      o_bd (fX8_setActs rf (rf a0 4) x1 x2 (-1) (-1) μ1) fun _u μ2 =>
      o_bd (fX11_ends rf a0 0 μ2) fun r2 μ3 =>
      some (r2, μ3)))
set_option maxRecDepth 20000 in
theorem dnX11_forget {X : o_Cx} (hX : o_ok X) {d : Nat} {a0 : Nat} {x1 : Int32} {x2 : Int32} {μ0 : o_Mem} {q : Int32 → o_Mem → Prop} (h0 : o_is X a0 (.inl 11)) (h : o_Post (fX11_forget (o_rf X) a0 x1 x2 μ0) q) : o_Ev X (d + 2) mX11_forget 0 [some (.ref (o_ad X a0)), some (.int x1), some (.int x2)] [] μ0 (o_QZ q) := by
  unfold fX11_forget at h
  refine s_aload_n (i := 0) dX11_forget_0 rfl rfl ?_
  refine s_getR hX h0 flX11_23 rfl dX11_forget_1 (fun (g1 : o_is X (o_rf X a0 4) (.inl 8)) => ?_)
  refine s_iload_n (i := 1) dX11_forget_4 rfl rfl ?_
  refine s_iload_n (i := 2) dX11_forget_5 rfl rfl ?_
  refine s_callVz (C := mX8_isCouple) (As := [.int x1, .int x2]) (rest := []) (L0 := [some (.ref (o_ad X (o_rf X a0 4))), some (.int x1), some (.int x2)]) hX g1 clX11_262 dX11_forget_6 rfl rfl (Nat.le_of_ble_eq_true rfl) (Nat.le_of_ble_eq_true rfl) (dnX8_isCouple hX g1 (o_bdp h)) (fun r1 μ1 zr1 h => ?_)
  refine s_if_ne (tgt := 18) dX11_forget_9 rfl (fun c1 => ?_) (fun c1 => ?_)
  · have h := o_if_f c1 h
    refine s_aload_n (i := 0) dX11_forget_18 rfl rfl ?_
    refine s_getR hX h0 flX11_23 rfl dX11_forget_19 (fun (g2 : o_is X (o_rf X a0 4) (.inl 8)) => ?_)
    refine s_getR hX g2 flX11_266 rfl dX11_forget_22 (fun (g3 : o_is X (o_rf X (o_rf X a0 4) 13) (.inr (0, 36))) => ?_)
    refine s_iload_n (i := 1) dX11_forget_25 rfl rfl ?_
    refine s_bipush dX11_forget_26 kB_6 ?_
    refine s_imul dX11_forget_28 ?_
    refine s_iload_n (i := 2) dX11_forget_29 rfl rfl ?_
    refine s_iadd dX11_forget_30 ?_
    have hc := o_ck_c h
    have h := o_ck_k h
    refine s_ialdK g3 hc rfl dX11_forget_31 ?_
    refine s_iconst dX11_forget_32 kI_m1 ?_
    refine s_icmp_ne (tgt := 43) dX11_forget_33 rfl (fun c1 => ?_) (fun c1 => ?_)
    · have h := o_if_f c1 h
      refine s_aload_n (i := 0) dX11_forget_43 rfl rfl ?_
      refine s_getR hX h0 flX11_23 rfl dX11_forget_44 (fun (g4 : o_is X (o_rf X a0 4) (.inl 8)) => ?_)
      refine s_iload_n (i := 1) dX11_forget_47 rfl rfl ?_
      refine s_iload_n (i := 2) dX11_forget_48 rfl rfl ?_
      refine s_iconst dX11_forget_49 kI_m1 ?_
      refine s_iconst dX11_forget_50 kI_m1 ?_
      refine s_callVu (C := mX8_setActs) (As := [.int x1, .int x2, .int (-1), .int (-1)]) (rest := []) (L0 := [some (.ref (o_ad X (o_rf X a0 4))), some (.int x1), some (.int x2), some (.int (-1)), some (.int (-1))]) hX g4 clX11_310 dX11_forget_51 rfl rfl (Nat.le_of_ble_eq_true rfl) (Nat.le_of_ble_eq_true rfl) (dnX8_setActs hX g4 (o_bdp h)) (fun _u μ2 h => ?_)
      refine s_aload_n (i := 0) dX11_forget_54 rfl rfl ?_
      refine s_iconst dX11_forget_55 kI_0 ?_
      refine s_callVz (C := mX11_ends) (As := [.int 0]) (rest := []) (L0 := [some (.ref (o_ad X a0)), some (.int 0)]) hX h0 clX11_124 dX11_forget_56 rfl rfl (Nat.le_of_ble_eq_true rfl) (Nat.le_of_ble_eq_true rfl) (dnX11_ends hX h0 (o_bdp h)) (fun r2 μ3 zr2 h => ?_)
      exact s_zreturn rfl zr2 dX11_forget_59 ⟨_, rfl, zr2, o_ret h⟩
    · have h := o_if_t c1 h
      refine s_aload_n (i := 0) dX11_forget_36 rfl rfl ?_
      refine s_bipush dX11_forget_37 kB_7 ?_
      refine s_callVz (C := mX11_ends) (As := [.int 7]) (rest := []) (L0 := [some (.ref (o_ad X a0)), some (.int 7)]) hX h0 clX11_124 dX11_forget_39 rfl rfl (Nat.le_of_ble_eq_true rfl) (Nat.le_of_ble_eq_true rfl) (dnX11_ends hX h0 (o_bdp h)) (fun r3 μ4 zr3 h => ?_)
      exact s_zreturn rfl zr3 dX11_forget_42 ⟨_, rfl, zr3, o_ret h⟩
  · have h := o_if_t c1 h
    refine s_aload_n (i := 0) dX11_forget_12 rfl rfl ?_
    refine s_iconst dX11_forget_13 kI_1 ?_
    refine s_callVz (C := mX11_ends) (As := [.int 1]) (rest := []) (L0 := [some (.ref (o_ad X a0)), some (.int 1)]) hX h0 clX11_124 dX11_forget_14 rfl rfl (Nat.le_of_ble_eq_true rfl) (Nat.le_of_ble_eq_true rfl) (dnX11_ends hX h0 (o_bdp h)) (fun r4 μ5 zr4 h => ?_)
    exact s_zreturn rfl zr4 dX11_forget_17 ⟨_, rfl, zr4, o_ret h⟩
theorem dX11_sway_0 : decode cX11_sway 0 = .ok (.iload_n 1, 1) := by decide +kernel
theorem dX11_sway_1 : decode cX11_sway 1 = .ok (.i2l, 1) := by decide +kernel
theorem dX11_sway_2 : decode cX11_sway 2 = .ok (.lconst 0, 1) := by decide +kernel
theorem dX11_sway_3 : decode cX11_sway 3 = .ok (.aload_n 0, 1) := by decide +kernel
theorem dX11_sway_4 : decode cX11_sway 4 = .ok (.getfield 23, 3) := by decide +kernel
theorem dX11_sway_7 : decode cX11_sway 7 = .ok (.getfield 184, 3) := by decide +kernel
theorem dX11_sway_10 : decode cX11_sway 10 = .ok (.iconst 2, 1) := by decide +kernel
theorem dX11_sway_11 : decode cX11_sway 11 = .ok (.isub, 1) := by decide +kernel
theorem dX11_sway_12 : decode cX11_sway 12 = .ok (.i2l, 1) := by decide +kernel
theorem dX11_sway_13 : decode cX11_sway 13 = .ok (.invokestatic 118, 3) := by decide +kernel
theorem dX11_sway_16 : decode cX11_sway 16 = .ok (.ifCond .ne 9, 3) := by decide +kernel
theorem dX11_sway_19 : decode cX11_sway 19 = .ok (.aload_n 0, 1) := by decide +kernel
theorem dX11_sway_20 : decode cX11_sway 20 = .ok (.iconst 1, 1) := by decide +kernel
theorem dX11_sway_21 : decode cX11_sway 21 = .ok (.invokevirtual 124, 3) := by decide +kernel
theorem dX11_sway_24 : decode cX11_sway 24 = .ok (.ireturn, 1) := by decide +kernel
theorem dX11_sway_25 : decode cX11_sway 25 = .ok (.aload_n 0, 1) := by decide +kernel
theorem dX11_sway_26 : decode cX11_sway 26 = .ok (.getfield 23, 3) := by decide +kernel
theorem dX11_sway_29 : decode cX11_sway 29 = .ok (.iload_n 1, 1) := by decide +kernel
theorem dX11_sway_30 : decode cX11_sway 30 = .ok (.iload_n 1, 1) := by decide +kernel
theorem dX11_sway_31 : decode cX11_sway 31 = .ok (.iconst 1, 1) := by decide +kernel
theorem dX11_sway_32 : decode cX11_sway 32 = .ok (.iadd, 1) := by decide +kernel
theorem dX11_sway_33 : decode cX11_sway 33 = .ok (.invokevirtual 314, 3) := by decide +kernel
theorem dX11_sway_36 : decode cX11_sway 36 = .ok (.aload_n 0, 1) := by decide +kernel
theorem dX11_sway_37 : decode cX11_sway 37 = .ok (.iconst 0, 1) := by decide +kernel
theorem dX11_sway_38 : decode cX11_sway 38 = .ok (.invokevirtual 124, 3) := by decide +kernel
theorem dX11_sway_41 : decode cX11_sway 41 = .ok (.ireturn, 1) := by decide +kernel
noncomputable def fX11_sway (rf : Nat → Nat → Nat) (a0 : Nat) (x1 : Int32) (μ0 : o_Mem) : Option (Int32 × o_Mem) :=
  o_bd (fX11_within rf x1.toInt64 (0 : Int64) (((μ0.1 (rf a0 4) 3) - 2).toInt64) μ0) fun r1 μ1 =>
  if r1 = 0 then (
    o_bd (fX11_ends rf a0 1 μ1) fun r3 μ4 =>
    some (r3, μ4))
  else (
    o_bd (fX8_swapLaws rf (rf a0 4) x1 (x1 + 1) μ1) fun _u μ2 =>
    o_bd (fX11_ends rf a0 0 μ2) fun r2 μ3 =>
    some (r2, μ3))
set_option maxRecDepth 20000 in
theorem dnX11_sway {X : o_Cx} (hX : o_ok X) {d : Nat} {a0 : Nat} {x1 : Int32} {μ0 : o_Mem} {q : Int32 → o_Mem → Prop} (h0 : o_is X a0 (.inl 11)) (h : o_Post (fX11_sway (o_rf X) a0 x1 μ0) q) : o_Ev X (d + 1) mX11_sway 0 [some (.ref (o_ad X a0)), some (.int x1)] [] μ0 (o_QZ q) := by
  unfold fX11_sway at h
  refine s_iload_n (i := 1) dX11_sway_0 rfl rfl ?_
  refine s_i2l dX11_sway_1 ?_
  refine s_lconst (v := 0) dX11_sway_2 rfl ?_
  refine s_aload_n (i := 0) dX11_sway_3 rfl rfl ?_
  refine s_getR hX h0 flX11_23 rfl dX11_sway_4 (fun (g1 : o_is X (o_rf X a0 4) (.inl 8)) => ?_)
  refine s_getI g1 flX11_184 rfl dX11_sway_7 ?_
  refine s_iconst dX11_sway_10 kI_2 ?_
  refine s_isub dX11_sway_11 ?_
  refine s_i2l dX11_sway_12 ?_
  refine s_callSz (C := mX11_within) (As := [.long x1.toInt64, .long (0 : Int64), .long (((μ0.1 (o_rf X a0 4) 3) - 2).toInt64)]) (rest := []) (L0 := [some (.long x1.toInt64), none, some (.long (0 : Int64)), none, some (.long (((μ0.1 (o_rf X a0 4) 3) - 2).toInt64)), none]) clX11_118 dX11_sway_13 rfl rfl (Nat.le_of_ble_eq_true rfl) (Nat.le_of_ble_eq_true rfl) (dnX11_within hX  (o_bdp h)) (fun r1 μ1 zr1 h => ?_)
  refine s_if_ne (tgt := 25) dX11_sway_16 rfl (fun c1 => ?_) (fun c1 => ?_)
  · have h := o_if_f c1 h
    refine s_aload_n (i := 0) dX11_sway_25 rfl rfl ?_
    refine s_getR hX h0 flX11_23 rfl dX11_sway_26 (fun (g2 : o_is X (o_rf X a0 4) (.inl 8)) => ?_)
    refine s_iload_n (i := 1) dX11_sway_29 rfl rfl ?_
    refine s_iload_n (i := 1) dX11_sway_30 rfl rfl ?_
    refine s_iconst dX11_sway_31 kI_1 ?_
    refine s_iadd dX11_sway_32 ?_
    refine s_callVu (C := mX8_swapLaws) (As := [.int x1, .int (x1 + 1)]) (rest := []) (L0 := [some (.ref (o_ad X (o_rf X a0 4))), some (.int x1), some (.int (x1 + 1)), none, none]) hX g2 clX11_314 dX11_sway_33 rfl rfl (Nat.le_of_ble_eq_true rfl) (Nat.le_of_ble_eq_true rfl) (dnX8_swapLaws hX g2 (o_bdp h)) (fun _u μ2 h => ?_)
    refine s_aload_n (i := 0) dX11_sway_36 rfl rfl ?_
    refine s_iconst dX11_sway_37 kI_0 ?_
    refine s_callVz (C := mX11_ends) (As := [.int 0]) (rest := []) (L0 := [some (.ref (o_ad X a0)), some (.int 0)]) hX h0 clX11_124 dX11_sway_38 rfl rfl (Nat.le_of_ble_eq_true rfl) (Nat.le_of_ble_eq_true rfl) (dnX11_ends hX h0 (o_bdp h)) (fun r2 μ3 zr2 h => ?_)
    exact s_zreturn rfl zr2 dX11_sway_41 ⟨_, rfl, zr2, o_ret h⟩
  · have h := o_if_t c1 h
    refine s_aload_n (i := 0) dX11_sway_19 rfl rfl ?_
    refine s_iconst dX11_sway_20 kI_1 ?_
    refine s_callVz (C := mX11_ends) (As := [.int 1]) (rest := []) (L0 := [some (.ref (o_ad X a0)), some (.int 1)]) hX h0 clX11_124 dX11_sway_21 rfl rfl (Nat.le_of_ble_eq_true rfl) (Nat.le_of_ble_eq_true rfl) (dnX11_ends hX h0 (o_bdp h)) (fun r3 μ4 zr3 h => ?_)
    exact s_zreturn rfl zr3 dX11_sway_24 ⟨_, rfl, zr3, o_ret h⟩
theorem dX11_pub_0 : decode cX11_pub 0 = .ok (.iload_n 1, 1) := by decide +kernel
theorem dX11_pub_1 : decode cX11_pub 1 = .ok (.i2l, 1) := by decide +kernel
theorem dX11_pub_2 : decode cX11_pub 2 = .ok (.lconst 0, 1) := by decide +kernel
theorem dX11_pub_3 : decode cX11_pub 3 = .ok (.ldc2_w 317, 3) := by decide +kernel
theorem dX11_pub_6 : decode cX11_pub 6 = .ok (.invokestatic 118, 3) := by decide +kernel
theorem dX11_pub_9 : decode cX11_pub 9 = .ok (.ifCond .ne 9, 3) := by decide +kernel
theorem dX11_pub_12 : decode cX11_pub 12 = .ok (.aload_n 0, 1) := by decide +kernel
theorem dX11_pub_13 : decode cX11_pub 13 = .ok (.iconst 1, 1) := by decide +kernel
theorem dX11_pub_14 : decode cX11_pub 14 = .ok (.invokevirtual 124, 3) := by decide +kernel
theorem dX11_pub_17 : decode cX11_pub 17 = .ok (.ireturn, 1) := by decide +kernel
theorem dX11_pub_18 : decode cX11_pub 18 = .ok (.aload_n 0, 1) := by decide +kernel
theorem dX11_pub_19 : decode cX11_pub 19 = .ok (.getfield 23, 3) := by decide +kernel
theorem dX11_pub_22 : decode cX11_pub 22 = .ok (.iload_n 1, 1) := by decide +kernel
theorem dX11_pub_23 : decode cX11_pub 23 = .ok (.putfield 222, 3) := by decide +kernel
theorem dX11_pub_26 : decode cX11_pub 26 = .ok (.aload_n 0, 1) := by decide +kernel
theorem dX11_pub_27 : decode cX11_pub 27 = .ok (.iconst 0, 1) := by decide +kernel
theorem dX11_pub_28 : decode cX11_pub 28 = .ok (.invokevirtual 124, 3) := by decide +kernel
theorem dX11_pub_31 : decode cX11_pub 31 = .ok (.ireturn, 1) := by decide +kernel
noncomputable def fX11_pub (rf : Nat → Nat → Nat) (a0 : Nat) (x1 : Int32) (μ0 : o_Mem) : Option (Int32 × o_Mem) :=
  o_bd (fX11_within rf x1.toInt64 (0 : Int64) (16 : Int64) μ0) fun r1 μ1 =>
  if r1 = 0 then (
    o_bd (fX11_ends rf a0 1 μ1) fun r3 μ4 =>
    some (r3, μ4))
  else (
    o_seq (o_wI μ1 (rf a0 4) 4 x1) fun μ2 =>
    o_bd (fX11_ends rf a0 0 μ2) fun r2 μ3 =>
    some (r2, μ3))
set_option maxRecDepth 20000 in
theorem dnX11_pub {X : o_Cx} (hX : o_ok X) {d : Nat} {a0 : Nat} {x1 : Int32} {μ0 : o_Mem} {q : Int32 → o_Mem → Prop} (h0 : o_is X a0 (.inl 11)) (h : o_Post (fX11_pub (o_rf X) a0 x1 μ0) q) : o_Ev X (d + 1) mX11_pub 0 [some (.ref (o_ad X a0)), some (.int x1)] [] μ0 (o_QZ q) := by
  unfold fX11_pub at h
  refine s_iload_n (i := 1) dX11_pub_0 rfl rfl ?_
  refine s_i2l dX11_pub_1 ?_
  refine s_lconst (v := 0) dX11_pub_2 rfl ?_
  refine s_ldc2 (v := 16) w_5_31 dX11_pub_3 ?_
  refine s_callSz (C := mX11_within) (As := [.long x1.toInt64, .long (0 : Int64), .long (16 : Int64)]) (rest := []) (L0 := [some (.long x1.toInt64), none, some (.long (0 : Int64)), none, some (.long (16 : Int64)), none]) clX11_118 dX11_pub_6 rfl rfl (Nat.le_of_ble_eq_true rfl) (Nat.le_of_ble_eq_true rfl) (dnX11_within hX  (o_bdp h)) (fun r1 μ1 zr1 h => ?_)
  refine s_if_ne (tgt := 18) dX11_pub_9 rfl (fun c1 => ?_) (fun c1 => ?_)
  · have h := o_if_f c1 h
    refine s_aload_n (i := 0) dX11_pub_18 rfl rfl ?_
    refine s_getR hX h0 flX11_23 rfl dX11_pub_19 (fun (g1 : o_is X (o_rf X a0 4) (.inl 8)) => ?_)
    refine s_iload_n (i := 1) dX11_pub_22 rfl rfl ?_
    refine s_putI hX g1 fwX11_222 rfl dX11_pub_23 (o_gen h (fun μ2 h => ?_))
    refine s_aload_n (i := 0) dX11_pub_26 rfl rfl ?_
    refine s_iconst dX11_pub_27 kI_0 ?_
    refine s_callVz (C := mX11_ends) (As := [.int 0]) (rest := []) (L0 := [some (.ref (o_ad X a0)), some (.int 0)]) hX h0 clX11_124 dX11_pub_28 rfl rfl (Nat.le_of_ble_eq_true rfl) (Nat.le_of_ble_eq_true rfl) (dnX11_ends hX h0 (o_bdp h)) (fun r2 μ3 zr2 h => ?_)
    exact s_zreturn rfl zr2 dX11_pub_31 ⟨_, rfl, zr2, o_ret h⟩
  · have h := o_if_t c1 h
    refine s_aload_n (i := 0) dX11_pub_12 rfl rfl ?_
    refine s_iconst dX11_pub_13 kI_1 ?_
    refine s_callVz (C := mX11_ends) (As := [.int 1]) (rest := []) (L0 := [some (.ref (o_ad X a0)), some (.int 1)]) hX h0 clX11_124 dX11_pub_14 rfl rfl (Nat.le_of_ble_eq_true rfl) (Nat.le_of_ble_eq_true rfl) (dnX11_ends hX h0 (o_bdp h)) (fun r3 μ4 zr3 h => ?_)
    exact s_zreturn rfl zr3 dX11_pub_17 ⟨_, rfl, zr3, o_ret h⟩
theorem dX11_lawOf_0 : decode cX11_lawOf 0 = .ok (.aload_n 0, 1) := by decide +kernel
theorem dX11_lawOf_1 : decode cX11_lawOf 1 = .ok (.getfield 23, 3) := by decide +kernel
theorem dX11_lawOf_4 : decode cX11_lawOf 4 = .ok (.iload_n 1, 1) := by decide +kernel
theorem dX11_lawOf_5 : decode cX11_lawOf 5 = .ok (.iload_n 2, 1) := by decide +kernel
theorem dX11_lawOf_6 : decode cX11_lawOf 6 = .ok (.iload_n 3, 1) := by decide +kernel
theorem dX11_lawOf_7 : decode cX11_lawOf 7 = .ok (.iload 4, 2) := by decide +kernel
theorem dX11_lawOf_9 : decode cX11_lawOf 9 = .ok (.invokevirtual 280, 3) := by decide +kernel
theorem dX11_lawOf_12 : decode cX11_lawOf 12 = .ok (.ifCond .ne 9, 3) := by decide +kernel
theorem dX11_lawOf_15 : decode cX11_lawOf 15 = .ok (.aload_n 0, 1) := by decide +kernel
theorem dX11_lawOf_16 : decode cX11_lawOf 16 = .ok (.iconst 1, 1) := by decide +kernel
theorem dX11_lawOf_17 : decode cX11_lawOf 17 = .ok (.invokevirtual 139, 3) := by decide +kernel
theorem dX11_lawOf_20 : decode cX11_lawOf 20 = .ok (.ireturn, 1) := by decide +kernel
theorem dX11_lawOf_21 : decode cX11_lawOf 21 = .ok (.aload_n 0, 1) := by decide +kernel
theorem dX11_lawOf_22 : decode cX11_lawOf 22 = .ok (.aload_n 0, 1) := by decide +kernel
theorem dX11_lawOf_23 : decode cX11_lawOf 23 = .ok (.getfield 23, 3) := by decide +kernel
theorem dX11_lawOf_26 : decode cX11_lawOf 26 = .ok (.iload_n 1, 1) := by decide +kernel
theorem dX11_lawOf_27 : decode cX11_lawOf 27 = .ok (.iload_n 2, 1) := by decide +kernel
theorem dX11_lawOf_28 : decode cX11_lawOf 28 = .ok (.iload_n 3, 1) := by decide +kernel
theorem dX11_lawOf_29 : decode cX11_lawOf 29 = .ok (.iload 4, 2) := by decide +kernel
theorem dX11_lawOf_31 : decode cX11_lawOf 31 = .ok (.invokevirtual 319, 3) := by decide +kernel
theorem dX11_lawOf_34 : decode cX11_lawOf 34 = .ok (.invokevirtual 259, 3) := by decide +kernel
theorem dX11_lawOf_37 : decode cX11_lawOf 37 = .ok (.ireturn, 1) := by decide +kernel
noncomputable def fX11_lawOf (rf : Nat → Nat → Nat) (a0 : Nat) (x1 : Int32) (x2 : Int32) (x3 : Int32) (x4 : Int32) (μ0 : o_Mem) : Option (Int32 × o_Mem) :=
  o_bd (fX8_isLetter rf (rf a0 4) x1 x2 x3 x4 μ0) fun r1 μ1 =>
  if r1 = 0 then (
    o_bd (fX11_refuses rf a0 1 μ1) fun r4 μ4 =>
    some (r4, μ4))
  else (
    o_bd (fX8_firstFit rf (rf a0 4) x1 x2 x3 x4 μ1) fun r2 μ2 =>
    o_bd (fX11_givesIfAny rf a0 r2 μ2) fun r3 μ3 =>
    some (r3, μ3))
set_option maxRecDepth 20000 in
theorem dnX11_lawOf {X : o_Cx} (hX : o_ok X) {d : Nat} {a0 : Nat} {x1 : Int32} {x2 : Int32} {x3 : Int32} {x4 : Int32} {μ0 : o_Mem} {q : Int32 → o_Mem → Prop} (h0 : o_is X a0 (.inl 11)) (h : o_Post (fX11_lawOf (o_rf X) a0 x1 x2 x3 x4 μ0) q) : o_Ev X (d + 2) mX11_lawOf 0 [some (.ref (o_ad X a0)), some (.int x1), some (.int x2), some (.int x3), some (.int x4)] [] μ0 (o_QI q) := by
  unfold fX11_lawOf at h
  refine s_aload_n (i := 0) dX11_lawOf_0 rfl rfl ?_
  refine s_getR hX h0 flX11_23 rfl dX11_lawOf_1 (fun (g1 : o_is X (o_rf X a0 4) (.inl 8)) => ?_)
  refine s_iload_n (i := 1) dX11_lawOf_4 rfl rfl ?_
  refine s_iload_n (i := 2) dX11_lawOf_5 rfl rfl ?_
  refine s_iload_n (i := 3) dX11_lawOf_6 rfl rfl ?_
  refine s_iload dX11_lawOf_7 rfl ?_
  refine s_callVz (C := mX8_isLetter) (As := [.int x1, .int x2, .int x3, .int x4]) (rest := []) (L0 := [some (.ref (o_ad X (o_rf X a0 4))), some (.int x1), some (.int x2), some (.int x3), some (.int x4)]) hX g1 clX11_280 dX11_lawOf_9 rfl rfl (Nat.le_of_ble_eq_true rfl) (Nat.le_of_ble_eq_true rfl) (dnX8_isLetter hX g1 (o_bdp h)) (fun r1 μ1 zr1 h => ?_)
  refine s_if_ne (tgt := 21) dX11_lawOf_12 rfl (fun c1 => ?_) (fun c1 => ?_)
  · have h := o_if_f c1 h
    refine s_aload_n (i := 0) dX11_lawOf_21 rfl rfl ?_
    refine s_aload_n (i := 0) dX11_lawOf_22 rfl rfl ?_
    refine s_getR hX h0 flX11_23 rfl dX11_lawOf_23 (fun (g2 : o_is X (o_rf X a0 4) (.inl 8)) => ?_)
    refine s_iload_n (i := 1) dX11_lawOf_26 rfl rfl ?_
    refine s_iload_n (i := 2) dX11_lawOf_27 rfl rfl ?_
    refine s_iload_n (i := 3) dX11_lawOf_28 rfl rfl ?_
    refine s_iload dX11_lawOf_29 rfl ?_
    refine s_callVi (C := mX8_firstFit) (As := [.int x1, .int x2, .int x3, .int x4]) (rest := [.ref (o_ad X a0)]) (L0 := [some (.ref (o_ad X (o_rf X a0 4))), some (.int x1), some (.int x2), some (.int x3), some (.int x4), none]) hX g2 clX11_319 dX11_lawOf_31 rfl rfl (Nat.le_of_ble_eq_true rfl) (Nat.le_of_ble_eq_true rfl) (dnX8_firstFit hX g2 (o_bdp h)) (fun r2 μ2 h => ?_)
    refine s_callVi (C := mX11_givesIfAny) (As := [.int r2]) (rest := []) (L0 := [some (.ref (o_ad X a0)), some (.int r2)]) hX h0 clX11_259 dX11_lawOf_34 rfl rfl (Nat.le_of_ble_eq_true rfl) (Nat.le_of_ble_eq_true rfl) (dnX11_givesIfAny hX h0 (o_bdp h)) (fun r3 μ3 h => ?_)
    exact s_ireturn rfl dX11_lawOf_37 ⟨_, rfl, o_ret h⟩
  · have h := o_if_t c1 h
    refine s_aload_n (i := 0) dX11_lawOf_15 rfl rfl ?_
    refine s_iconst dX11_lawOf_16 kI_1 ?_
    refine s_callVi (C := mX11_refuses) (As := [.int 1]) (rest := []) (L0 := [some (.ref (o_ad X a0)), some (.int 1)]) hX h0 clX11_139 dX11_lawOf_17 rfl rfl (Nat.le_of_ble_eq_true rfl) (Nat.le_of_ble_eq_true rfl) (dnX11_refuses hX h0 (o_bdp h)) (fun r4 μ4 h => ?_)
    exact s_ireturn rfl dX11_lawOf_20 ⟨_, rfl, o_ret h⟩
theorem dX11_strikeOf_0 : decode cX11_strikeOf 0 = .ok (.aload_n 0, 1) := by decide +kernel
theorem dX11_strikeOf_1 : decode cX11_strikeOf 1 = .ok (.getfield 23, 3) := by decide +kernel
theorem dX11_strikeOf_4 : decode cX11_strikeOf 4 = .ok (.iload_n 1, 1) := by decide +kernel
theorem dX11_strikeOf_5 : decode cX11_strikeOf 5 = .ok (.iload_n 2, 1) := by decide +kernel
theorem dX11_strikeOf_6 : decode cX11_strikeOf 6 = .ok (.iload_n 3, 1) := by decide +kernel
theorem dX11_strikeOf_7 : decode cX11_strikeOf 7 = .ok (.iload 4, 2) := by decide +kernel
theorem dX11_strikeOf_9 : decode cX11_strikeOf 9 = .ok (.invokevirtual 280, 3) := by decide +kernel
theorem dX11_strikeOf_12 : decode cX11_strikeOf 12 = .ok (.ifCond .ne 9, 3) := by decide +kernel
theorem dX11_strikeOf_15 : decode cX11_strikeOf 15 = .ok (.aload_n 0, 1) := by decide +kernel
theorem dX11_strikeOf_16 : decode cX11_strikeOf 16 = .ok (.iconst 1, 1) := by decide +kernel
theorem dX11_strikeOf_17 : decode cX11_strikeOf 17 = .ok (.invokevirtual 139, 3) := by decide +kernel
theorem dX11_strikeOf_20 : decode cX11_strikeOf 20 = .ok (.ireturn, 1) := by decide +kernel
theorem dX11_strikeOf_21 : decode cX11_strikeOf 21 = .ok (.aload_n 0, 1) := by decide +kernel
theorem dX11_strikeOf_22 : decode cX11_strikeOf 22 = .ok (.aload_n 0, 1) := by decide +kernel
theorem dX11_strikeOf_23 : decode cX11_strikeOf 23 = .ok (.getfield 23, 3) := by decide +kernel
theorem dX11_strikeOf_26 : decode cX11_strikeOf 26 = .ok (.iload_n 1, 1) := by decide +kernel
theorem dX11_strikeOf_27 : decode cX11_strikeOf 27 = .ok (.iload_n 2, 1) := by decide +kernel
theorem dX11_strikeOf_28 : decode cX11_strikeOf 28 = .ok (.iload_n 3, 1) := by decide +kernel
theorem dX11_strikeOf_29 : decode cX11_strikeOf 29 = .ok (.iload 4, 2) := by decide +kernel
theorem dX11_strikeOf_31 : decode cX11_strikeOf 31 = .ok (.invokevirtual 323, 3) := by decide +kernel
theorem dX11_strikeOf_34 : decode cX11_strikeOf 34 = .ok (.invokevirtual 259, 3) := by decide +kernel
theorem dX11_strikeOf_37 : decode cX11_strikeOf 37 = .ok (.ireturn, 1) := by decide +kernel
noncomputable def fX11_strikeOf (rf : Nat → Nat → Nat) (a0 : Nat) (x1 : Int32) (x2 : Int32) (x3 : Int32) (x4 : Int32) (μ0 : o_Mem) : Option (Int32 × o_Mem) :=
  o_bd (fX8_isLetter rf (rf a0 4) x1 x2 x3 x4 μ0) fun r1 μ1 =>
  if r1 = 0 then (
    o_bd (fX11_refuses rf a0 1 μ1) fun r4 μ4 =>
    some (r4, μ4))
  else (
    o_bd (fX8_soberStrike rf (rf a0 4) x1 x2 x3 x4 μ1) fun r2 μ2 =>
    o_bd (fX11_givesIfAny rf a0 r2 μ2) fun r3 μ3 =>
    some (r3, μ3))
set_option maxRecDepth 20000 in
theorem dnX11_strikeOf {X : o_Cx} (hX : o_ok X) {d : Nat} {a0 : Nat} {x1 : Int32} {x2 : Int32} {x3 : Int32} {x4 : Int32} {μ0 : o_Mem} {q : Int32 → o_Mem → Prop} (h0 : o_is X a0 (.inl 11)) (h : o_Post (fX11_strikeOf (o_rf X) a0 x1 x2 x3 x4 μ0) q) : o_Ev X (d + 3) mX11_strikeOf 0 [some (.ref (o_ad X a0)), some (.int x1), some (.int x2), some (.int x3), some (.int x4)] [] μ0 (o_QI q) := by
  unfold fX11_strikeOf at h
  refine s_aload_n (i := 0) dX11_strikeOf_0 rfl rfl ?_
  refine s_getR hX h0 flX11_23 rfl dX11_strikeOf_1 (fun (g1 : o_is X (o_rf X a0 4) (.inl 8)) => ?_)
  refine s_iload_n (i := 1) dX11_strikeOf_4 rfl rfl ?_
  refine s_iload_n (i := 2) dX11_strikeOf_5 rfl rfl ?_
  refine s_iload_n (i := 3) dX11_strikeOf_6 rfl rfl ?_
  refine s_iload dX11_strikeOf_7 rfl ?_
  refine s_callVz (C := mX8_isLetter) (As := [.int x1, .int x2, .int x3, .int x4]) (rest := []) (L0 := [some (.ref (o_ad X (o_rf X a0 4))), some (.int x1), some (.int x2), some (.int x3), some (.int x4)]) hX g1 clX11_280 dX11_strikeOf_9 rfl rfl (Nat.le_of_ble_eq_true rfl) (Nat.le_of_ble_eq_true rfl) (dnX8_isLetter hX g1 (o_bdp h)) (fun r1 μ1 zr1 h => ?_)
  refine s_if_ne (tgt := 21) dX11_strikeOf_12 rfl (fun c1 => ?_) (fun c1 => ?_)
  · have h := o_if_f c1 h
    refine s_aload_n (i := 0) dX11_strikeOf_21 rfl rfl ?_
    refine s_aload_n (i := 0) dX11_strikeOf_22 rfl rfl ?_
    refine s_getR hX h0 flX11_23 rfl dX11_strikeOf_23 (fun (g2 : o_is X (o_rf X a0 4) (.inl 8)) => ?_)
    refine s_iload_n (i := 1) dX11_strikeOf_26 rfl rfl ?_
    refine s_iload_n (i := 2) dX11_strikeOf_27 rfl rfl ?_
    refine s_iload_n (i := 3) dX11_strikeOf_28 rfl rfl ?_
    refine s_iload dX11_strikeOf_29 rfl ?_
    refine s_callVi (C := mX8_soberStrike) (As := [.int x1, .int x2, .int x3, .int x4]) (rest := [.ref (o_ad X a0)]) (L0 := [some (.ref (o_ad X (o_rf X a0 4))), some (.int x1), some (.int x2), some (.int x3), some (.int x4)]) hX g2 clX11_323 dX11_strikeOf_31 rfl rfl (Nat.le_of_ble_eq_true rfl) (Nat.le_of_ble_eq_true rfl) (dnX8_soberStrike hX g2 (o_bdp h)) (fun r2 μ2 h => ?_)
    refine s_callVi (C := mX11_givesIfAny) (As := [.int r2]) (rest := []) (L0 := [some (.ref (o_ad X a0)), some (.int r2)]) hX h0 clX11_259 dX11_strikeOf_34 rfl rfl (Nat.le_of_ble_eq_true rfl) (Nat.le_of_ble_eq_true rfl) (dnX11_givesIfAny hX h0 (o_bdp h)) (fun r3 μ3 h => ?_)
    exact s_ireturn rfl dX11_strikeOf_37 ⟨_, rfl, o_ret h⟩
  · have h := o_if_t c1 h
    refine s_aload_n (i := 0) dX11_strikeOf_15 rfl rfl ?_
    refine s_iconst dX11_strikeOf_16 kI_1 ?_
    refine s_callVi (C := mX11_refuses) (As := [.int 1]) (rest := []) (L0 := [some (.ref (o_ad X a0)), some (.int 1)]) hX h0 clX11_139 dX11_strikeOf_17 rfl rfl (Nat.le_of_ble_eq_true rfl) (Nat.le_of_ble_eq_true rfl) (dnX11_refuses hX h0 (o_bdp h)) (fun r4 μ4 h => ?_)
    exact s_ireturn rfl dX11_strikeOf_20 ⟨_, rfl, o_ret h⟩
theorem dX11_struckNow_0 : decode cX11_struckNow 0 = .ok (.aload_n 0, 1) := by decide +kernel
theorem dX11_struckNow_1 : decode cX11_struckNow 1 = .ok (.getfield 23, 3) := by decide +kernel
theorem dX11_struckNow_4 : decode cX11_struckNow 4 = .ok (.iload_n 1, 1) := by decide +kernel
theorem dX11_struckNow_5 : decode cX11_struckNow 5 = .ok (.iload_n 2, 1) := by decide +kernel
theorem dX11_struckNow_6 : decode cX11_struckNow 6 = .ok (.iload_n 3, 1) := by decide +kernel
theorem dX11_struckNow_7 : decode cX11_struckNow 7 = .ok (.iload 4, 2) := by decide +kernel
theorem dX11_struckNow_9 : decode cX11_struckNow 9 = .ok (.invokevirtual 280, 3) := by decide +kernel
theorem dX11_struckNow_12 : decode cX11_struckNow 12 = .ok (.ifCond .ne 9, 3) := by decide +kernel
theorem dX11_struckNow_15 : decode cX11_struckNow 15 = .ok (.aload_n 0, 1) := by decide +kernel
theorem dX11_struckNow_16 : decode cX11_struckNow 16 = .ok (.iconst 1, 1) := by decide +kernel
theorem dX11_struckNow_17 : decode cX11_struckNow 17 = .ok (.invokevirtual 139, 3) := by decide +kernel
theorem dX11_struckNow_20 : decode cX11_struckNow 20 = .ok (.ireturn, 1) := by decide +kernel
theorem dX11_struckNow_21 : decode cX11_struckNow 21 = .ok (.aload_n 0, 1) := by decide +kernel
theorem dX11_struckNow_22 : decode cX11_struckNow 22 = .ok (.getfield 23, 3) := by decide +kernel
theorem dX11_struckNow_25 : decode cX11_struckNow 25 = .ok (.iload_n 1, 1) := by decide +kernel
theorem dX11_struckNow_26 : decode cX11_struckNow 26 = .ok (.iload_n 2, 1) := by decide +kernel
theorem dX11_struckNow_27 : decode cX11_struckNow 27 = .ok (.iload_n 3, 1) := by decide +kernel
theorem dX11_struckNow_28 : decode cX11_struckNow 28 = .ok (.iload 4, 2) := by decide +kernel
theorem dX11_struckNow_30 : decode cX11_struckNow 30 = .ok (.invokevirtual 323, 3) := by decide +kernel
theorem dX11_struckNow_33 : decode cX11_struckNow 33 = .ok (.istore 5, 2) := by decide +kernel
theorem dX11_struckNow_35 : decode cX11_struckNow 35 = .ok (.aload_n 0, 1) := by decide +kernel
theorem dX11_struckNow_36 : decode cX11_struckNow 36 = .ok (.aload_n 0, 1) := by decide +kernel
theorem dX11_struckNow_37 : decode cX11_struckNow 37 = .ok (.getfield 23, 3) := by decide +kernel
theorem dX11_struckNow_40 : decode cX11_struckNow 40 = .ok (.getfield 228, 3) := by decide +kernel
theorem dX11_struckNow_43 : decode cX11_struckNow 43 = .ok (.ifCond .eq 15, 3) := by decide +kernel
theorem dX11_struckNow_46 : decode cX11_struckNow 46 = .ok (.aload_n 0, 1) := by decide +kernel
theorem dX11_struckNow_47 : decode cX11_struckNow 47 = .ok (.getfield 23, 3) := by decide +kernel
theorem dX11_struckNow_50 : decode cX11_struckNow 50 = .ok (.iload 5, 2) := by decide +kernel
theorem dX11_struckNow_52 : decode cX11_struckNow 52 = .ok (.invokevirtual 326, 3) := by decide +kernel
theorem dX11_struckNow_55 : decode cX11_struckNow 55 = .ok (.goto 5, 3) := by decide +kernel
theorem dX11_struckNow_58 : decode cX11_struckNow 58 = .ok (.iload 5, 2) := by decide +kernel
theorem dX11_struckNow_60 : decode cX11_struckNow 60 = .ok (.invokevirtual 259, 3) := by decide +kernel
theorem dX11_struckNow_63 : decode cX11_struckNow 63 = .ok (.ireturn, 1) := by decide +kernel
noncomputable def fX11_struckNow_j60 (rf : Nat → Nat → Nat) (b0 : Nat) (y1 : Int32) (μ0 : o_Mem) : Option (Int32 × o_Mem) :=
  o_bd (fX11_givesIfAny rf b0 y1 μ0) fun r1 μ1 =>
  some (r1, μ1)
noncomputable def fX11_struckNow (rf : Nat → Nat → Nat) (a0 : Nat) (x1 : Int32) (x2 : Int32) (x3 : Int32) (x4 : Int32) (μ0 : o_Mem) : Option (Int32 × o_Mem) :=
  o_bd (fX8_isLetter rf (rf a0 4) x1 x2 x3 x4 μ0) fun r1 μ1 =>
  if r1 = 0 then (
    o_bd (fX11_refuses rf a0 1 μ1) fun r4 μ4 =>
    some (r4, μ4))
  else (
    o_bd (fX8_soberStrike rf (rf a0 4) x1 x2 x3 x4 μ1) fun r2 μ2 =>
    if (μ2.1 (rf a0 4) 6) = 0 then (
      fX11_struckNow_j60 rf a0 r2 μ2)
    else (
      o_bd (fX8_strikeBehind rf (rf a0 4) r2 μ2) fun r3 μ3 =>
      fX11_struckNow_j60 rf a0 r3 μ3))
set_option maxRecDepth 20000 in
theorem dnX11_struckNow_j60 {X : o_Cx} (hX : o_ok X) {d : Nat} {b0 : Nat} {y1 : Int32} {μ0 : o_Mem} {q : Int32 → o_Mem → Prop} (hb0 : o_is X b0 (.inl 11)) (h : o_Post (fX11_struckNow_j60 (o_rf X) b0 y1 μ0) q) : o_Ev X (d + 3) mX11_struckNow 60 [none, none, none, none, none, none] [.int y1, .ref (o_ad X b0)] μ0 (o_QI q) := by
  unfold fX11_struckNow_j60 at h
  refine s_callVi (C := mX11_givesIfAny) (As := [.int y1]) (rest := []) (L0 := [some (.ref (o_ad X b0)), some (.int y1)]) hX hb0 clX11_259 dX11_struckNow_60 rfl rfl (Nat.le_of_ble_eq_true rfl) (Nat.le_of_ble_eq_true rfl) (dnX11_givesIfAny hX hb0 (o_bdp h)) (fun r1 μ1 h => ?_)
  exact s_ireturn rfl dX11_struckNow_63 ⟨_, rfl, o_ret h⟩
set_option maxRecDepth 20000 in
theorem dnX11_struckNow {X : o_Cx} (hX : o_ok X) {d : Nat} {a0 : Nat} {x1 : Int32} {x2 : Int32} {x3 : Int32} {x4 : Int32} {μ0 : o_Mem} {q : Int32 → o_Mem → Prop} (h0 : o_is X a0 (.inl 11)) (h : o_Post (fX11_struckNow (o_rf X) a0 x1 x2 x3 x4 μ0) q) : o_Ev X (d + 3) mX11_struckNow 0 [some (.ref (o_ad X a0)), some (.int x1), some (.int x2), some (.int x3), some (.int x4), none] [] μ0 (o_QI q) := by
  unfold fX11_struckNow at h
  refine s_aload_n (i := 0) dX11_struckNow_0 rfl rfl ?_
  refine s_getR hX h0 flX11_23 rfl dX11_struckNow_1 (fun (g1 : o_is X (o_rf X a0 4) (.inl 8)) => ?_)
  refine s_iload_n (i := 1) dX11_struckNow_4 rfl rfl ?_
  refine s_iload_n (i := 2) dX11_struckNow_5 rfl rfl ?_
  refine s_iload_n (i := 3) dX11_struckNow_6 rfl rfl ?_
  refine s_iload dX11_struckNow_7 rfl ?_
  refine s_callVz (C := mX8_isLetter) (As := [.int x1, .int x2, .int x3, .int x4]) (rest := []) (L0 := [some (.ref (o_ad X (o_rf X a0 4))), some (.int x1), some (.int x2), some (.int x3), some (.int x4)]) hX g1 clX11_280 dX11_struckNow_9 rfl rfl (Nat.le_of_ble_eq_true rfl) (Nat.le_of_ble_eq_true rfl) (dnX8_isLetter hX g1 (o_bdp h)) (fun r1 μ1 zr1 h => ?_)
  refine s_if_ne (tgt := 21) dX11_struckNow_12 rfl (fun c1 => ?_) (fun c1 => ?_)
  · have h := o_if_f c1 h
    refine s_aload_n (i := 0) dX11_struckNow_21 rfl rfl ?_
    refine s_getR hX h0 flX11_23 rfl dX11_struckNow_22 (fun (g2 : o_is X (o_rf X a0 4) (.inl 8)) => ?_)
    refine s_iload_n (i := 1) dX11_struckNow_25 rfl rfl ?_
    refine s_iload_n (i := 2) dX11_struckNow_26 rfl rfl ?_
    refine s_iload_n (i := 3) dX11_struckNow_27 rfl rfl ?_
    refine s_iload dX11_struckNow_28 rfl ?_
    refine s_callVi (C := mX8_soberStrike) (As := [.int x1, .int x2, .int x3, .int x4]) (rest := []) (L0 := [some (.ref (o_ad X (o_rf X a0 4))), some (.int x1), some (.int x2), some (.int x3), some (.int x4)]) hX g2 clX11_323 dX11_struckNow_30 rfl rfl (Nat.le_of_ble_eq_true rfl) (Nat.le_of_ble_eq_true rfl) (dnX8_soberStrike hX g2 (o_bdp h)) (fun r2 μ2 h => ?_)
    refine s_istore dX11_struckNow_33 (Nat.le_of_ble_eq_true rfl) rfl ?_
    refine s_aload_n (i := 0) dX11_struckNow_35 rfl rfl ?_
    refine s_aload_n (i := 0) dX11_struckNow_36 rfl rfl ?_
    refine s_getR hX h0 flX11_23 rfl dX11_struckNow_37 (fun (g3 : o_is X (o_rf X a0 4) (.inl 8)) => ?_)
    refine s_getI g3 flX11_228 rfl dX11_struckNow_40 ?_
    refine s_if_eq (tgt := 58) dX11_struckNow_43 rfl (fun c1 => ?_) (fun c1 => ?_)
    · have h := o_if_t c1 h
      refine s_iload dX11_struckNow_58 rfl ?_
      refine s_mask [false, false, false, false, false, false] (L' := [none, none, none, none, none, none]) rfl ?_
      exact dnX11_struckNow_j60 hX h0 h
    · have h := o_if_f c1 h
      refine s_aload_n (i := 0) dX11_struckNow_46 rfl rfl ?_
      refine s_getR hX h0 flX11_23 rfl dX11_struckNow_47 (fun (g4 : o_is X (o_rf X a0 4) (.inl 8)) => ?_)
      refine s_iload dX11_struckNow_50 rfl ?_
      refine s_callVi (C := mX8_strikeBehind) (As := [.int r2]) (rest := [.ref (o_ad X a0)]) (L0 := [some (.ref (o_ad X (o_rf X a0 4))), some (.int r2)]) hX g4 clX11_326 dX11_struckNow_52 rfl rfl (Nat.le_of_ble_eq_true rfl) (Nat.le_of_ble_eq_true rfl) (dnX8_strikeBehind hX g4 (o_bdp h)) (fun r3 μ3 h => ?_)
      refine s_goto (tgt := 60) dX11_struckNow_55 rfl ?_
      refine s_mask [false, false, false, false, false, false] (L' := [none, none, none, none, none, none]) rfl ?_
      exact dnX11_struckNow_j60 hX h0 h
  · have h := o_if_t c1 h
    refine s_aload_n (i := 0) dX11_struckNow_15 rfl rfl ?_
    refine s_iconst dX11_struckNow_16 kI_1 ?_
    refine s_callVi (C := mX11_refuses) (As := [.int 1]) (rest := []) (L0 := [some (.ref (o_ad X a0)), some (.int 1)]) hX h0 clX11_139 dX11_struckNow_17 rfl rfl (Nat.le_of_ble_eq_true rfl) (Nat.le_of_ble_eq_true rfl) (dnX11_refuses hX h0 (o_bdp h)) (fun r4 μ4 h => ?_)
    exact s_ireturn rfl dX11_struckNow_20 ⟨_, rfl, o_ret h⟩
theorem dX11_lawsOf_0 : decode cX11_lawsOf 0 = .ok (.aload_n 0, 1) := by decide +kernel
theorem dX11_lawsOf_1 : decode cX11_lawsOf 1 = .ok (.getfield 23, 3) := by decide +kernel
theorem dX11_lawsOf_4 : decode cX11_lawsOf 4 = .ok (.iload_n 1, 1) := by decide +kernel
theorem dX11_lawsOf_5 : decode cX11_lawsOf 5 = .ok (.iload_n 2, 1) := by decide +kernel
theorem dX11_lawsOf_6 : decode cX11_lawsOf 6 = .ok (.iload_n 3, 1) := by decide +kernel
theorem dX11_lawsOf_7 : decode cX11_lawsOf 7 = .ok (.iload 4, 2) := by decide +kernel
theorem dX11_lawsOf_9 : decode cX11_lawsOf 9 = .ok (.invokevirtual 280, 3) := by decide +kernel
theorem dX11_lawsOf_12 : decode cX11_lawsOf 12 = .ok (.ifCond .ne 9, 3) := by decide +kernel
theorem dX11_lawsOf_15 : decode cX11_lawsOf 15 = .ok (.aload_n 0, 1) := by decide +kernel
theorem dX11_lawsOf_16 : decode cX11_lawsOf 16 = .ok (.iconst 1, 1) := by decide +kernel
theorem dX11_lawsOf_17 : decode cX11_lawsOf 17 = .ok (.invokevirtual 139, 3) := by decide +kernel
theorem dX11_lawsOf_20 : decode cX11_lawsOf 20 = .ok (.ireturn, 1) := by decide +kernel
theorem dX11_lawsOf_21 : decode cX11_lawsOf 21 = .ok (.iconst 0, 1) := by decide +kernel
theorem dX11_lawsOf_22 : decode cX11_lawsOf 22 = .ok (.istore 5, 2) := by decide +kernel
theorem dX11_lawsOf_24 : decode cX11_lawsOf 24 = .ok (.iconst 0, 1) := by decide +kernel
theorem dX11_lawsOf_25 : decode cX11_lawsOf 25 = .ok (.istore 6, 2) := by decide +kernel
theorem dX11_lawsOf_27 : decode cX11_lawsOf 27 = .ok (.iload 6, 2) := by decide +kernel
theorem dX11_lawsOf_29 : decode cX11_lawsOf 29 = .ok (.aload_n 0, 1) := by decide +kernel
theorem dX11_lawsOf_30 : decode cX11_lawsOf 30 = .ok (.getfield 23, 3) := by decide +kernel
theorem dX11_lawsOf_33 : decode cX11_lawsOf 33 = .ok (.getfield 184, 3) := by decide +kernel
theorem dX11_lawsOf_36 : decode cX11_lawsOf 36 = .ok (.if_icmp .ge 35, 3) := by decide +kernel
theorem dX11_lawsOf_39 : decode cX11_lawsOf 39 = .ok (.aload_n 0, 1) := by decide +kernel
theorem dX11_lawsOf_40 : decode cX11_lawsOf 40 = .ok (.getfield 23, 3) := by decide +kernel
theorem dX11_lawsOf_43 : decode cX11_lawsOf 43 = .ok (.iload 6, 2) := by decide +kernel
theorem dX11_lawsOf_45 : decode cX11_lawsOf 45 = .ok (.iload_n 1, 1) := by decide +kernel
theorem dX11_lawsOf_46 : decode cX11_lawsOf 46 = .ok (.iload_n 2, 1) := by decide +kernel
theorem dX11_lawsOf_47 : decode cX11_lawsOf 47 = .ok (.iload_n 3, 1) := by decide +kernel
theorem dX11_lawsOf_48 : decode cX11_lawsOf 48 = .ok (.iload 4, 2) := by decide +kernel
theorem dX11_lawsOf_50 : decode cX11_lawsOf 50 = .ok (.invokevirtual 329, 3) := by decide +kernel
theorem dX11_lawsOf_53 : decode cX11_lawsOf 53 = .ok (.ifCond .eq 12, 3) := by decide +kernel
theorem dX11_lawsOf_56 : decode cX11_lawsOf 56 = .ok (.iload 5, 2) := by decide +kernel
theorem dX11_lawsOf_58 : decode cX11_lawsOf 58 = .ok (.iconst 1, 1) := by decide +kernel
theorem dX11_lawsOf_59 : decode cX11_lawsOf 59 = .ok (.iload 6, 2) := by decide +kernel
theorem dX11_lawsOf_61 : decode cX11_lawsOf 61 = .ok (.ishl, 1) := by decide +kernel
theorem dX11_lawsOf_62 : decode cX11_lawsOf 62 = .ok (.ior, 1) := by decide +kernel
theorem dX11_lawsOf_63 : decode cX11_lawsOf 63 = .ok (.istore 5, 2) := by decide +kernel
theorem dX11_lawsOf_65 : decode cX11_lawsOf 65 = .ok (.iinc 6 1, 3) := by decide +kernel
theorem dX11_lawsOf_68 : decode cX11_lawsOf 68 = .ok (.goto (-41), 3) := by decide +kernel
theorem dX11_lawsOf_71 : decode cX11_lawsOf 71 = .ok (.aload_n 0, 1) := by decide +kernel
theorem dX11_lawsOf_72 : decode cX11_lawsOf 72 = .ok (.iload 5, 2) := by decide +kernel
theorem dX11_lawsOf_74 : decode cX11_lawsOf 74 = .ok (.invokevirtual 187, 3) := by decide +kernel
theorem dX11_lawsOf_77 : decode cX11_lawsOf 77 = .ok (.ireturn, 1) := by decide +kernel
noncomputable def fX11_lawsOf_s27 (rf : Nat → Nat → Nat) (a0 : Nat) (x1 : Int32) (x2 : Int32) (x3 : Int32) (x4 : Int32) (τ27 : Int32 × Int32) (μ0 : o_Mem) : Option ((Nat × (Int32 × Int32)) × o_Mem) :=
  if (μ0.1 (rf a0 4) 3) ≤ τ27.2 then (
    some ((71, (τ27.1, 0)), μ0))
  else (
    o_bd (fX8_fits rf (rf a0 4) τ27.2 x1 x2 x3 x4 μ0) fun r1 μ1 =>
    if r1 = 0 then (
      some ((27, (τ27.1, (τ27.2 + 1))), μ1))
    else (
      some ((27, ((τ27.1 ||| (1 <<< (τ27.2 &&& 31))), (τ27.2 + 1))), μ1)))
noncomputable def fX11_lawsOf (rf : Nat → Nat → Nat) (a0 : Nat) (x1 : Int32) (x2 : Int32) (x3 : Int32) (x4 : Int32) (μ0 : o_Mem) : Option (Int32 × o_Mem) :=
  o_bd (fX8_isLetter rf (rf a0 4) x1 x2 x3 x4 μ0) fun r1 μ1 =>
  if r1 = 0 then (
    o_bd (fX11_refuses rf a0 1 μ1) fun r3 μ4 =>
    some (r3, μ4))
  else (
    o_bd (o_lp 27 (fX11_lawsOf_s27 rf a0 x1 x2 x3 x4) o_fuel (0, 0) μ1) fun ex2 μ2 =>
    if ex2.1 = 71 then (
      o_bd (fX11_gives rf a0 ex2.2.1 μ2) fun r2 μ3 =>
      some (r2, μ3))
    else
      none)
set_option maxRecDepth 20000 in
theorem dnX11_lawsOf_s27 {X : o_Cx} (hX : o_ok X) {d : Nat} {a0 : Nat} {x1 : Int32} {x2 : Int32} {x3 : Int32} {x4 : Int32} {τ27 : Int32 × Int32} {μ0 : o_Mem} {K : (Nat × (Int32 × Int32)) → o_Mem → Prop} {Q : Option Value → o_Mem → Prop} (h0 : o_is X a0 (.inl 11)) (h : o_Post (fX11_lawsOf_s27 (o_rf X) a0 x1 x2 x3 x4 τ27 μ0) K) (kh : ∀ (τ27 : Int32 × Int32) (μ : o_Mem), K (27, τ27) μ → o_Ev X (d + 2) mX11_lawsOf 27 [some (.ref (o_ad X a0)), some (.int x1), some (.int x2), some (.int x3), some (.int x4), some (.int τ27.1), some (.int τ27.2)] [] μ Q) (k71 : ∀ (τ27 : Int32 × Int32) (μ : o_Mem), K (71, τ27) μ → o_Ev X (d + 2) mX11_lawsOf 71 [some (.ref (o_ad X a0)), none, none, none, none, some (.int τ27.1), none] [] μ Q) : o_Ev X (d + 2) mX11_lawsOf 27 [some (.ref (o_ad X a0)), some (.int x1), some (.int x2), some (.int x3), some (.int x4), some (.int τ27.1), some (.int τ27.2)] [] μ0 Q := by
  unfold fX11_lawsOf_s27 at h
  refine s_iload dX11_lawsOf_27 rfl ?_
  refine s_aload_n (i := 0) dX11_lawsOf_29 rfl rfl ?_
  refine s_getR hX h0 flX11_23 rfl dX11_lawsOf_30 (fun (g1 : o_is X (o_rf X a0 4) (.inl 8)) => ?_)
  refine s_getI g1 flX11_184 rfl dX11_lawsOf_33 ?_
  refine s_icmp_ge (tgt := 71) dX11_lawsOf_36 rfl (fun c1 => ?_) (fun c1 => ?_)
  · have h := o_if_t c1 h
    refine s_mask [true, false, false, false, false, true, false] (L' := [some (.ref (o_ad X a0)), none, none, none, none, some (.int τ27.1), none]) rfl ?_
    exact k71 (τ27.1, 0) _ (o_ret h)
  · have h := o_if_f c1 h
    refine s_aload_n (i := 0) dX11_lawsOf_39 rfl rfl ?_
    refine s_getR hX h0 flX11_23 rfl dX11_lawsOf_40 (fun (g2 : o_is X (o_rf X a0 4) (.inl 8)) => ?_)
    refine s_iload dX11_lawsOf_43 rfl ?_
    refine s_iload_n (i := 1) dX11_lawsOf_45 rfl rfl ?_
    refine s_iload_n (i := 2) dX11_lawsOf_46 rfl rfl ?_
    refine s_iload_n (i := 3) dX11_lawsOf_47 rfl rfl ?_
    refine s_iload dX11_lawsOf_48 rfl ?_
    refine s_callVz (C := mX8_fits) (As := [.int τ27.2, .int x1, .int x2, .int x3, .int x4]) (rest := []) (L0 := [some (.ref (o_ad X (o_rf X a0 4))), some (.int τ27.2), some (.int x1), some (.int x2), some (.int x3), some (.int x4), none, none, none, none, none, none]) hX g2 clX11_329 dX11_lawsOf_50 rfl rfl (Nat.le_of_ble_eq_true rfl) (Nat.le_of_ble_eq_true rfl) (dnX8_fits hX g2 (o_bdp h)) (fun r1 μ1 zr1 h => ?_)
    refine s_if_eq (tgt := 65) dX11_lawsOf_53 rfl (fun c1 => ?_) (fun c1 => ?_)
    · have h := o_if_t c1 h
      refine s_iinc (v := (τ27.2 + 1)) dX11_lawsOf_65 rfl rfl (Nat.le_of_ble_eq_true rfl) rfl ?_
      refine s_goto (tgt := 27) dX11_lawsOf_68 rfl ?_
      refine s_mask [true, true, true, true, true, true, true] (L' := [some (.ref (o_ad X a0)), some (.int x1), some (.int x2), some (.int x3), some (.int x4), some (.int τ27.1), some (.int (τ27.2 + 1))]) rfl ?_
      exact kh (τ27.1, (τ27.2 + 1)) _ (o_ret h)
    · have h := o_if_f c1 h
      refine s_iload dX11_lawsOf_56 rfl ?_
      refine s_iconst dX11_lawsOf_58 kI_1 ?_
      refine s_iload dX11_lawsOf_59 rfl ?_
      refine s_ishl dX11_lawsOf_61 ?_
      refine s_ior dX11_lawsOf_62 ?_
      refine s_istore dX11_lawsOf_63 (Nat.le_of_ble_eq_true rfl) rfl ?_
      refine s_iinc (v := (τ27.2 + 1)) dX11_lawsOf_65 rfl rfl (Nat.le_of_ble_eq_true rfl) rfl ?_
      refine s_goto (tgt := 27) dX11_lawsOf_68 rfl ?_
      refine s_mask [true, true, true, true, true, true, true] (L' := [some (.ref (o_ad X a0)), some (.int x1), some (.int x2), some (.int x3), some (.int x4), some (.int (τ27.1 ||| (1 <<< (τ27.2 &&& 31)))), some (.int (τ27.2 + 1))]) rfl ?_
      exact kh ((τ27.1 ||| (1 <<< (τ27.2 &&& 31))), (τ27.2 + 1)) _ (o_ret h)
set_option maxRecDepth 20000 in
theorem dnX11_lawsOf {X : o_Cx} (hX : o_ok X) {d : Nat} {a0 : Nat} {x1 : Int32} {x2 : Int32} {x3 : Int32} {x4 : Int32} {μ0 : o_Mem} {q : Int32 → o_Mem → Prop} (h0 : o_is X a0 (.inl 11)) (h : o_Post (fX11_lawsOf (o_rf X) a0 x1 x2 x3 x4 μ0) q) : o_Ev X (d + 2) mX11_lawsOf 0 [some (.ref (o_ad X a0)), some (.int x1), some (.int x2), some (.int x3), some (.int x4), none, none] [] μ0 (o_QI q) := by
  unfold fX11_lawsOf at h
  refine s_aload_n (i := 0) dX11_lawsOf_0 rfl rfl ?_
  refine s_getR hX h0 flX11_23 rfl dX11_lawsOf_1 (fun (g1 : o_is X (o_rf X a0 4) (.inl 8)) => ?_)
  refine s_iload_n (i := 1) dX11_lawsOf_4 rfl rfl ?_
  refine s_iload_n (i := 2) dX11_lawsOf_5 rfl rfl ?_
  refine s_iload_n (i := 3) dX11_lawsOf_6 rfl rfl ?_
  refine s_iload dX11_lawsOf_7 rfl ?_
  refine s_callVz (C := mX8_isLetter) (As := [.int x1, .int x2, .int x3, .int x4]) (rest := []) (L0 := [some (.ref (o_ad X (o_rf X a0 4))), some (.int x1), some (.int x2), some (.int x3), some (.int x4)]) hX g1 clX11_280 dX11_lawsOf_9 rfl rfl (Nat.le_of_ble_eq_true rfl) (Nat.le_of_ble_eq_true rfl) (dnX8_isLetter hX g1 (o_bdp h)) (fun r1 μ1 zr1 h => ?_)
  refine s_if_ne (tgt := 21) dX11_lawsOf_12 rfl (fun c1 => ?_) (fun c1 => ?_)
  · have h := o_if_f c1 h
    refine s_iconst dX11_lawsOf_21 kI_0 ?_
    refine s_istore dX11_lawsOf_22 (Nat.le_of_ble_eq_true rfl) rfl ?_
    refine s_iconst dX11_lawsOf_24 kI_0 ?_
    refine s_istore dX11_lawsOf_25 (Nat.le_of_ble_eq_true rfl) rfl ?_
    refine s_mask [true, true, true, true, true, true, true] (L' := [some (.ref (o_ad X a0)), some (.int x1), some (.int x2), some (.int x3), some (.int x4), some (.int 0), some (.int 0)]) rfl ?_
    refine o_lp_ev (fun τ27 => [some (.ref (o_ad X a0)), some (.int x1), some (.int x2), some (.int x3), some (.int x4), some (.int τ27.1), some (.int τ27.2)]) (fun τ27 μ _K h kv ke27 => dnX11_lawsOf_s27 hX h0 h kv (fun τ27 μ2 h => ?_)) o_fuel (0, 0) μ1 (o_bdp h)
    · have h := o_if_t rfl (ke27 (71, τ27) μ2 (o_ne rfl) h)
      refine s_aload_n (i := 0) dX11_lawsOf_71 rfl rfl ?_
      refine s_iload dX11_lawsOf_72 rfl ?_
      refine s_callVi (C := mX11_gives) (As := [.int τ27.1]) (rest := []) (L0 := [some (.ref (o_ad X a0)), some (.int τ27.1)]) hX h0 clX11_187 dX11_lawsOf_74 rfl rfl (Nat.le_of_ble_eq_true rfl) (Nat.le_of_ble_eq_true rfl) (dnX11_gives hX h0 (o_bdp h)) (fun r2 μ3 h => ?_)
      exact s_ireturn rfl dX11_lawsOf_77 ⟨_, rfl, o_ret h⟩
  · have h := o_if_t c1 h
    refine s_aload_n (i := 0) dX11_lawsOf_15 rfl rfl ?_
    refine s_iconst dX11_lawsOf_16 kI_1 ?_
    refine s_callVi (C := mX11_refuses) (As := [.int 1]) (rest := []) (L0 := [some (.ref (o_ad X a0)), some (.int 1)]) hX h0 clX11_139 dX11_lawsOf_17 rfl rfl (Nat.le_of_ble_eq_true rfl) (Nat.le_of_ble_eq_true rfl) (dnX11_refuses hX h0 (o_bdp h)) (fun r3 μ4 h => ?_)
    exact s_ireturn rfl dX11_lawsOf_20 ⟨_, rfl, o_ret h⟩
