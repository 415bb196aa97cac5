theorem dX11_via_0 : decode cX11_via 0 = .ok (.aload_n 0, 1) := by decide +kernel
theorem dX11_via_1 : decode cX11_via 1 = .ok (.iload_n 1, 1) := by decide +kernel
theorem dX11_via_2 : decode cX11_via 2 = .ok (.iload_n 2, 1) := by decide +kernel
theorem dX11_via_3 : decode cX11_via 3 = .ok (.iload_n 3, 1) := by decide +kernel
theorem dX11_via_4 : decode cX11_via 4 = .ok (.iload 4, 2) := by decide +kernel
theorem dX11_via_6 : decode cX11_via 6 = .ok (.invokevirtual 347, 3) := by decide +kernel
theorem dX11_via_9 : decode cX11_via 9 = .ok (.ifCond .ne 9, 3) := by decide +kernel
theorem dX11_via_12 : decode cX11_via 12 = .ok (.aload_n 0, 1) := by decide +kernel
theorem dX11_via_13 : decode cX11_via 13 = .ok (.iconst 1, 1) := by decide +kernel
theorem dX11_via_14 : decode cX11_via 14 = .ok (.invokevirtual 139, 3) := by decide +kernel
theorem dX11_via_17 : decode cX11_via 17 = .ok (.ireturn, 1) := by decide +kernel
theorem dX11_via_18 : decode cX11_via 18 = .ok (.aload_n 0, 1) := by decide +kernel
theorem dX11_via_19 : decode cX11_via 19 = .ok (.getfield 87, 3) := by decide +kernel
theorem dX11_via_22 : decode cX11_via 22 = .ok (.aload_n 0, 1) := by decide +kernel
theorem dX11_via_23 : decode cX11_via 23 = .ok (.getfield 23, 3) := by decide +kernel
theorem dX11_via_26 : decode cX11_via 26 = .ok (.iload_n 2, 1) := by decide +kernel
theorem dX11_via_27 : decode cX11_via 27 = .ok (.iload_n 3, 1) := by decide +kernel
theorem dX11_via_28 : decode cX11_via 28 = .ok (.iload 4, 2) := by decide +kernel
theorem dX11_via_30 : decode cX11_via 30 = .ok (.invokevirtual 350, 3) := by decide +kernel
theorem dX11_via_33 : decode cX11_via 33 = .ok (.aload_n 0, 1) := by decide +kernel
theorem dX11_via_34 : decode cX11_via 34 = .ok (.aload_n 0, 1) := by decide +kernel
theorem dX11_via_35 : decode cX11_via 35 = .ok (.getfield 87, 3) := by decide +kernel
theorem dX11_via_38 : decode cX11_via 38 = .ok (.getfield 354, 3) := by decide +kernel
theorem dX11_via_41 : decode cX11_via 41 = .ok (.iload_n 1, 1) := by decide +kernel
theorem dX11_via_42 : decode cX11_via 42 = .ok (.iaload, 1) := by decide +kernel
theorem dX11_via_43 : decode cX11_via 43 = .ok (.invokevirtual 259, 3) := by decide +kernel
theorem dX11_via_46 : decode cX11_via 46 = .ok (.ireturn, 1) := by decide +kernel
noncomputable def fX11_via (rf : Nat → Nat → Nat) (a0 : Nat) (x1 : Int32) (x2 : Int32) (x3 : Int32) (x4 : Int32) (μ0 : o_Mem) : Option (Int32 × o_Mem) :=
  o_bd (fX11_isWay rf a0 x1 x2 x3 x4 μ0) fun r1 μ1 =>
  if r1 = 0 then (
    o_bd (fX11_refuses rf a0 1 μ1) fun r3 μ4 =>
    some (r3, μ4))
  else (
    o_bd (fX6_findWays rf (rf a0 16) (rf a0 4) x2 x3 x4 μ1) fun _u μ2 =>
    o_ck (0 ≤ (x1).toInt ∧ (x1).toInt < 6) <|
    o_bd (fX11_givesIfAny rf a0 (μ2.1 (rf (rf a0 16) 0) x1.toNatClampNeg) μ2) fun r2 μ3 =>
    some (r2, μ3))
set_option maxRecDepth 20000 in
theorem dnX11_via {X : o_Cx} (hX : o_ok X) {d : Nat} {a0 : Nat} {x1 : Int32} {x2 : Int32} {x3 : Int32} {x4 : Int32} {μ0 : o_Mem} {q : Int32 → o_Mem → Prop} (h0 : o_is X a0 (.inl 11)) (h : o_Post (fX11_via (o_rf X) a0 x1 x2 x3 x4 μ0) q) : o_Ev X (d + 6) mX11_via 0 [some (.ref (o_ad X a0)), some (.int x1), some (.int x2), some (.int x3), some (.int x4)] [] μ0 (o_QI q) := by
  unfold fX11_via at h
  refine s_aload_n (i := 0) dX11_via_0 rfl rfl ?_
  refine s_iload_n (i := 1) dX11_via_1 rfl rfl ?_
  refine s_iload_n (i := 2) dX11_via_2 rfl rfl ?_
  refine s_iload_n (i := 3) dX11_via_3 rfl rfl ?_
  refine s_iload dX11_via_4 rfl ?_
  refine s_callVz (C := mX11_isWay) (As := [.int x1, .int x2, .int x3, .int x4]) (rest := []) (L0 := [some (.ref (o_ad X a0)), some (.int x1), some (.int x2), some (.int x3), some (.int x4)]) hX h0 clX11_347 dX11_via_6 rfl rfl (Nat.le_of_ble_eq_true rfl) (Nat.le_of_ble_eq_true rfl) (dnX11_isWay hX h0 (o_bdp h)) (fun r1 μ1 zr1 h => ?_)
  refine s_if_ne (tgt := 18) dX11_via_9 rfl (fun c1 => ?_) (fun c1 => ?_)
  · have h := o_if_f c1 h
    refine s_aload_n (i := 0) dX11_via_18 rfl rfl ?_
    refine s_getR hX h0 flX11_87 rfl dX11_via_19 (fun (g1 : o_is X (o_rf X a0 16) (.inl 6)) => ?_)
    refine s_aload_n (i := 0) dX11_via_22 rfl rfl ?_
    refine s_getR hX h0 flX11_23 rfl dX11_via_23 (fun (g2 : o_is X (o_rf X a0 4) (.inl 8)) => ?_)
    refine s_iload_n (i := 2) dX11_via_26 rfl rfl ?_
    refine s_iload_n (i := 3) dX11_via_27 rfl rfl ?_
    refine s_iload dX11_via_28 rfl ?_
    refine s_callVu (C := mX6_findWays) (As := [.ref (o_ad X (o_rf X a0 4)), .int x2, .int x3, .int x4]) (rest := []) (L0 := [some (.ref (o_ad X (o_rf X a0 16))), some (.ref (o_ad X (o_rf X a0 4))), some (.int x2), some (.int x3), some (.int x4), none, none]) hX g1 clX11_350 dX11_via_30 rfl rfl (Nat.le_of_ble_eq_true rfl) (Nat.le_of_ble_eq_true rfl) (dnX6_findWays hX g1 g2 (o_bdp h)) (fun _u μ2 h => ?_)
    refine s_aload_n (i := 0) dX11_via_33 rfl rfl ?_
    refine s_aload_n (i := 0) dX11_via_34 rfl rfl ?_
    refine s_getR hX h0 flX11_87 rfl dX11_via_35 (fun (g3 : o_is X (o_rf X a0 16) (.inl 6)) => ?_)
    refine s_getR hX g3 flX11_354 rfl dX11_via_38 (fun (g4 : o_is X (o_rf X (o_rf X a0 16) 0) (.inr (0, 6))) => ?_)
    refine s_iload_n (i := 1) dX11_via_41 rfl rfl ?_
    have hc := o_ck_c h
    have h := o_ck_k h
    refine s_ialdK g4 hc rfl dX11_via_42 ?_
    refine s_callVi (C := mX11_givesIfAny) (As := [.int (μ2.1 (o_rf X (o_rf X a0 16) 0) x1.toNatClampNeg)]) (rest := []) (L0 := [some (.ref (o_ad X a0)), some (.int (μ2.1 (o_rf X (o_rf X a0 16) 0) x1.toNatClampNeg))]) hX h0 clX11_259 dX11_via_43 rfl rfl (Nat.le_of_ble_eq_true rfl) (Nat.le_of_ble_eq_true rfl) (dnX11_givesIfAny hX h0 (o_bdp h)) (fun r2 μ3 h => ?_)
    exact s_ireturn rfl dX11_via_46 ⟨_, rfl, o_ret h⟩
  · have h := o_if_t c1 h
    refine s_aload_n (i := 0) dX11_via_12 rfl rfl ?_
    refine s_iconst dX11_via_13 kI_1 ?_
    refine s_callVi (C := mX11_refuses) (As := [.int 1]) (rest := []) (L0 := [some (.ref (o_ad X a0)), some (.int 1)]) hX h0 clX11_139 dX11_via_14 rfl rfl (Nat.le_of_ble_eq_true rfl) (Nat.le_of_ble_eq_true rfl) (dnX11_refuses hX h0 (o_bdp h)) (fun r3 μ4 h => ?_)
    exact s_ireturn rfl dX11_via_17 ⟨_, rfl, o_ret h⟩
theorem dX11_viaFirst_0 : decode cX11_viaFirst 0 = .ok (.aload_n 0, 1) := by decide +kernel
theorem dX11_viaFirst_1 : decode cX11_viaFirst 1 = .ok (.iload_n 1, 1) := by decide +kernel
theorem dX11_viaFirst_2 : decode cX11_viaFirst 2 = .ok (.iload_n 2, 1) := by decide +kernel
theorem dX11_viaFirst_3 : decode cX11_viaFirst 3 = .ok (.iload_n 3, 1) := by decide +kernel
theorem dX11_viaFirst_4 : decode cX11_viaFirst 4 = .ok (.iload 4, 2) := by decide +kernel
theorem dX11_viaFirst_6 : decode cX11_viaFirst 6 = .ok (.invokevirtual 347, 3) := by decide +kernel
theorem dX11_viaFirst_9 : decode cX11_viaFirst 9 = .ok (.ifCond .ne 9, 3) := by decide +kernel
theorem dX11_viaFirst_12 : decode cX11_viaFirst 12 = .ok (.aload_n 0, 1) := by decide +kernel
theorem dX11_viaFirst_13 : decode cX11_viaFirst 13 = .ok (.iconst 1, 1) := by decide +kernel
theorem dX11_viaFirst_14 : decode cX11_viaFirst 14 = .ok (.invokevirtual 139, 3) := by decide +kernel
theorem dX11_viaFirst_17 : decode cX11_viaFirst 17 = .ok (.ireturn, 1) := by decide +kernel
theorem dX11_viaFirst_18 : decode cX11_viaFirst 18 = .ok (.aload_n 0, 1) := by decide +kernel
theorem dX11_viaFirst_19 : decode cX11_viaFirst 19 = .ok (.getfield 87, 3) := by decide +kernel
theorem dX11_viaFirst_22 : decode cX11_viaFirst 22 = .ok (.aload_n 0, 1) := by decide +kernel
theorem dX11_viaFirst_23 : decode cX11_viaFirst 23 = .ok (.getfield 23, 3) := by decide +kernel
theorem dX11_viaFirst_26 : decode cX11_viaFirst 26 = .ok (.iload_n 2, 1) := by decide +kernel
theorem dX11_viaFirst_27 : decode cX11_viaFirst 27 = .ok (.iload_n 3, 1) := by decide +kernel
theorem dX11_viaFirst_28 : decode cX11_viaFirst 28 = .ok (.iload 4, 2) := by decide +kernel
theorem dX11_viaFirst_30 : decode cX11_viaFirst 30 = .ok (.invokevirtual 350, 3) := by decide +kernel
theorem dX11_viaFirst_33 : decode cX11_viaFirst 33 = .ok (.aload_n 0, 1) := by decide +kernel
theorem dX11_viaFirst_34 : decode cX11_viaFirst 34 = .ok (.aload_n 0, 1) := by decide +kernel
theorem dX11_viaFirst_35 : decode cX11_viaFirst 35 = .ok (.getfield 87, 3) := by decide +kernel
theorem dX11_viaFirst_38 : decode cX11_viaFirst 38 = .ok (.aload_n 0, 1) := by decide +kernel
theorem dX11_viaFirst_39 : decode cX11_viaFirst 39 = .ok (.getfield 23, 3) := by decide +kernel
theorem dX11_viaFirst_42 : decode cX11_viaFirst 42 = .ok (.iload_n 1, 1) := by decide +kernel
theorem dX11_viaFirst_43 : decode cX11_viaFirst 43 = .ok (.iload_n 2, 1) := by decide +kernel
theorem dX11_viaFirst_44 : decode cX11_viaFirst 44 = .ok (.iload_n 3, 1) := by decide +kernel
theorem dX11_viaFirst_45 : decode cX11_viaFirst 45 = .ok (.invokevirtual 357, 3) := by decide +kernel
theorem dX11_viaFirst_48 : decode cX11_viaFirst 48 = .ok (.invokevirtual 259, 3) := by decide +kernel
theorem dX11_viaFirst_51 : decode cX11_viaFirst 51 = .ok (.ireturn, 1) := by decide +kernel
noncomputable def fX11_viaFirst (rf : Nat → Nat → Nat) (a0 : Nat) (x1 : Int32) (x2 : Int32) (x3 : Int32) (x4 : Int32) (μ0 : o_Mem) : Option (Int32 × o_Mem) :=
  o_bd (fX11_isWay rf a0 x1 x2 x3 x4 μ0) fun r1 μ1 =>
  if r1 = 0 then (
    o_bd (fX11_refuses rf a0 1 μ1) fun r4 μ5 =>
    some (r4, μ5))
  else (
    o_bd (fX6_findWays rf (rf a0 16) (rf a0 4) x2 x3 x4 μ1) fun _u μ2 =>
    o_bd (fX6_firstOnWay rf (rf a0 16) (rf a0 4) x1 x2 x3 μ2) fun r2 μ3 =>
    o_bd (fX11_givesIfAny rf a0 r2 μ3) fun r3 μ4 =>
    some (r3, μ4))
set_option maxRecDepth 20000 in
theorem dnX11_viaFirst {X : o_Cx} (hX : o_ok X) {d : Nat} {a0 : Nat} {x1 : Int32} {x2 : Int32} {x3 : Int32} {x4 : Int32} {μ0 : o_Mem} {q : Int32 → o_Mem → Prop} (h0 : o_is X a0 (.inl 11)) (h : o_Post (fX11_viaFirst (o_rf X) a0 x1 x2 x3 x4 μ0) q) : o_Ev X (d + 6) mX11_viaFirst 0 [some (.ref (o_ad X a0)), some (.int x1), some (.int x2), some (.int x3), some (.int x4)] [] μ0 (o_QI q) := by
  unfold fX11_viaFirst at h
  refine s_aload_n (i := 0) dX11_viaFirst_0 rfl rfl ?_
  refine s_iload_n (i := 1) dX11_viaFirst_1 rfl rfl ?_
  refine s_iload_n (i := 2) dX11_viaFirst_2 rfl rfl ?_
  refine s_iload_n (i := 3) dX11_viaFirst_3 rfl rfl ?_
  refine s_iload dX11_viaFirst_4 rfl ?_
  refine s_callVz (C := mX11_isWay) (As := [.int x1, .int x2, .int x3, .int x4]) (rest := []) (L0 := [some (.ref (o_ad X a0)), some (.int x1), some (.int x2), some (.int x3), some (.int x4)]) hX h0 clX11_347 dX11_viaFirst_6 rfl rfl (Nat.le_of_ble_eq_true rfl) (Nat.le_of_ble_eq_true rfl) (dnX11_isWay hX h0 (o_bdp h)) (fun r1 μ1 zr1 h => ?_)
  refine s_if_ne (tgt := 18) dX11_viaFirst_9 rfl (fun c1 => ?_) (fun c1 => ?_)
  · have h := o_if_f c1 h
    refine s_aload_n (i := 0) dX11_viaFirst_18 rfl rfl ?_
    refine s_getR hX h0 flX11_87 rfl dX11_viaFirst_19 (fun (g1 : o_is X (o_rf X a0 16) (.inl 6)) => ?_)
    refine s_aload_n (i := 0) dX11_viaFirst_22 rfl rfl ?_
    refine s_getR hX h0 flX11_23 rfl dX11_viaFirst_23 (fun (g2 : o_is X (o_rf X a0 4) (.inl 8)) => ?_)
    refine s_iload_n (i := 2) dX11_viaFirst_26 rfl rfl ?_
    refine s_iload_n (i := 3) dX11_viaFirst_27 rfl rfl ?_
    refine s_iload dX11_viaFirst_28 rfl ?_
    refine s_callVu (C := mX6_findWays) (As := [.ref (o_ad X (o_rf X a0 4)), .int x2, .int x3, .int x4]) (rest := []) (L0 := [some (.ref (o_ad X (o_rf X a0 16))), some (.ref (o_ad X (o_rf X a0 4))), some (.int x2), some (.int x3), some (.int x4), none, none]) hX g1 clX11_350 dX11_viaFirst_30 rfl rfl (Nat.le_of_ble_eq_true rfl) (Nat.le_of_ble_eq_true rfl) (dnX6_findWays hX g1 g2 (o_bdp h)) (fun _u μ2 h => ?_)
    refine s_aload_n (i := 0) dX11_viaFirst_33 rfl rfl ?_
    refine s_aload_n (i := 0) dX11_viaFirst_34 rfl rfl ?_
    refine s_getR hX h0 flX11_87 rfl dX11_viaFirst_35 (fun (g3 : o_is X (o_rf X a0 16) (.inl 6)) => ?_)
    refine s_aload_n (i := 0) dX11_viaFirst_38 rfl rfl ?_
    refine s_getR hX h0 flX11_23 rfl dX11_viaFirst_39 (fun (g4 : o_is X (o_rf X a0 4) (.inl 8)) => ?_)
    refine s_iload_n (i := 1) dX11_viaFirst_42 rfl rfl ?_
    refine s_iload_n (i := 2) dX11_viaFirst_43 rfl rfl ?_
    refine s_iload_n (i := 3) dX11_viaFirst_44 rfl rfl ?_
    refine s_callVi (C := mX6_firstOnWay) (As := [.ref (o_ad X (o_rf X a0 4)), .int x1, .int x2, .int x3]) (rest := [.ref (o_ad X a0)]) (L0 := [some (.ref (o_ad X (o_rf X a0 16))), some (.ref (o_ad X (o_rf X a0 4))), some (.int x1), some (.int x2), some (.int x3)]) hX g3 clX11_357 dX11_viaFirst_45 rfl rfl (Nat.le_of_ble_eq_true rfl) (Nat.le_of_ble_eq_true rfl) (dnX6_firstOnWay hX g3 g4 (o_bdp h)) (fun r2 μ3 h => ?_)
    refine s_callVi (C := mX11_givesIfAny) (As := [.int r2]) (rest := []) (L0 := [some (.ref (o_ad X a0)), some (.int r2)]) hX h0 clX11_259 dX11_viaFirst_48 rfl rfl (Nat.le_of_ble_eq_true rfl) (Nat.le_of_ble_eq_true rfl) (dnX11_givesIfAny hX h0 (o_bdp h)) (fun r3 μ4 h => ?_)
    exact s_ireturn rfl dX11_viaFirst_51 ⟨_, rfl, o_ret h⟩
  · have h := o_if_t c1 h
    refine s_aload_n (i := 0) dX11_viaFirst_12 rfl rfl ?_
    refine s_iconst dX11_viaFirst_13 kI_1 ?_
    refine s_callVi (C := mX11_refuses) (As := [.int 1]) (rest := []) (L0 := [some (.ref (o_ad X a0)), some (.int 1)]) hX h0 clX11_139 dX11_viaFirst_14 rfl rfl (Nat.le_of_ble_eq_true rfl) (Nat.le_of_ble_eq_true rfl) (dnX11_refuses hX h0 (o_bdp h)) (fun r4 μ5 h => ?_)
    exact s_ireturn rfl dX11_viaFirst_17 ⟨_, rfl, o_ret h⟩
theorem dX11_echo_0 : decode cX11_echo 0 = .ok (.aload_n 0, 1) := by decide +kernel
theorem dX11_echo_1 : decode cX11_echo 1 = .ok (.getfield 23, 3) := by decide +kernel
theorem dX11_echo_4 : decode cX11_echo 4 = .ok (.iload_n 1, 1) := by decide +kernel
theorem dX11_echo_5 : decode cX11_echo 5 = .ok (.iload_n 2, 1) := by decide +kernel
theorem dX11_echo_6 : decode cX11_echo 6 = .ok (.invokevirtual 262, 3) := by decide +kernel
theorem dX11_echo_9 : decode cX11_echo 9 = .ok (.ifCond .ne 9, 3) := by decide +kernel
theorem dX11_echo_12 : decode cX11_echo 12 = .ok (.aload_n 0, 1) := by decide +kernel
theorem dX11_echo_13 : decode cX11_echo 13 = .ok (.iconst 1, 1) := by decide +kernel
theorem dX11_echo_14 : decode cX11_echo 14 = .ok (.invokevirtual 139, 3) := by decide +kernel
theorem dX11_echo_17 : decode cX11_echo 17 = .ok (.ireturn, 1) := by decide +kernel
theorem dX11_echo_18 : decode cX11_echo 18 = .ok (.aload_n 0, 1) := by decide +kernel
theorem dX11_echo_19 : decode cX11_echo 19 = .ok (.getfield 87, 3) := by decide +kernel
theorem dX11_echo_22 : decode cX11_echo 22 = .ok (.aload_n 0, 1) := by decide +kernel
theorem dX11_echo_23 : decode cX11_echo 23 = .ok (.getfield 23, 3) := by decide +kernel
theorem dX11_echo_26 : decode cX11_echo 26 = .ok (.iload_n 1, 1) := by decide +kernel
theorem dX11_echo_27 : decode cX11_echo 27 = .ok (.iload_n 2, 1) := by decide +kernel
theorem dX11_echo_28 : decode cX11_echo 28 = .ok (.invokevirtual 361, 3) := by decide +kernel
theorem dX11_echo_31 : decode cX11_echo 31 = .ok (.aload_n 0, 1) := by decide +kernel
theorem dX11_echo_32 : decode cX11_echo 32 = .ok (.getfield 87, 3) := by decide +kernel
theorem dX11_echo_35 : decode cX11_echo 35 = .ok (.getfield 365, 3) := by decide +kernel
theorem dX11_echo_38 : decode cX11_echo 38 = .ok (.ifCond .le 12, 3) := by decide +kernel
theorem dX11_echo_41 : decode cX11_echo 41 = .ok (.aload_n 0, 1) := by decide +kernel
theorem dX11_echo_42 : decode cX11_echo 42 = .ok (.bipush 7, 2) := by decide +kernel
theorem dX11_echo_44 : decode cX11_echo 44 = .ok (.invokevirtual 139, 3) := by decide +kernel
theorem dX11_echo_47 : decode cX11_echo 47 = .ok (.goto 14, 3) := by decide +kernel
theorem dX11_echo_50 : decode cX11_echo 50 = .ok (.aload_n 0, 1) := by decide +kernel
theorem dX11_echo_51 : decode cX11_echo 51 = .ok (.aload_n 0, 1) := by decide +kernel
theorem dX11_echo_52 : decode cX11_echo 52 = .ok (.getfield 87, 3) := by decide +kernel
theorem dX11_echo_55 : decode cX11_echo 55 = .ok (.getfield 368, 3) := by decide +kernel
theorem dX11_echo_58 : decode cX11_echo 58 = .ok (.invokevirtual 187, 3) := by decide +kernel
theorem dX11_echo_61 : decode cX11_echo 61 = .ok (.ireturn, 1) := by decide +kernel
noncomputable def fX11_echo (rf : Nat → Nat → Nat) (a0 : Nat) (x1 : Int32) (x2 : Int32) (μ0 : o_Mem) : Option (Int32 × o_Mem) :=
  o_bd (fX8_isCouple rf (rf a0 4) x1 x2 μ0) fun r1 μ1 =>
  if r1 = 0 then (
    o_bd (fX11_refuses rf a0 1 μ1) fun r4 μ5 =>
    some (r4, μ5))
  else (
    o_bd (fX6_follow rf (rf a0 16) (rf a0 4) x1 x2 μ1) fun _u μ2 =>
    if (μ2.1 (rf a0 16) 2) ≤ 0 then (
      o_bd (fX11_gives rf a0 (μ2.1 (rf a0 16) 1) μ2) fun r2 μ3 =>
      some (r2, μ3))
    else (
      o_bd (fX11_refuses rf a0 7 μ2) fun r3 μ4 =>
      some (r3, μ4)))
set_option maxRecDepth 20000 in
theorem dnX11_echo {X : o_Cx} (hX : o_ok X) {d : Nat} {a0 : Nat} {x1 : Int32} {x2 : Int32} {μ0 : o_Mem} {q : Int32 → o_Mem → Prop} (h0 : o_is X a0 (.inl 11)) (h : o_Post (fX11_echo (o_rf X) a0 x1 x2 μ0) q) : o_Ev X (d + 6) mX11_echo 0 [some (.ref (o_ad X a0)), some (.int x1), some (.int x2)] [] μ0 (o_QI q) := by
  unfold fX11_echo at h
  refine s_aload_n (i := 0) dX11_echo_0 rfl rfl ?_
  refine s_getR hX h0 flX11_23 rfl dX11_echo_1 (fun (g1 : o_is X (o_rf X a0 4) (.inl 8)) => ?_)
  refine s_iload_n (i := 1) dX11_echo_4 rfl rfl ?_
  refine s_iload_n (i := 2) dX11_echo_5 rfl rfl ?_
  refine s_callVz (C := mX8_isCouple) (As := [.int x1, .int x2]) (rest := []) (L0 := [some (.ref (o_ad X (o_rf X a0 4))), some (.int x1), some (.int x2)]) hX g1 clX11_262 dX11_echo_6 rfl rfl (Nat.le_of_ble_eq_true rfl) (Nat.le_of_ble_eq_true rfl) (dnX8_isCouple hX g1 (o_bdp h)) (fun r1 μ1 zr1 h => ?_)
  refine s_if_ne (tgt := 18) dX11_echo_9 rfl (fun c1 => ?_) (fun c1 => ?_)
  · have h := o_if_f c1 h
    refine s_aload_n (i := 0) dX11_echo_18 rfl rfl ?_
    refine s_getR hX h0 flX11_87 rfl dX11_echo_19 (fun (g2 : o_is X (o_rf X a0 16) (.inl 6)) => ?_)
    refine s_aload_n (i := 0) dX11_echo_22 rfl rfl ?_
    refine s_getR hX h0 flX11_23 rfl dX11_echo_23 (fun (g3 : o_is X (o_rf X a0 4) (.inl 8)) => ?_)
    refine s_iload_n (i := 1) dX11_echo_26 rfl rfl ?_
    refine s_iload_n (i := 2) dX11_echo_27 rfl rfl ?_
    refine s_callVu (C := mX6_follow) (As := [.ref (o_ad X (o_rf X a0 4)), .int x1, .int x2]) (rest := []) (L0 := [some (.ref (o_ad X (o_rf X a0 16))), some (.ref (o_ad X (o_rf X a0 4))), some (.int x1), some (.int x2), none, none]) hX g2 clX11_361 dX11_echo_28 rfl rfl (Nat.le_of_ble_eq_true rfl) (Nat.le_of_ble_eq_true rfl) (dnX6_follow hX g2 g3 (o_bdp h)) (fun _u μ2 h => ?_)
    refine s_aload_n (i := 0) dX11_echo_31 rfl rfl ?_
    refine s_getR hX h0 flX11_87 rfl dX11_echo_32 (fun (g4 : o_is X (o_rf X a0 16) (.inl 6)) => ?_)
    refine s_getI g4 flX11_365 rfl dX11_echo_35 ?_
    refine s_if_le (tgt := 50) dX11_echo_38 rfl (fun c1 => ?_) (fun c1 => ?_)
    · have h := o_if_t c1 h
      refine s_aload_n (i := 0) dX11_echo_50 rfl rfl ?_
      refine s_aload_n (i := 0) dX11_echo_51 rfl rfl ?_
      refine s_getR hX h0 flX11_87 rfl dX11_echo_52 (fun (g5 : o_is X (o_rf X a0 16) (.inl 6)) => ?_)
      refine s_getI g5 flX11_368 rfl dX11_echo_55 ?_
      refine s_callVi (C := mX11_gives) (As := [.int (μ2.1 (o_rf X a0 16) 1)]) (rest := []) (L0 := [some (.ref (o_ad X a0)), some (.int (μ2.1 (o_rf X a0 16) 1))]) hX h0 clX11_187 dX11_echo_58 rfl rfl (Nat.le_of_ble_eq_true rfl) (Nat.le_of_ble_eq_true rfl) (dnX11_gives hX h0 (o_bdp h)) (fun r2 μ3 h => ?_)
      exact s_ireturn rfl dX11_echo_61 ⟨_, rfl, o_ret h⟩
    · have h := o_if_f c1 h
      refine s_aload_n (i := 0) dX11_echo_41 rfl rfl ?_
      refine s_bipush dX11_echo_42 kB_7 ?_
      refine s_callVi (C := mX11_refuses) (As := [.int 7]) (rest := []) (L0 := [some (.ref (o_ad X a0)), some (.int 7)]) hX h0 clX11_139 dX11_echo_44 rfl rfl (Nat.le_of_ble_eq_true rfl) (Nat.le_of_ble_eq_true rfl) (dnX11_refuses hX h0 (o_bdp h)) (fun r3 μ4 h => ?_)
      refine s_goto (tgt := 61) dX11_echo_47 rfl ?_
      exact s_ireturn rfl dX11_echo_61 ⟨_, rfl, o_ret h⟩
  · have h := o_if_t c1 h
    refine s_aload_n (i := 0) dX11_echo_12 rfl rfl ?_
    refine s_iconst dX11_echo_13 kI_1 ?_
    refine s_callVi (C := mX11_refuses) (As := [.int 1]) (rest := []) (L0 := [some (.ref (o_ad X a0)), some (.int 1)]) hX h0 clX11_139 dX11_echo_14 rfl rfl (Nat.le_of_ble_eq_true rfl) (Nat.le_of_ble_eq_true rfl) (dnX11_refuses hX h0 (o_bdp h)) (fun r4 μ5 h => ?_)
    exact s_ireturn rfl dX11_echo_17 ⟨_, rfl, o_ret h⟩
theorem dX11_round_0 : decode cX11_round 0 = .ok (.aload_n 0, 1) := by decide +kernel
theorem dX11_round_1 : decode cX11_round 1 = .ok (.getfield 23, 3) := by decide +kernel
theorem dX11_round_4 : decode cX11_round 4 = .ok (.iload_n 1, 1) := by decide +kernel
theorem dX11_round_5 : decode cX11_round 5 = .ok (.iload_n 2, 1) := by decide +kernel
theorem dX11_round_6 : decode cX11_round 6 = .ok (.invokevirtual 262, 3) := by decide +kernel
theorem dX11_round_9 : decode cX11_round 9 = .ok (.ifCond .ne 9, 3) := by decide +kernel
theorem dX11_round_12 : decode cX11_round 12 = .ok (.aload_n 0, 1) := by decide +kernel
theorem dX11_round_13 : decode cX11_round 13 = .ok (.iconst 1, 1) := by decide +kernel
theorem dX11_round_14 : decode cX11_round 14 = .ok (.invokevirtual 139, 3) := by decide +kernel
theorem dX11_round_17 : decode cX11_round 17 = .ok (.ireturn, 1) := by decide +kernel
theorem dX11_round_18 : decode cX11_round 18 = .ok (.aload_n 0, 1) := by decide +kernel
theorem dX11_round_19 : decode cX11_round 19 = .ok (.getfield 87, 3) := by decide +kernel
theorem dX11_round_22 : decode cX11_round 22 = .ok (.aload_n 0, 1) := by decide +kernel
theorem dX11_round_23 : decode cX11_round 23 = .ok (.getfield 23, 3) := by decide +kernel
theorem dX11_round_26 : decode cX11_round 26 = .ok (.iload_n 1, 1) := by decide +kernel
theorem dX11_round_27 : decode cX11_round 27 = .ok (.iload_n 2, 1) := by decide +kernel
theorem dX11_round_28 : decode cX11_round 28 = .ok (.invokevirtual 361, 3) := by decide +kernel
theorem dX11_round_31 : decode cX11_round 31 = .ok (.aload_n 0, 1) := by decide +kernel
theorem dX11_round_32 : decode cX11_round 32 = .ok (.getfield 87, 3) := by decide +kernel
theorem dX11_round_35 : decode cX11_round 35 = .ok (.getfield 365, 3) := by decide +kernel
theorem dX11_round_38 : decode cX11_round 38 = .ok (.ifCond .le 17, 3) := by decide +kernel
theorem dX11_round_41 : decode cX11_round 41 = .ok (.aload_n 0, 1) := by decide +kernel
theorem dX11_round_42 : decode cX11_round 42 = .ok (.aload_n 0, 1) := by decide +kernel
theorem dX11_round_43 : decode cX11_round 43 = .ok (.getfield 87, 3) := by decide +kernel
theorem dX11_round_46 : decode cX11_round 46 = .ok (.getfield 365, 3) := by decide +kernel
theorem dX11_round_49 : decode cX11_round 49 = .ok (.invokevirtual 187, 3) := by decide +kernel
theorem dX11_round_52 : decode cX11_round 52 = .ok (.goto 9, 3) := by decide +kernel
theorem dX11_round_55 : decode cX11_round 55 = .ok (.aload_n 0, 1) := by decide +kernel
theorem dX11_round_56 : decode cX11_round 56 = .ok (.bipush 6, 2) := by decide +kernel
theorem dX11_round_58 : decode cX11_round 58 = .ok (.invokevirtual 139, 3) := by decide +kernel
theorem dX11_round_61 : decode cX11_round 61 = .ok (.ireturn, 1) := by decide +kernel
noncomputable def fX11_round (rf : Nat → Nat → Nat) (a0 : Nat) (x1 : Int32) (x2 : Int32) (μ0 : o_Mem) : Option (Int32 × o_Mem) :=
  o_bd (fX8_isCouple rf (rf a0 4) x1 x2 μ0) fun r1 μ1 =>
  if r1 = 0 then (
    o_bd (fX11_refuses rf a0 1 μ1) fun r4 μ5 =>
    some (r4, μ5))
  else (
    o_bd (fX6_follow rf (rf a0 16) (rf a0 4) x1 x2 μ1) fun _u μ2 =>
    if (μ2.1 (rf a0 16) 2) ≤ 0 then (
      o_bd (fX11_refuses rf a0 6 μ2) fun r2 μ3 =>
      some (r2, μ3))
    else (
      o_bd (fX11_gives rf a0 (μ2.1 (rf a0 16) 2) μ2) fun r3 μ4 =>
      some (r3, μ4)))
set_option maxRecDepth 20000 in
theorem dnX11_round {X : o_Cx} (hX : o_ok X) {d : Nat} {a0 : Nat} {x1 : Int32} {x2 : Int32} {μ0 : o_Mem} {q : Int32 → o_Mem → Prop} (h0 : o_is X a0 (.inl 11)) (h : o_Post (fX11_round (o_rf X) a0 x1 x2 μ0) q) : o_Ev X (d + 6) mX11_round 0 [some (.ref (o_ad X a0)), some (.int x1), some (.int x2)] [] μ0 (o_QI q) := by
  unfold fX11_round at h
  refine s_aload_n (i := 0) dX11_round_0 rfl rfl ?_
  refine s_getR hX h0 flX11_23 rfl dX11_round_1 (fun (g1 : o_is X (o_rf X a0 4) (.inl 8)) => ?_)
  refine s_iload_n (i := 1) dX11_round_4 rfl rfl ?_
  refine s_iload_n (i := 2) dX11_round_5 rfl rfl ?_
  refine s_callVz (C := mX8_isCouple) (As := [.int x1, .int x2]) (rest := []) (L0 := [some (.ref (o_ad X (o_rf X a0 4))), some (.int x1), some (.int x2)]) hX g1 clX11_262 dX11_round_6 rfl rfl (Nat.le_of_ble_eq_true rfl) (Nat.le_of_ble_eq_true rfl) (dnX8_isCouple hX g1 (o_bdp h)) (fun r1 μ1 zr1 h => ?_)
  refine s_if_ne (tgt := 18) dX11_round_9 rfl (fun c1 => ?_) (fun c1 => ?_)
  · have h := o_if_f c1 h
    refine s_aload_n (i := 0) dX11_round_18 rfl rfl ?_
    refine s_getR hX h0 flX11_87 rfl dX11_round_19 (fun (g2 : o_is X (o_rf X a0 16) (.inl 6)) => ?_)
    refine s_aload_n (i := 0) dX11_round_22 rfl rfl ?_
    refine s_getR hX h0 flX11_23 rfl dX11_round_23 (fun (g3 : o_is X (o_rf X a0 4) (.inl 8)) => ?_)
    refine s_iload_n (i := 1) dX11_round_26 rfl rfl ?_
    refine s_iload_n (i := 2) dX11_round_27 rfl rfl ?_
    refine s_callVu (C := mX6_follow) (As := [.ref (o_ad X (o_rf X a0 4)), .int x1, .int x2]) (rest := []) (L0 := [some (.ref (o_ad X (o_rf X a0 16))), some (.ref (o_ad X (o_rf X a0 4))), some (.int x1), some (.int x2), none, none]) hX g2 clX11_361 dX11_round_28 rfl rfl (Nat.le_of_ble_eq_true rfl) (Nat.le_of_ble_eq_true rfl) (dnX6_follow hX g2 g3 (o_bdp h)) (fun _u μ2 h => ?_)
    refine s_aload_n (i := 0) dX11_round_31 rfl rfl ?_
    refine s_getR hX h0 flX11_87 rfl dX11_round_32 (fun (g4 : o_is X (o_rf X a0 16) (.inl 6)) => ?_)
    refine s_getI g4 flX11_365 rfl dX11_round_35 ?_
    refine s_if_le (tgt := 55) dX11_round_38 rfl (fun c1 => ?_) (fun c1 => ?_)
    · have h := o_if_t c1 h
      refine s_aload_n (i := 0) dX11_round_55 rfl rfl ?_
      refine s_bipush dX11_round_56 kB_6 ?_
      refine s_callVi (C := mX11_refuses) (As := [.int 6]) (rest := []) (L0 := [some (.ref (o_ad X a0)), some (.int 6)]) hX h0 clX11_139 dX11_round_58 rfl rfl (Nat.le_of_ble_eq_true rfl) (Nat.le_of_ble_eq_true rfl) (dnX11_refuses hX h0 (o_bdp h)) (fun r2 μ3 h => ?_)
      exact s_ireturn rfl dX11_round_61 ⟨_, rfl, o_ret h⟩
    · have h := o_if_f c1 h
      refine s_aload_n (i := 0) dX11_round_41 rfl rfl ?_
      refine s_aload_n (i := 0) dX11_round_42 rfl rfl ?_
      refine s_getR hX h0 flX11_87 rfl dX11_round_43 (fun (g5 : o_is X (o_rf X a0 16) (.inl 6)) => ?_)
      refine s_getI g5 flX11_365 rfl dX11_round_46 ?_
      refine s_callVi (C := mX11_gives) (As := [.int (μ2.1 (o_rf X a0 16) 2)]) (rest := []) (L0 := [some (.ref (o_ad X a0)), some (.int (μ2.1 (o_rf X a0 16) 2))]) hX h0 clX11_187 dX11_round_49 rfl rfl (Nat.le_of_ble_eq_true rfl) (Nat.le_of_ble_eq_true rfl) (dnX11_gives hX h0 (o_bdp h)) (fun r3 μ4 h => ?_)
      refine s_goto (tgt := 61) dX11_round_52 rfl ?_
      exact s_ireturn rfl dX11_round_61 ⟨_, rfl, o_ret h⟩
  · have h := o_if_t c1 h
    refine s_aload_n (i := 0) dX11_round_12 rfl rfl ?_
    refine s_iconst dX11_round_13 kI_1 ?_
    refine s_callVi (C := mX11_refuses) (As := [.int 1]) (rest := []) (L0 := [some (.ref (o_ad X a0)), some (.int 1)]) hX h0 clX11_139 dX11_round_14 rfl rfl (Nat.le_of_ble_eq_true rfl) (Nat.le_of_ble_eq_true rfl) (dnX11_refuses hX h0 (o_bdp h)) (fun r4 μ5 h => ?_)
    exact s_ireturn rfl dX11_round_17 ⟨_, rfl, o_ret h⟩
theorem dX11_rings_0 : decode cX11_rings 0 = .ok (.iconst 0, 1) := by decide +kernel
theorem dX11_rings_1 : decode cX11_rings 1 = .ok (.istore_n 1, 1) := by decide +kernel
theorem dX11_rings_2 : decode cX11_rings 2 = .ok (.iconst 0, 1) := by decide +kernel
theorem dX11_rings_3 : decode cX11_rings 3 = .ok (.istore_n 2, 1) := by decide +kernel
theorem dX11_rings_4 : decode cX11_rings 4 = .ok (.iload_n 2, 1) := by decide +kernel
theorem dX11_rings_5 : decode cX11_rings 5 = .ok (.aload_n 0, 1) := by decide +kernel
theorem dX11_rings_6 : decode cX11_rings 6 = .ok (.getfield 23, 3) := by decide +kernel
theorem dX11_rings_9 : decode cX11_rings 9 = .ok (.getfield 209, 3) := by decide +kernel
theorem dX11_rings_12 : decode cX11_rings 12 = .ok (.if_icmp .ge 64, 3) := by decide +kernel
theorem dX11_rings_15 : decode cX11_rings 15 = .ok (.iconst 0, 1) := by decide +kernel
theorem dX11_rings_16 : decode cX11_rings 16 = .ok (.istore_n 3, 1) := by decide +kernel
theorem dX11_rings_17 : decode cX11_rings 17 = .ok (.iload_n 3, 1) := by decide +kernel
theorem dX11_rings_18 : decode cX11_rings 18 = .ok (.aload_n 0, 1) := by decide +kernel
theorem dX11_rings_19 : decode cX11_rings 19 = .ok (.getfield 23, 3) := by decide +kernel
theorem dX11_rings_22 : decode cX11_rings 22 = .ok (.getfield 203, 3) := by decide +kernel
theorem dX11_rings_25 : decode cX11_rings 25 = .ok (.if_icmp .ge 45, 3) := by decide +kernel
theorem dX11_rings_28 : decode cX11_rings 28 = .ok (.aload_n 0, 1) := by decide +kernel
theorem dX11_rings_29 : decode cX11_rings 29 = .ok (.getfield 87, 3) := by decide +kernel
theorem dX11_rings_32 : decode cX11_rings 32 = .ok (.aload_n 0, 1) := by decide +kernel
theorem dX11_rings_33 : decode cX11_rings 33 = .ok (.getfield 23, 3) := by decide +kernel
theorem dX11_rings_36 : decode cX11_rings 36 = .ok (.iload_n 2, 1) := by decide +kernel
theorem dX11_rings_37 : decode cX11_rings 37 = .ok (.iload_n 3, 1) := by decide +kernel
theorem dX11_rings_38 : decode cX11_rings 38 = .ok (.invokevirtual 361, 3) := by decide +kernel
theorem dX11_rings_41 : decode cX11_rings 41 = .ok (.aload_n 0, 1) := by decide +kernel
theorem dX11_rings_42 : decode cX11_rings 42 = .ok (.getfield 87, 3) := by decide +kernel
theorem dX11_rings_45 : decode cX11_rings 45 = .ok (.getfield 365, 3) := by decide +kernel
theorem dX11_rings_48 : decode cX11_rings 48 = .ok (.ifCond .le 16, 3) := by decide +kernel
theorem dX11_rings_51 : decode cX11_rings 51 = .ok (.aload_n 0, 1) := by decide +kernel
theorem dX11_rings_52 : decode cX11_rings 52 = .ok (.getfield 87, 3) := by decide +kernel
theorem dX11_rings_55 : decode cX11_rings 55 = .ok (.getfield 371, 3) := by decide +kernel
theorem dX11_rings_58 : decode cX11_rings 58 = .ok (.ifCond .ne 6, 3) := by decide +kernel
theorem dX11_rings_61 : decode cX11_rings 61 = .ok (.iinc 1 1, 3) := by decide +kernel
theorem dX11_rings_64 : decode cX11_rings 64 = .ok (.iinc 3 1, 3) := by decide +kernel
theorem dX11_rings_67 : decode cX11_rings 67 = .ok (.goto (-50), 3) := by decide +kernel
theorem dX11_rings_70 : decode cX11_rings 70 = .ok (.iinc 2 1, 3) := by decide +kernel
theorem dX11_rings_73 : decode cX11_rings 73 = .ok (.goto (-69), 3) := by decide +kernel
theorem dX11_rings_76 : decode cX11_rings 76 = .ok (.aload_n 0, 1) := by decide +kernel
theorem dX11_rings_77 : decode cX11_rings 77 = .ok (.iload_n 1, 1) := by decide +kernel
theorem dX11_rings_78 : decode cX11_rings 78 = .ok (.invokevirtual 187, 3) := by decide +kernel
theorem dX11_rings_81 : decode cX11_rings 81 = .ok (.ireturn, 1) := by decide +kernel
noncomputable def fX11_rings_s17 (rf : Nat → Nat → Nat) (a0 : Nat) (x2 : Int32) (τ17 : Int32 × Int32) (μ0 : o_Mem) : Option ((Nat × (Int32 × Int32)) × o_Mem) :=
  if (μ0.1 (rf a0 4) 0) ≤ τ17.2 then (
    some ((70, (τ17.1, 0)), μ0))
  else (
    o_bd (fX6_follow rf (rf a0 16) (rf a0 4) x2 τ17.2 μ0) fun _u μ1 =>
    if (μ1.1 (rf a0 16) 2) ≤ 0 then (
      some ((17, (τ17.1, (τ17.2 + 1))), μ1))
    else (
      if (μ1.1 (rf a0 16) 3) = 0 then (
        some ((17, ((τ17.1 + 1), (τ17.2 + 1))), μ1))
      else (
        some ((17, (τ17.1, (τ17.2 + 1))), μ1))))
noncomputable def fX11_rings_s4 (rf : Nat → Nat → Nat) (a0 : Nat) (τ4 : Int32 × Int32) (μ0 : o_Mem) : Option ((Nat × (Int32 × Int32)) × o_Mem) :=
  if (μ0.1 (rf a0 4) 2) ≤ τ4.2 then (
    some ((76, (τ4.1, 0)), μ0))
  else (
    o_bd (o_lp 17 (fX11_rings_s17 rf a0 τ4.2) o_fuel (τ4.1, 0) μ0) fun ex1 μ1 =>
    if ex1.1 = 70 then (
      some ((4, (ex1.2.1, (τ4.2 + 1))), μ1))
    else
      none)
noncomputable def fX11_rings (rf : Nat → Nat → Nat) (a0 : Nat) (μ0 : o_Mem) : Option (Int32 × o_Mem) :=
  o_bd (o_lp 4 (fX11_rings_s4 rf a0) o_fuel (0, 0) μ0) fun ex1 μ1 =>
  if ex1.1 = 76 then (
    o_bd (fX11_gives rf a0 ex1.2.1 μ1) fun r1 μ2 =>
    some (r1, μ2))
  else
    none
set_option maxRecDepth 20000 in
theorem dnX11_rings_s17 {X : o_Cx} (hX : o_ok X) {d : Nat} {a0 : Nat} {x2 : Int32} {τ17 : Int32 × Int32} {μ0 : o_Mem} {K : (Nat × (Int32 × Int32)) → o_Mem → Prop} {Q : Option Value → o_Mem → Prop} (h0 : o_is X a0 (.inl 11)) (h : o_Post (fX11_rings_s17 (o_rf X) a0 x2 τ17 μ0) K) (kh : ∀ (τ17 : Int32 × Int32) (μ : o_Mem), K (17, τ17) μ → o_Ev X (d + 6) mX11_rings 17 [some (.ref (o_ad X a0)), some (.int τ17.1), some (.int x2), some (.int τ17.2)] [] μ Q) (k70 : ∀ (τ17 : Int32 × Int32) (μ : o_Mem), K (70, τ17) μ → o_Ev X (d + 6) mX11_rings 70 [some (.ref (o_ad X a0)), some (.int τ17.1), some (.int x2), none] [] μ Q) : o_Ev X (d + 6) mX11_rings 17 [some (.ref (o_ad X a0)), some (.int τ17.1), some (.int x2), some (.int τ17.2)] [] μ0 Q := by
  unfold fX11_rings_s17 at h
  refine s_iload_n (i := 3) dX11_rings_17 rfl rfl ?_
  refine s_aload_n (i := 0) dX11_rings_18 rfl rfl ?_
  refine s_getR hX h0 flX11_23 rfl dX11_rings_19 (fun (g1 : o_is X (o_rf X a0 4) (.inl 8)) => ?_)
  refine s_getI g1 flX11_203 rfl dX11_rings_22 ?_
  refine s_icmp_ge (tgt := 70) dX11_rings_25 rfl (fun c1 => ?_) (fun c1 => ?_)
  · have h := o_if_t c1 h
    refine s_mask [true, true, true, false] (L' := [some (.ref (o_ad X a0)), some (.int τ17.1), some (.int x2), none]) rfl ?_
    exact k70 (τ17.1, 0) _ (o_ret h)
  · have h := o_if_f c1 h
    refine s_aload_n (i := 0) dX11_rings_28 rfl rfl ?_
    refine s_getR hX h0 flX11_87 rfl dX11_rings_29 (fun (g2 : o_is X (o_rf X a0 16) (.inl 6)) => ?_)
    refine s_aload_n (i := 0) dX11_rings_32 rfl rfl ?_
    refine s_getR hX h0 flX11_23 rfl dX11_rings_33 (fun (g3 : o_is X (o_rf X a0 4) (.inl 8)) => ?_)
    refine s_iload_n (i := 2) dX11_rings_36 rfl rfl ?_
    refine s_iload_n (i := 3) dX11_rings_37 rfl rfl ?_
    refine s_callVu (C := mX6_follow) (As := [.ref (o_ad X (o_rf X a0 4)), .int x2, .int τ17.2]) (rest := []) (L0 := [some (.ref (o_ad X (o_rf X a0 16))), some (.ref (o_ad X (o_rf X a0 4))), some (.int x2), some (.int τ17.2), none, none]) hX g2 clX11_361 dX11_rings_38 rfl rfl (Nat.le_of_ble_eq_true rfl) (Nat.le_of_ble_eq_true rfl) (dnX6_follow hX g2 g3 (o_bdp h)) (fun _u μ1 h => ?_)
    refine s_aload_n (i := 0) dX11_rings_41 rfl rfl ?_
    refine s_getR hX h0 flX11_87 rfl dX11_rings_42 (fun (g4 : o_is X (o_rf X a0 16) (.inl 6)) => ?_)
    refine s_getI g4 flX11_365 rfl dX11_rings_45 ?_
    refine s_if_le (tgt := 64) dX11_rings_48 rfl (fun c1 => ?_) (fun c1 => ?_)
    · have h := o_if_t c1 h
      refine s_iinc (v := (τ17.2 + 1)) dX11_rings_64 rfl rfl (Nat.le_of_ble_eq_true rfl) rfl ?_
      refine s_goto (tgt := 17) dX11_rings_67 rfl ?_
      refine s_mask [true, true, true, true] (L' := [some (.ref (o_ad X a0)), some (.int τ17.1), some (.int x2), some (.int (τ17.2 + 1))]) rfl ?_
      exact kh (τ17.1, (τ17.2 + 1)) _ (o_ret h)
    · have h := o_if_f c1 h
      refine s_aload_n (i := 0) dX11_rings_51 rfl rfl ?_
      refine s_getR hX h0 flX11_87 rfl dX11_rings_52 (fun (g5 : o_is X (o_rf X a0 16) (.inl 6)) => ?_)
      refine s_getI g5 flX11_371 rfl dX11_rings_55 ?_
      refine s_if_ne (tgt := 64) dX11_rings_58 rfl (fun c1 => ?_) (fun c1 => ?_)
      · have h := o_if_f c1 h
        refine s_iinc (v := (τ17.2 + 1)) dX11_rings_64 rfl rfl (Nat.le_of_ble_eq_true rfl) rfl ?_
        refine s_goto (tgt := 17) dX11_rings_67 rfl ?_
        refine s_mask [true, true, true, true] (L' := [some (.ref (o_ad X a0)), some (.int τ17.1), some (.int x2), some (.int (τ17.2 + 1))]) rfl ?_
        exact kh (τ17.1, (τ17.2 + 1)) _ (o_ret h)
      · have h := o_if_t c1 h
        refine s_iinc (v := (τ17.1 + 1)) dX11_rings_61 rfl rfl (Nat.le_of_ble_eq_true rfl) rfl ?_
        refine s_iinc (v := (τ17.2 + 1)) dX11_rings_64 rfl rfl (Nat.le_of_ble_eq_true rfl) rfl ?_
        refine s_goto (tgt := 17) dX11_rings_67 rfl ?_
        refine s_mask [true, true, true, true] (L' := [some (.ref (o_ad X a0)), some (.int (τ17.1 + 1)), some (.int x2), some (.int (τ17.2 + 1))]) rfl ?_
        exact kh ((τ17.1 + 1), (τ17.2 + 1)) _ (o_ret h)
set_option maxRecDepth 20000 in
theorem dnX11_rings_s4 {X : o_Cx} (hX : o_ok X) {d : Nat} {a0 : Nat} {τ4 : Int32 × Int32} {μ0 : o_Mem} {K : (Nat × (Int32 × Int32)) → o_Mem → Prop} {Q : Option Value → o_Mem → Prop} (h0 : o_is X a0 (.inl 11)) (h : o_Post (fX11_rings_s4 (o_rf X) a0 τ4 μ0) K) (kh : ∀ (τ4 : Int32 × Int32) (μ : o_Mem), K (4, τ4) μ → o_Ev X (d + 6) mX11_rings 4 [some (.ref (o_ad X a0)), some (.int τ4.1), some (.int τ4.2), none] [] μ Q) (k76 : ∀ (τ4 : Int32 × Int32) (μ : o_Mem), K (76, τ4) μ → o_Ev X (d + 6) mX11_rings 76 [some (.ref (o_ad X a0)), some (.int τ4.1), none, none] [] μ Q) : o_Ev X (d + 6) mX11_rings 4 [some (.ref (o_ad X a0)), some (.int τ4.1), some (.int τ4.2), none] [] μ0 Q := by
  unfold fX11_rings_s4 at h
  refine s_iload_n (i := 2) dX11_rings_4 rfl rfl ?_
  refine s_aload_n (i := 0) dX11_rings_5 rfl rfl ?_
  refine s_getR hX h0 flX11_23 rfl dX11_rings_6 (fun (g1 : o_is X (o_rf X a0 4) (.inl 8)) => ?_)
  refine s_getI g1 flX11_209 rfl dX11_rings_9 ?_
  refine s_icmp_ge (tgt := 76) dX11_rings_12 rfl (fun c1 => ?_) (fun c1 => ?_)
  · have h := o_if_t c1 h
    refine s_mask [true, true, false, false] (L' := [some (.ref (o_ad X a0)), some (.int τ4.1), none, none]) rfl ?_
    exact k76 (τ4.1, 0) _ (o_ret h)
  · have h := o_if_f c1 h
    refine s_iconst dX11_rings_15 kI_0 ?_
    refine s_istore_n (i := 3) dX11_rings_16 rfl (Nat.le_of_ble_eq_true rfl) rfl ?_
    refine s_mask [true, true, true, true] (L' := [some (.ref (o_ad X a0)), some (.int τ4.1), some (.int τ4.2), some (.int 0)]) rfl ?_
    refine o_lp_ev (fun τ17 => [some (.ref (o_ad X a0)), some (.int τ17.1), some (.int τ4.2), some (.int τ17.2)]) (fun τ17 μ _K h kv ke17 => dnX11_rings_s17 hX h0 h kv (fun τ17 μ1 h => ?_)) o_fuel (τ4.1, 0) μ0 (o_bdp h)
    · have h := o_if_t rfl (ke17 (70, τ17) μ1 (o_ne rfl) h)
      refine s_iinc (v := (τ4.2 + 1)) dX11_rings_70 rfl rfl (Nat.le_of_ble_eq_true rfl) rfl ?_
      refine s_goto (tgt := 4) dX11_rings_73 rfl ?_
      refine s_mask [true, true, true, false] (L' := [some (.ref (o_ad X a0)), some (.int τ17.1), some (.int (τ4.2 + 1)), none]) rfl ?_
      exact kh (τ17.1, (τ4.2 + 1)) _ (o_ret h)
set_option maxRecDepth 20000 in
theorem dnX11_rings {X : o_Cx} (hX : o_ok X) {d : Nat} {a0 : Nat} {μ0 : o_Mem} {q : Int32 → o_Mem → Prop} (h0 : o_is X a0 (.inl 11)) (h : o_Post (fX11_rings (o_rf X) a0 μ0) q) : o_Ev X (d + 6) mX11_rings 0 [some (.ref (o_ad X a0)), none, none, none] [] μ0 (o_QI q) := by
  unfold fX11_rings at h
  refine s_iconst dX11_rings_0 kI_0 ?_
  refine s_istore_n (i := 1) dX11_rings_1 rfl (Nat.le_of_ble_eq_true rfl) rfl ?_
  refine s_iconst dX11_rings_2 kI_0 ?_
  refine s_istore_n (i := 2) dX11_rings_3 rfl (Nat.le_of_ble_eq_true rfl) rfl ?_
  refine s_mask [true, true, true, false] (L' := [some (.ref (o_ad X a0)), some (.int 0), some (.int 0), none]) rfl ?_
  refine o_lp_ev (fun τ4 => [some (.ref (o_ad X a0)), some (.int τ4.1), some (.int τ4.2), none]) (fun τ4 μ _K h kv ke4 => dnX11_rings_s4 hX h0 h kv (fun τ4 μ1 h => ?_)) o_fuel (0, 0) μ0 (o_bdp h)
  · have h := o_if_t rfl (ke4 (76, τ4) μ1 (o_ne rfl) h)
    refine s_aload_n (i := 0) dX11_rings_76 rfl rfl ?_
    refine s_iload_n (i := 1) dX11_rings_77 rfl rfl ?_
    refine s_callVi (C := mX11_gives) (As := [.int τ4.1]) (rest := []) (L0 := [some (.ref (o_ad X a0)), some (.int τ4.1)]) hX h0 clX11_187 dX11_rings_78 rfl rfl (Nat.le_of_ble_eq_true rfl) (Nat.le_of_ble_eq_true rfl) (dnX11_gives hX h0 (o_bdp h)) (fun r1 μ2 h => ?_)
    exact s_ireturn rfl dX11_rings_81 ⟨_, rfl, o_ret h⟩
theorem dX11_longest_0 : decode cX11_longest 0 = .ok (.iconst (-1), 1) := by decide +kernel
theorem dX11_longest_1 : decode cX11_longest 1 = .ok (.istore_n 1, 1) := by decide +kernel
theorem dX11_longest_2 : decode cX11_longest 2 = .ok (.iconst (-1), 1) := by decide +kernel
theorem dX11_longest_3 : decode cX11_longest 3 = .ok (.istore_n 2, 1) := by decide +kernel
theorem dX11_longest_4 : decode cX11_longest 4 = .ok (.iconst 0, 1) := by decide +kernel
theorem dX11_longest_5 : decode cX11_longest 5 = .ok (.istore_n 3, 1) := by decide +kernel
theorem dX11_longest_6 : decode cX11_longest 6 = .ok (.iload_n 3, 1) := by decide +kernel
theorem dX11_longest_7 : decode cX11_longest 7 = .ok (.aload_n 0, 1) := by decide +kernel
theorem dX11_longest_8 : decode cX11_longest 8 = .ok (.getfield 23, 3) := by decide +kernel
theorem dX11_longest_11 : decode cX11_longest 11 = .ok (.getfield 209, 3) := by decide +kernel
theorem dX11_longest_14 : decode cX11_longest 14 = .ok (.if_icmp .ge 81, 3) := by decide +kernel
theorem dX11_longest_17 : decode cX11_longest 17 = .ok (.iconst 0, 1) := by decide +kernel
theorem dX11_longest_18 : decode cX11_longest 18 = .ok (.istore 4, 2) := by decide +kernel
theorem dX11_longest_20 : decode cX11_longest 20 = .ok (.iload 4, 2) := by decide +kernel
theorem dX11_longest_22 : decode cX11_longest 22 = .ok (.aload_n 0, 1) := by decide +kernel
theorem dX11_longest_23 : decode cX11_longest 23 = .ok (.getfield 23, 3) := by decide +kernel
theorem dX11_longest_26 : decode cX11_longest 26 = .ok (.getfield 203, 3) := by decide +kernel
theorem dX11_longest_29 : decode cX11_longest 29 = .ok (.if_icmp .ge 60, 3) := by decide +kernel
theorem dX11_longest_32 : decode cX11_longest 32 = .ok (.aload_n 0, 1) := by decide +kernel
theorem dX11_longest_33 : decode cX11_longest 33 = .ok (.getfield 87, 3) := by decide +kernel
theorem dX11_longest_36 : decode cX11_longest 36 = .ok (.aload_n 0, 1) := by decide +kernel
theorem dX11_longest_37 : decode cX11_longest 37 = .ok (.getfield 23, 3) := by decide +kernel
theorem dX11_longest_40 : decode cX11_longest 40 = .ok (.iload_n 3, 1) := by decide +kernel
theorem dX11_longest_41 : decode cX11_longest 41 = .ok (.iload 4, 2) := by decide +kernel
theorem dX11_longest_43 : decode cX11_longest 43 = .ok (.invokevirtual 361, 3) := by decide +kernel
theorem dX11_longest_46 : decode cX11_longest 46 = .ok (.aload_n 0, 1) := by decide +kernel
theorem dX11_longest_47 : decode cX11_longest 47 = .ok (.getfield 87, 3) := by decide +kernel
theorem dX11_longest_50 : decode cX11_longest 50 = .ok (.getfield 365, 3) := by decide +kernel
theorem dX11_longest_53 : decode cX11_longest 53 = .ok (.ifCond .ne 30, 3) := by decide +kernel
theorem dX11_longest_56 : decode cX11_longest 56 = .ok (.aload_n 0, 1) := by decide +kernel
theorem dX11_longest_57 : decode cX11_longest 57 = .ok (.getfield 87, 3) := by decide +kernel
theorem dX11_longest_60 : decode cX11_longest 60 = .ok (.getfield 368, 3) := by decide +kernel
theorem dX11_longest_63 : decode cX11_longest 63 = .ok (.iload_n 1, 1) := by decide +kernel
theorem dX11_longest_64 : decode cX11_longest 64 = .ok (.if_icmp .le 19, 3) := by decide +kernel
theorem dX11_longest_67 : decode cX11_longest 67 = .ok (.aload_n 0, 1) := by decide +kernel
theorem dX11_longest_68 : decode cX11_longest 68 = .ok (.getfield 87, 3) := by decide +kernel
theorem dX11_longest_71 : decode cX11_longest 71 = .ok (.getfield 368, 3) := by decide +kernel
theorem dX11_longest_74 : decode cX11_longest 74 = .ok (.istore_n 1, 1) := by decide +kernel
theorem dX11_longest_75 : decode cX11_longest 75 = .ok (.bipush 10, 2) := by decide +kernel
theorem dX11_longest_77 : decode cX11_longest 77 = .ok (.iload_n 3, 1) := by decide +kernel
theorem dX11_longest_78 : decode cX11_longest 78 = .ok (.imul, 1) := by decide +kernel
theorem dX11_longest_79 : decode cX11_longest 79 = .ok (.iload 4, 2) := by decide +kernel
theorem dX11_longest_81 : decode cX11_longest 81 = .ok (.iadd, 1) := by decide +kernel
theorem dX11_longest_82 : decode cX11_longest 82 = .ok (.istore_n 2, 1) := by decide +kernel
theorem dX11_longest_83 : decode cX11_longest 83 = .ok (.iinc 4 1, 3) := by decide +kernel
theorem dX11_longest_86 : decode cX11_longest 86 = .ok (.goto (-66), 3) := by decide +kernel
theorem dX11_longest_89 : decode cX11_longest 89 = .ok (.iinc 3 1, 3) := by decide +kernel
theorem dX11_longest_92 : decode cX11_longest 92 = .ok (.goto (-86), 3) := by decide +kernel
theorem dX11_longest_95 : decode cX11_longest 95 = .ok (.aload_n 0, 1) := by decide +kernel
theorem dX11_longest_96 : decode cX11_longest 96 = .ok (.iload_n 2, 1) := by decide +kernel
theorem dX11_longest_97 : decode cX11_longest 97 = .ok (.invokevirtual 259, 3) := by decide +kernel
theorem dX11_longest_100 : decode cX11_longest 100 = .ok (.ireturn, 1) := by decide +kernel
noncomputable def fX11_longest_s20 (rf : Nat → Nat → Nat) (a0 : Nat) (x3 : Int32) (τ20 : Int32 × Int32 × Int32) (μ0 : o_Mem) : Option ((Nat × (Int32 × Int32 × Int32)) × o_Mem) :=
  if (μ0.1 (rf a0 4) 0) ≤ τ20.2.2 then (
    some ((89, (τ20.1, τ20.2.1, 0)), μ0))
  else (
    o_bd (fX6_follow rf (rf a0 16) (rf a0 4) x3 τ20.2.2 μ0) fun _u μ1 =>
    if (μ1.1 (rf a0 16) 2) = 0 then (
      if (μ1.1 (rf a0 16) 1) ≤ τ20.1 then (
        some ((20, (τ20.1, τ20.2.1, (τ20.2.2 + 1))), μ1))
      else (
        some ((20, ((μ1.1 (rf a0 16) 1), ((10 * x3) + τ20.2.2), (τ20.2.2 + 1))), μ1)))
    else (
      some ((20, (τ20.1, τ20.2.1, (τ20.2.2 + 1))), μ1)))
noncomputable def fX11_longest_s6 (rf : Nat → Nat → Nat) (a0 : Nat) (τ6 : Int32 × Int32 × Int32) (μ0 : o_Mem) : Option ((Nat × (Int32 × Int32 × Int32)) × o_Mem) :=
  if (μ0.1 (rf a0 4) 2) ≤ τ6.2.2 then (
    some ((95, (0, τ6.2.1, 0)), μ0))
  else (
    o_bd (o_lp 20 (fX11_longest_s20 rf a0 τ6.2.2) o_fuel (τ6.1, τ6.2.1, 0) μ0) fun ex1 μ1 =>
    if ex1.1 = 89 then (
      some ((6, (ex1.2.1, ex1.2.2.1, (τ6.2.2 + 1))), μ1))
    else
      none)
noncomputable def fX11_longest (rf : Nat → Nat → Nat) (a0 : Nat) (μ0 : o_Mem) : Option (Int32 × o_Mem) :=
  o_bd (o_lp 6 (fX11_longest_s6 rf a0) o_fuel ((-1), (-1), 0) μ0) fun ex1 μ1 =>
  if ex1.1 = 95 then (
    o_bd (fX11_givesIfAny rf a0 ex1.2.2.1 μ1) fun r1 μ2 =>
    some (r1, μ2))
  else
    none
set_option maxRecDepth 20000 in
theorem dnX11_longest_s20 {X : o_Cx} (hX : o_ok X) {d : Nat} {a0 : Nat} {x3 : Int32} {τ20 : Int32 × Int32 × Int32} {μ0 : o_Mem} {K : (Nat × (Int32 × Int32 × Int32)) → o_Mem → Prop} {Q : Option Value → o_Mem → Prop} (h0 : o_is X a0 (.inl 11)) (h : o_Post (fX11_longest_s20 (o_rf X) a0 x3 τ20 μ0) K) (kh : ∀ (τ20 : Int32 × Int32 × Int32) (μ : o_Mem), K (20, τ20) μ → o_Ev X (d + 6) mX11_longest 20 [some (.ref (o_ad X a0)), some (.int τ20.1), some (.int τ20.2.1), some (.int x3), some (.int τ20.2.2)] [] μ Q) (k89 : ∀ (τ20 : Int32 × Int32 × Int32) (μ : o_Mem), K (89, τ20) μ → o_Ev X (d + 6) mX11_longest 89 [some (.ref (o_ad X a0)), some (.int τ20.1), some (.int τ20.2.1), some (.int x3), none] [] μ Q) : o_Ev X (d + 6) mX11_longest 20 [some (.ref (o_ad X a0)), some (.int τ20.1), some (.int τ20.2.1), some (.int x3), some (.int τ20.2.2)] [] μ0 Q := by
  unfold fX11_longest_s20 at h
  refine s_iload dX11_longest_20 rfl ?_
  refine s_aload_n (i := 0) dX11_longest_22 rfl rfl ?_
  refine s_getR hX h0 flX11_23 rfl dX11_longest_23 (fun (g1 : o_is X (o_rf X a0 4) (.inl 8)) => ?_)
  refine s_getI g1 flX11_203 rfl dX11_longest_26 ?_
  refine s_icmp_ge (tgt := 89) dX11_longest_29 rfl (fun c1 => ?_) (fun c1 => ?_)
  · have h := o_if_t c1 h
    refine s_mask [true, true, true, true, false] (L' := [some (.ref (o_ad X a0)), some (.int τ20.1), some (.int τ20.2.1), some (.int x3), none]) rfl ?_
    exact k89 (τ20.1, τ20.2.1, 0) _ (o_ret h)
  · have h := o_if_f c1 h
    refine s_aload_n (i := 0) dX11_longest_32 rfl rfl ?_
    refine s_getR hX h0 flX11_87 rfl dX11_longest_33 (fun (g2 : o_is X (o_rf X a0 16) (.inl 6)) => ?_)
    refine s_aload_n (i := 0) dX11_longest_36 rfl rfl ?_
    refine s_getR hX h0 flX11_23 rfl dX11_longest_37 (fun (g3 : o_is X (o_rf X a0 4) (.inl 8)) => ?_)
    refine s_iload_n (i := 3) dX11_longest_40 rfl rfl ?_
    refine s_iload dX11_longest_41 rfl ?_
    refine s_callVu (C := mX6_follow) (As := [.ref (o_ad X (o_rf X a0 4)), .int x3, .int τ20.2.2]) (rest := []) (L0 := [some (.ref (o_ad X (o_rf X a0 16))), some (.ref (o_ad X (o_rf X a0 4))), some (.int x3), some (.int τ20.2.2), none, none]) hX g2 clX11_361 dX11_longest_43 rfl rfl (Nat.le_of_ble_eq_true rfl) (Nat.le_of_ble_eq_true rfl) (dnX6_follow hX g2 g3 (o_bdp h)) (fun _u μ1 h => ?_)
    refine s_aload_n (i := 0) dX11_longest_46 rfl rfl ?_
    refine s_getR hX h0 flX11_87 rfl dX11_longest_47 (fun (g4 : o_is X (o_rf X a0 16) (.inl 6)) => ?_)
    refine s_getI g4 flX11_365 rfl dX11_longest_50 ?_
    refine s_if_ne (tgt := 83) dX11_longest_53 rfl (fun c1 => ?_) (fun c1 => ?_)
    · have h := o_if_f c1 h
      refine s_iinc (v := (τ20.2.2 + 1)) dX11_longest_83 rfl rfl (Nat.le_of_ble_eq_true rfl) rfl ?_
      refine s_goto (tgt := 20) dX11_longest_86 rfl ?_
      refine s_mask [true, true, true, true, true] (L' := [some (.ref (o_ad X a0)), some (.int τ20.1), some (.int τ20.2.1), some (.int x3), some (.int (τ20.2.2 + 1))]) rfl ?_
      exact kh (τ20.1, τ20.2.1, (τ20.2.2 + 1)) _ (o_ret h)
    · have h := o_if_t c1 h
      refine s_aload_n (i := 0) dX11_longest_56 rfl rfl ?_
      refine s_getR hX h0 flX11_87 rfl dX11_longest_57 (fun (g5 : o_is X (o_rf X a0 16) (.inl 6)) => ?_)
      refine s_getI g5 flX11_368 rfl dX11_longest_60 ?_
      refine s_iload_n (i := 1) dX11_longest_63 rfl rfl ?_
      refine s_icmp_le (tgt := 83) dX11_longest_64 rfl (fun c1 => ?_) (fun c1 => ?_)
      · have h := o_if_t c1 h
        refine s_iinc (v := (τ20.2.2 + 1)) dX11_longest_83 rfl rfl (Nat.le_of_ble_eq_true rfl) rfl ?_
        refine s_goto (tgt := 20) dX11_longest_86 rfl ?_
        refine s_mask [true, true, true, true, true] (L' := [some (.ref (o_ad X a0)), some (.int τ20.1), some (.int τ20.2.1), some (.int x3), some (.int (τ20.2.2 + 1))]) rfl ?_
        exact kh (τ20.1, τ20.2.1, (τ20.2.2 + 1)) _ (o_ret h)
      · have h := o_if_f c1 h
        refine s_aload_n (i := 0) dX11_longest_67 rfl rfl ?_
        refine s_getR hX h0 flX11_87 rfl dX11_longest_68 (fun (g6 : o_is X (o_rf X a0 16) (.inl 6)) => ?_)
        refine s_getI g6 flX11_368 rfl dX11_longest_71 ?_
        refine s_istore_n (i := 1) dX11_longest_74 rfl (Nat.le_of_ble_eq_true rfl) rfl ?_
        refine s_bipush dX11_longest_75 kB_10 ?_
        refine s_iload_n (i := 3) dX11_longest_77 rfl rfl ?_
        refine s_imul dX11_longest_78 ?_
        refine s_iload dX11_longest_79 rfl ?_
        refine s_iadd dX11_longest_81 ?_
        refine s_istore_n (i := 2) dX11_longest_82 rfl (Nat.le_of_ble_eq_true rfl) rfl ?_
        refine s_iinc (v := (τ20.2.2 + 1)) dX11_longest_83 rfl rfl (Nat.le_of_ble_eq_true rfl) rfl ?_
        refine s_goto (tgt := 20) dX11_longest_86 rfl ?_
        refine s_mask [true, true, true, true, true] (L' := [some (.ref (o_ad X a0)), some (.int (μ1.1 (o_rf X a0 16) 1)), some (.int ((10 * x3) + τ20.2.2)), some (.int x3), some (.int (τ20.2.2 + 1))]) rfl ?_
        exact kh ((μ1.1 (o_rf X a0 16) 1), ((10 * x3) + τ20.2.2), (τ20.2.2 + 1)) _ (o_ret h)
set_option maxRecDepth 20000 in
theorem dnX11_longest_s6 {X : o_Cx} (hX : o_ok X) {d : Nat} {a0 : Nat} {τ6 : Int32 × Int32 × Int32} {μ0 : o_Mem} {K : (Nat × (Int32 × Int32 × Int32)) → o_Mem → Prop} {Q : Option Value → o_Mem → Prop} (h0 : o_is X a0 (.inl 11)) (h : o_Post (fX11_longest_s6 (o_rf X) a0 τ6 μ0) K) (kh : ∀ (τ6 : Int32 × Int32 × Int32) (μ : o_Mem), K (6, τ6) μ → o_Ev X (d + 6) mX11_longest 6 [some (.ref (o_ad X a0)), some (.int τ6.1), some (.int τ6.2.1), some (.int τ6.2.2), none] [] μ Q) (k95 : ∀ (τ6 : Int32 × Int32 × Int32) (μ : o_Mem), K (95, τ6) μ → o_Ev X (d + 6) mX11_longest 95 [some (.ref (o_ad X a0)), none, some (.int τ6.2.1), none, none] [] μ Q) : o_Ev X (d + 6) mX11_longest 6 [some (.ref (o_ad X a0)), some (.int τ6.1), some (.int τ6.2.1), some (.int τ6.2.2), none] [] μ0 Q := by
  unfold fX11_longest_s6 at h
  refine s_iload_n (i := 3) dX11_longest_6 rfl rfl ?_
  refine s_aload_n (i := 0) dX11_longest_7 rfl rfl ?_
  refine s_getR hX h0 flX11_23 rfl dX11_longest_8 (fun (g1 : o_is X (o_rf X a0 4) (.inl 8)) => ?_)
  refine s_getI g1 flX11_209 rfl dX11_longest_11 ?_
  refine s_icmp_ge (tgt := 95) dX11_longest_14 rfl (fun c1 => ?_) (fun c1 => ?_)
  · have h := o_if_t c1 h
    refine s_mask [true, false, true, false, false] (L' := [some (.ref (o_ad X a0)), none, some (.int τ6.2.1), none, none]) rfl ?_
    exact k95 (0, τ6.2.1, 0) _ (o_ret h)
  · have h := o_if_f c1 h
    refine s_iconst dX11_longest_17 kI_0 ?_
    refine s_istore dX11_longest_18 (Nat.le_of_ble_eq_true rfl) rfl ?_
    refine s_mask [true, true, true, true, true] (L' := [some (.ref (o_ad X a0)), some (.int τ6.1), some (.int τ6.2.1), some (.int τ6.2.2), some (.int 0)]) rfl ?_
    refine o_lp_ev (fun τ20 => [some (.ref (o_ad X a0)), some (.int τ20.1), some (.int τ20.2.1), some (.int τ6.2.2), some (.int τ20.2.2)]) (fun τ20 μ _K h kv ke20 => dnX11_longest_s20 hX h0 h kv (fun τ20 μ1 h => ?_)) o_fuel (τ6.1, τ6.2.1, 0) μ0 (o_bdp h)
    · have h := o_if_t rfl (ke20 (89, τ20) μ1 (o_ne rfl) h)
      refine s_iinc (v := (τ6.2.2 + 1)) dX11_longest_89 rfl rfl (Nat.le_of_ble_eq_true rfl) rfl ?_
      refine s_goto (tgt := 6) dX11_longest_92 rfl ?_
      refine s_mask [true, true, true, true, false] (L' := [some (.ref (o_ad X a0)), some (.int τ20.1), some (.int τ20.2.1), some (.int (τ6.2.2 + 1)), none]) rfl ?_
      exact kh (τ20.1, τ20.2.1, (τ6.2.2 + 1)) _ (o_ret h)
set_option maxRecDepth 20000 in
theorem dnX11_longest {X : o_Cx} (hX : o_ok X) {d : Nat} {a0 : Nat} {μ0 : o_Mem} {q : Int32 → o_Mem → Prop} (h0 : o_is X a0 (.inl 11)) (h : o_Post (fX11_longest (o_rf X) a0 μ0) q) : o_Ev X (d + 6) mX11_longest 0 [some (.ref (o_ad X a0)), none, none, none, none] [] μ0 (o_QI q) := by
  unfold fX11_longest at h
  refine s_iconst dX11_longest_0 kI_m1 ?_
  refine s_istore_n (i := 1) dX11_longest_1 rfl (Nat.le_of_ble_eq_true rfl) rfl ?_
  refine s_iconst dX11_longest_2 kI_m1 ?_
  refine s_istore_n (i := 2) dX11_longest_3 rfl (Nat.le_of_ble_eq_true rfl) rfl ?_
  refine s_iconst dX11_longest_4 kI_0 ?_
  refine s_istore_n (i := 3) dX11_longest_5 rfl (Nat.le_of_ble_eq_true rfl) rfl ?_
  refine s_mask [true, true, true, true, false] (L' := [some (.ref (o_ad X a0)), some (.int (-1)), some (.int (-1)), some (.int 0), none]) rfl ?_
  refine o_lp_ev (fun τ6 => [some (.ref (o_ad X a0)), some (.int τ6.1), some (.int τ6.2.1), some (.int τ6.2.2), none]) (fun τ6 μ _K h kv ke6 => dnX11_longest_s6 hX h0 h kv (fun τ6 μ1 h => ?_)) o_fuel ((-1), (-1), 0) μ0 (o_bdp h)
  · have h := o_if_t rfl (ke6 (95, τ6) μ1 (o_ne rfl) h)
    refine s_aload_n (i := 0) dX11_longest_95 rfl rfl ?_
    refine s_iload_n (i := 2) dX11_longest_96 rfl rfl ?_
    refine s_callVi (C := mX11_givesIfAny) (As := [.int τ6.2.1]) (rest := []) (L0 := [some (.ref (o_ad X a0)), some (.int τ6.2.1)]) hX h0 clX11_259 dX11_longest_97 rfl rfl (Nat.le_of_ble_eq_true rfl) (Nat.le_of_ble_eq_true rfl) (dnX11_givesIfAny hX h0 (o_bdp h)) (fun r1 μ2 h => ?_)
    exact s_ireturn rfl dX11_longest_100 ⟨_, rfl, o_ret h⟩
theorem dX11_rowStatus_0 : decode cX11_rowStatus 0 = .ok (.iload_n 1, 1) := by decide +kernel
theorem dX11_rowStatus_1 : decode cX11_rowStatus 1 = .ok (.invokestatic 112, 3) := by decide +kernel
theorem dX11_rowStatus_4 : decode cX11_rowStatus 4 = .ok (.ifCond .ne 5, 3) := by decide +kernel
theorem dX11_rowStatus_7 : decode cX11_rowStatus 7 = .ok (.iconst 1, 1) := by decide +kernel
theorem dX11_rowStatus_8 : decode cX11_rowStatus 8 = .ok (.ireturn, 1) := by decide +kernel
theorem dX11_rowStatus_9 : decode cX11_rowStatus 9 = .ok (.aload_n 0, 1) := by decide +kernel
theorem dX11_rowStatus_10 : decode cX11_rowStatus 10 = .ok (.getfield 15, 3) := by decide +kernel
theorem dX11_rowStatus_13 : decode cX11_rowStatus 13 = .ok (.iload_n 1, 1) := by decide +kernel
theorem dX11_rowStatus_14 : decode cX11_rowStatus 14 = .ok (.aaload, 1) := by decide +kernel
theorem dX11_rowStatus_15 : decode cX11_rowStatus 15 = .ok (.getfield 147, 3) := by decide +kernel
theorem dX11_rowStatus_18 : decode cX11_rowStatus 18 = .ok (.ifCond .ne 5, 3) := by decide +kernel
theorem dX11_rowStatus_21 : decode cX11_rowStatus 21 = .ok (.iconst 2, 1) := by decide +kernel
theorem dX11_rowStatus_22 : decode cX11_rowStatus 22 = .ok (.ireturn, 1) := by decide +kernel
theorem dX11_rowStatus_23 : decode cX11_rowStatus 23 = .ok (.iload_n 2, 1) := by decide +kernel
theorem dX11_rowStatus_24 : decode cX11_rowStatus 24 = .ok (.aload_n 0, 1) := by decide +kernel
theorem dX11_rowStatus_25 : decode cX11_rowStatus 25 = .ok (.getfield 15, 3) := by decide +kernel
theorem dX11_rowStatus_28 : decode cX11_rowStatus 28 = .ok (.iload_n 1, 1) := by decide +kernel
theorem dX11_rowStatus_29 : decode cX11_rowStatus 29 = .ok (.aaload, 1) := by decide +kernel
theorem dX11_rowStatus_30 : decode cX11_rowStatus 30 = .ok (.getfield 154, 3) := by decide +kernel
theorem dX11_rowStatus_33 : decode cX11_rowStatus 33 = .ok (.if_icmp .le 7, 3) := by decide +kernel
theorem dX11_rowStatus_36 : decode cX11_rowStatus 36 = .ok (.iconst 3, 1) := by decide +kernel
theorem dX11_rowStatus_37 : decode cX11_rowStatus 37 = .ok (.goto 4, 3) := by decide +kernel
theorem dX11_rowStatus_40 : decode cX11_rowStatus 40 = .ok (.iconst 0, 1) := by decide +kernel
theorem dX11_rowStatus_41 : decode cX11_rowStatus 41 = .ok (.ireturn, 1) := by decide +kernel
noncomputable def fX11_rowStatus (rf : Nat → Nat → Nat) (a0 : Nat) (x1 : Int32) (x2 : Int32) (μ0 : o_Mem) : Option (Int32 × o_Mem) :=
  o_bd (fX11_isTray rf x1 μ0) fun r1 μ1 =>
  if r1 = 0 then (
    some (1, μ1))
  else (
    o_ck (0 ≤ (x1).toInt ∧ (x1).toInt < 4) <|
    if (μ1.1 (rf (rf a0 3) x1.toNatClampNeg) 0) = 0 then (
      some (2, μ1))
    else (
      o_ck (0 ≤ (x1).toInt ∧ (x1).toInt < 4) <|
      if x2 ≤ (μ1.1 (rf (rf a0 3) x1.toNatClampNeg) 2) then (
        some (0, μ1))
      else (
        some (3, μ1))))
set_option maxRecDepth 20000 in
theorem dnX11_rowStatus {X : o_Cx} (hX : o_ok X) {d : Nat} {a0 : Nat} {x1 : Int32} {x2 : Int32} {μ0 : o_Mem} {q : Int32 → o_Mem → Prop} (h0 : o_is X a0 (.inl 11)) (h : o_Post (fX11_rowStatus (o_rf X) a0 x1 x2 μ0) q) : o_Ev X (d + 2) mX11_rowStatus 0 [some (.ref (o_ad X a0)), some (.int x1), some (.int x2)] [] μ0 (o_QI q) := by
  unfold fX11_rowStatus at h
  refine s_iload_n (i := 1) dX11_rowStatus_0 rfl rfl ?_
  refine s_callSz (C := mX11_isTray) (As := [.int x1]) (rest := []) (L0 := [some (.int x1)]) clX11_112 dX11_rowStatus_1 rfl rfl (Nat.le_of_ble_eq_true rfl) (Nat.le_of_ble_eq_true rfl) (dnX11_isTray hX  (o_bdp h)) (fun r1 μ1 zr1 h => ?_)
  refine s_if_ne (tgt := 9) dX11_rowStatus_4 rfl (fun c1 => ?_) (fun c1 => ?_)
  · have h := o_if_f c1 h
    refine s_aload_n (i := 0) dX11_rowStatus_9 rfl rfl ?_
    refine s_getR hX h0 flX11_15 rfl dX11_rowStatus_10 (fun (g1 : o_is X (o_rf X a0 3) (.inr (3, 4))) => ?_)
    refine s_iload_n (i := 1) dX11_rowStatus_13 rfl rfl ?_
    have hc := o_ck_c h
    have h := o_ck_k h
    refine s_aaldK hX g1 (by decide) rfl hc rfl dX11_rowStatus_14 (fun (g2 : o_is X (o_rf X (o_rf X a0 3) x1.toNatClampNeg) (.inl 7)) => ?_)
    refine s_getI g2 flX11_147 rfl dX11_rowStatus_15 ?_
    refine s_if_ne (tgt := 23) dX11_rowStatus_18 rfl (fun c1 => ?_) (fun c1 => ?_)
    · have h := o_if_f c1 h
      refine s_iload_n (i := 2) dX11_rowStatus_23 rfl rfl ?_
      refine s_aload_n (i := 0) dX11_rowStatus_24 rfl rfl ?_
      refine s_getR hX h0 flX11_15 rfl dX11_rowStatus_25 (fun (g3 : o_is X (o_rf X a0 3) (.inr (3, 4))) => ?_)
      refine s_iload_n (i := 1) dX11_rowStatus_28 rfl rfl ?_
      have hc := o_ck_c h
      have h := o_ck_k h
      refine s_aaldK hX g3 (by decide) rfl hc rfl dX11_rowStatus_29 (fun (g4 : o_is X (o_rf X (o_rf X a0 3) x1.toNatClampNeg) (.inl 7)) => ?_)
      refine s_getI g4 flX11_154 rfl dX11_rowStatus_30 ?_
      refine s_icmp_le (tgt := 40) dX11_rowStatus_33 rfl (fun c1 => ?_) (fun c1 => ?_)
      · have h := o_if_t c1 h
        refine s_iconst dX11_rowStatus_40 kI_0 ?_
        exact s_ireturn rfl dX11_rowStatus_41 ⟨_, rfl, o_ret h⟩
      · have h := o_if_f c1 h
        refine s_iconst dX11_rowStatus_36 kI_3 ?_
        refine s_goto (tgt := 41) dX11_rowStatus_37 rfl ?_
        exact s_ireturn rfl dX11_rowStatus_41 ⟨_, rfl, o_ret h⟩
    · have h := o_if_t c1 h
      refine s_iconst dX11_rowStatus_21 kI_2 ?_
      exact s_ireturn rfl dX11_rowStatus_22 ⟨_, rfl, o_ret h⟩
  · have h := o_if_t c1 h
    refine s_iconst dX11_rowStatus_7 kI_1 ?_
    exact s_ireturn rfl dX11_rowStatus_8 ⟨_, rfl, o_ret h⟩
theorem dX11_strikeRowStatus_0 : decode cX11_strikeRowStatus 0 = .ok (.iload_n 2, 1) := by decide +kernel
theorem dX11_strikeRowStatus_1 : decode cX11_strikeRowStatus 1 = .ok (.i2l, 1) := by decide +kernel
theorem dX11_strikeRowStatus_2 : decode cX11_strikeRowStatus 2 = .ok (.lconst 1, 1) := by decide +kernel
theorem dX11_strikeRowStatus_3 : decode cX11_strikeRowStatus 3 = .ok (.ldc2_w 476, 3) := by decide +kernel
theorem dX11_strikeRowStatus_6 : decode cX11_strikeRowStatus 6 = .ok (.invokestatic 118, 3) := by decide +kernel
theorem dX11_strikeRowStatus_9 : decode cX11_strikeRowStatus 9 = .ok (.ifCond .ne 5, 3) := by decide +kernel
theorem dX11_strikeRowStatus_12 : decode cX11_strikeRowStatus 12 = .ok (.iconst 1, 1) := by decide +kernel
theorem dX11_strikeRowStatus_13 : decode cX11_strikeRowStatus 13 = .ok (.ireturn, 1) := by decide +kernel
theorem dX11_strikeRowStatus_14 : decode cX11_strikeRowStatus 14 = .ok (.aload_n 0, 1) := by decide +kernel
theorem dX11_strikeRowStatus_15 : decode cX11_strikeRowStatus 15 = .ok (.iload_n 1, 1) := by decide +kernel
theorem dX11_strikeRowStatus_16 : decode cX11_strikeRowStatus 16 = .ok (.iload_n 2, 1) := by decide +kernel
theorem dX11_strikeRowStatus_17 : decode cX11_strikeRowStatus 17 = .ok (.invokevirtual 385, 3) := by decide +kernel
theorem dX11_strikeRowStatus_20 : decode cX11_strikeRowStatus 20 = .ok (.istore_n 3, 1) := by decide +kernel
theorem dX11_strikeRowStatus_21 : decode cX11_strikeRowStatus 21 = .ok (.iload_n 3, 1) := by decide +kernel
theorem dX11_strikeRowStatus_22 : decode cX11_strikeRowStatus 22 = .ok (.ifCond .eq 5, 3) := by decide +kernel
theorem dX11_strikeRowStatus_25 : decode cX11_strikeRowStatus 25 = .ok (.iload_n 3, 1) := by decide +kernel
theorem dX11_strikeRowStatus_26 : decode cX11_strikeRowStatus 26 = .ok (.ireturn, 1) := by decide +kernel
theorem dX11_strikeRowStatus_27 : decode cX11_strikeRowStatus 27 = .ok (.iconst 0, 1) := by decide +kernel
theorem dX11_strikeRowStatus_28 : decode cX11_strikeRowStatus 28 = .ok (.istore 4, 2) := by decide +kernel
theorem dX11_strikeRowStatus_30 : decode cX11_strikeRowStatus 30 = .ok (.iload 4, 2) := by decide +kernel
theorem dX11_strikeRowStatus_32 : decode cX11_strikeRowStatus 32 = .ok (.iload_n 2, 1) := by decide +kernel
theorem dX11_strikeRowStatus_33 : decode cX11_strikeRowStatus 33 = .ok (.if_icmp .ge 33, 3) := by decide +kernel
theorem dX11_strikeRowStatus_36 : decode cX11_strikeRowStatus 36 = .ok (.aload_n 0, 1) := by decide +kernel
theorem dX11_strikeRowStatus_37 : decode cX11_strikeRowStatus 37 = .ok (.getfield 23, 3) := by decide +kernel
theorem dX11_strikeRowStatus_40 : decode cX11_strikeRowStatus 40 = .ok (.aload_n 0, 1) := by decide +kernel
theorem dX11_strikeRowStatus_41 : decode cX11_strikeRowStatus 41 = .ok (.getfield 15, 3) := by decide +kernel
theorem dX11_strikeRowStatus_44 : decode cX11_strikeRowStatus 44 = .ok (.iload_n 1, 1) := by decide +kernel
theorem dX11_strikeRowStatus_45 : decode cX11_strikeRowStatus 45 = .ok (.aaload, 1) := by decide +kernel
theorem dX11_strikeRowStatus_46 : decode cX11_strikeRowStatus 46 = .ok (.getfield 143, 3) := by decide +kernel
theorem dX11_strikeRowStatus_49 : decode cX11_strikeRowStatus 49 = .ok (.iload 4, 2) := by decide +kernel
theorem dX11_strikeRowStatus_51 : decode cX11_strikeRowStatus 51 = .ok (.laload, 1) := by decide +kernel
theorem dX11_strikeRowStatus_52 : decode cX11_strikeRowStatus 52 = .ok (.invokevirtual 241, 3) := by decide +kernel
theorem dX11_strikeRowStatus_55 : decode cX11_strikeRowStatus 55 = .ok (.ifCond .ne 5, 3) := by decide +kernel
theorem dX11_strikeRowStatus_58 : decode cX11_strikeRowStatus 58 = .ok (.iconst 5, 1) := by decide +kernel
theorem dX11_strikeRowStatus_59 : decode cX11_strikeRowStatus 59 = .ok (.ireturn, 1) := by decide +kernel
theorem dX11_strikeRowStatus_60 : decode cX11_strikeRowStatus 60 = .ok (.iinc 4 1, 3) := by decide +kernel
theorem dX11_strikeRowStatus_63 : decode cX11_strikeRowStatus 63 = .ok (.goto (-33), 3) := by decide +kernel
theorem dX11_strikeRowStatus_66 : decode cX11_strikeRowStatus 66 = .ok (.iconst 0, 1) := by decide +kernel
theorem dX11_strikeRowStatus_67 : decode cX11_strikeRowStatus 67 = .ok (.ireturn, 1) := by decide +kernel
noncomputable def fX11_strikeRowStatus_s30 (rf : Nat → Nat → Nat) (a0 : Nat) (x1 : Int32) (x2 : Int32) (τ30 : Int32) (μ0 : o_Mem) : Option ((Nat × (Int32)) × o_Mem) :=
  if x2 ≤ τ30 then (
    some ((66, 0), μ0))
  else (
    o_ck (0 ≤ (x1).toInt ∧ (x1).toInt < 4) <|
    o_ck (0 ≤ (τ30).toInt ∧ (τ30).toInt < 60) <|
    o_bd (fX8_isStrike rf (rf a0 4) (μ0.2 (rf (rf (rf a0 3) x1.toNatClampNeg) 3) τ30.toNatClampNeg) μ0) fun r1 μ1 =>
    if r1 = 0 then (
      some ((58, 0), μ1))
    else (
      some ((30, (τ30 + 1)), μ1)))
noncomputable def fX11_strikeRowStatus (rf : Nat → Nat → Nat) (a0 : Nat) (x1 : Int32) (x2 : Int32) (μ0 : o_Mem) : Option (Int32 × o_Mem) :=
  o_bd (fX11_within rf x2.toInt64 (1 : Int64) (12 : Int64) μ0) fun r1 μ1 =>
  if r1 = 0 then (
    some (1, μ1))
  else (
    o_bd (fX11_rowStatus rf a0 x1 x2 μ1) fun r2 μ2 =>
    if r2 = 0 then (
      o_bd (o_lp 30 (fX11_strikeRowStatus_s30 rf a0 x1 x2) o_fuel (0 : Int32) μ2) fun ex3 μ3 =>
      if ex3.1 = 58 then (
        some (5, μ3))
      else
      if ex3.1 = 66 then (
        some (0, μ3))
      else
        none)
    else (
      some (r2, μ2)))
set_option maxRecDepth 20000 in
theorem dnX11_strikeRowStatus_s30 {X : o_Cx} (hX : o_ok X) {d : Nat} {a0 : Nat} {x1 : Int32} {x2 : Int32} {τ30 : Int32} {μ0 : o_Mem} {K : (Nat × (Int32)) → o_Mem → Prop} {Q : Option Value → o_Mem → Prop} (h0 : o_is X a0 (.inl 11)) (h : o_Post (fX11_strikeRowStatus_s30 (o_rf X) a0 x1 x2 τ30 μ0) K) (kh : ∀ (τ30 : Int32) (μ : o_Mem), K (30, τ30) μ → o_Ev X (d + 3) mX11_strikeRowStatus 30 [some (.ref (o_ad X a0)), some (.int x1), some (.int x2), none, some (.int τ30)] [] μ Q) (k58 : ∀ (τ30 : Int32) (μ : o_Mem), K (58, τ30) μ → o_Ev X (d + 3) mX11_strikeRowStatus 58 [none, none, none, none, none] [] μ Q) (k66 : ∀ (τ30 : Int32) (μ : o_Mem), K (66, τ30) μ → o_Ev X (d + 3) mX11_strikeRowStatus 66 [none, none, none, none, none] [] μ Q) : o_Ev X (d + 3) mX11_strikeRowStatus 30 [some (.ref (o_ad X a0)), some (.int x1), some (.int x2), none, some (.int τ30)] [] μ0 Q := by
  unfold fX11_strikeRowStatus_s30 at h
  refine s_iload dX11_strikeRowStatus_30 rfl ?_
  refine s_iload_n (i := 2) dX11_strikeRowStatus_32 rfl rfl ?_
  refine s_icmp_ge (tgt := 66) dX11_strikeRowStatus_33 rfl (fun c1 => ?_) (fun c1 => ?_)
  · have h := o_if_t c1 h
    refine s_mask [false, false, false, false, false] (L' := [none, none, none, none, none]) rfl ?_
    exact k66 0 _ (o_ret h)
  · have h := o_if_f c1 h
    refine s_aload_n (i := 0) dX11_strikeRowStatus_36 rfl rfl ?_
    refine s_getR hX h0 flX11_23 rfl dX11_strikeRowStatus_37 (fun (g1 : o_is X (o_rf X a0 4) (.inl 8)) => ?_)
    refine s_aload_n (i := 0) dX11_strikeRowStatus_40 rfl rfl ?_
    refine s_getR hX h0 flX11_15 rfl dX11_strikeRowStatus_41 (fun (g2 : o_is X (o_rf X a0 3) (.inr (3, 4))) => ?_)
    refine s_iload_n (i := 1) dX11_strikeRowStatus_44 rfl rfl ?_
    have hc := o_ck_c h
    have h := o_ck_k h
    refine s_aaldK hX g2 (by decide) rfl hc rfl dX11_strikeRowStatus_45 (fun (g3 : o_is X (o_rf X (o_rf X a0 3) x1.toNatClampNeg) (.inl 7)) => ?_)
    refine s_getR hX g3 flX11_143 rfl dX11_strikeRowStatus_46 (fun (g4 : o_is X (o_rf X (o_rf X (o_rf X a0 3) x1.toNatClampNeg) 3) (.inr (2, 60))) => ?_)
    refine s_iload dX11_strikeRowStatus_49 rfl ?_
    have hc := o_ck_c h
    have h := o_ck_k h
    refine s_laldK g4 hc rfl dX11_strikeRowStatus_51 ?_
    refine s_callVz (C := mX8_isStrike) (As := [.long (μ0.2 (o_rf X (o_rf X (o_rf X a0 3) x1.toNatClampNeg) 3) τ30.toNatClampNeg)]) (rest := []) (L0 := [some (.ref (o_ad X (o_rf X a0 4))), some (.long (μ0.2 (o_rf X (o_rf X (o_rf X a0 3) x1.toNatClampNeg) 3) τ30.toNatClampNeg)), none]) hX g1 clX11_241 dX11_strikeRowStatus_52 rfl rfl (Nat.le_of_ble_eq_true rfl) (Nat.le_of_ble_eq_true rfl) (dnX8_isStrike hX g1 (o_bdp h)) (fun r1 μ1 zr1 h => ?_)
    refine s_if_ne (tgt := 60) dX11_strikeRowStatus_55 rfl (fun c1 => ?_) (fun c1 => ?_)
    · have h := o_if_f c1 h
      refine s_iinc (v := (τ30 + 1)) dX11_strikeRowStatus_60 rfl rfl (Nat.le_of_ble_eq_true rfl) rfl ?_
      refine s_goto (tgt := 30) dX11_strikeRowStatus_63 rfl ?_
      refine s_mask [true, true, true, false, true] (L' := [some (.ref (o_ad X a0)), some (.int x1), some (.int x2), none, some (.int (τ30 + 1))]) rfl ?_
      exact kh (τ30 + 1) _ (o_ret h)
    · have h := o_if_t c1 h
      refine s_mask [false, false, false, false, false] (L' := [none, none, none, none, none]) rfl ?_
      exact k58 0 _ (o_ret h)
set_option maxRecDepth 20000 in
theorem dnX11_strikeRowStatus {X : o_Cx} (hX : o_ok X) {d : Nat} {a0 : Nat} {x1 : Int32} {x2 : Int32} {μ0 : o_Mem} {q : Int32 → o_Mem → Prop} (h0 : o_is X a0 (.inl 11)) (h : o_Post (fX11_strikeRowStatus (o_rf X) a0 x1 x2 μ0) q) : o_Ev X (d + 3) mX11_strikeRowStatus 0 [some (.ref (o_ad X a0)), some (.int x1), some (.int x2), none, none] [] μ0 (o_QI q) := by
  unfold fX11_strikeRowStatus at h
  refine s_iload_n (i := 2) dX11_strikeRowStatus_0 rfl rfl ?_
  refine s_i2l dX11_strikeRowStatus_1 ?_
  refine s_lconst (v := 1) dX11_strikeRowStatus_2 rfl ?_
  refine s_ldc2 (v := 12) w_5_163 dX11_strikeRowStatus_3 ?_
  refine s_callSz (C := mX11_within) (As := [.long x2.toInt64, .long (1 : Int64), .long (12 : Int64)]) (rest := []) (L0 := [some (.long x2.toInt64), none, some (.long (1 : Int64)), none, some (.long (12 : Int64)), none]) clX11_118 dX11_strikeRowStatus_6 rfl rfl (Nat.le_of_ble_eq_true rfl) (Nat.le_of_ble_eq_true rfl) (dnX11_within hX  (o_bdp h)) (fun r1 μ1 zr1 h => ?_)
  refine s_if_ne (tgt := 14) dX11_strikeRowStatus_9 rfl (fun c1 => ?_) (fun c1 => ?_)
  · have h := o_if_f c1 h
    refine s_aload_n (i := 0) dX11_strikeRowStatus_14 rfl rfl ?_
    refine s_iload_n (i := 1) dX11_strikeRowStatus_15 rfl rfl ?_
    refine s_iload_n (i := 2) dX11_strikeRowStatus_16 rfl rfl ?_
    refine s_callVi (C := mX11_rowStatus) (As := [.int x1, .int x2]) (rest := []) (L0 := [some (.ref (o_ad X a0)), some (.int x1), some (.int x2)]) hX h0 clX11_385 dX11_strikeRowStatus_17 rfl rfl (Nat.le_of_ble_eq_true rfl) (Nat.le_of_ble_eq_true rfl) (dnX11_rowStatus hX h0 (o_bdp h)) (fun r2 μ2 h => ?_)
    refine s_istore_n (i := 3) dX11_strikeRowStatus_20 rfl (Nat.le_of_ble_eq_true rfl) rfl ?_
    refine s_iload_n (i := 3) dX11_strikeRowStatus_21 rfl rfl ?_
    refine s_if_eq (tgt := 27) dX11_strikeRowStatus_22 rfl (fun c1 => ?_) (fun c1 => ?_)
    · have h := o_if_t c1 h
      refine s_iconst dX11_strikeRowStatus_27 kI_0 ?_
      refine s_istore dX11_strikeRowStatus_28 (Nat.le_of_ble_eq_true rfl) rfl ?_
      refine s_mask [true, true, true, false, true] (L' := [some (.ref (o_ad X a0)), some (.int x1), some (.int x2), none, some (.int 0)]) rfl ?_
      refine o_lp_ev (fun τ30 => [some (.ref (o_ad X a0)), some (.int x1), some (.int x2), none, some (.int τ30)]) (fun τ30 μ _K h kv ke30 => dnX11_strikeRowStatus_s30 hX h0 h kv (fun τ30 μ3 h => ?_) (fun τ30 μ3 h => ?_)) o_fuel 0 μ2 (o_bdp h)
      · have h := o_if_t rfl (ke30 (58, τ30) μ3 (o_ne rfl) h)
        refine s_iconst dX11_strikeRowStatus_58 kI_5 ?_
        exact s_ireturn rfl dX11_strikeRowStatus_59 ⟨_, rfl, o_ret h⟩
      · have h := o_if_t rfl (o_if_f (o_ne rfl) (ke30 (66, τ30) μ3 (o_ne rfl) h))
        refine s_iconst dX11_strikeRowStatus_66 kI_0 ?_
        exact s_ireturn rfl dX11_strikeRowStatus_67 ⟨_, rfl, o_ret h⟩
    · have h := o_if_f c1 h
      refine s_iload_n (i := 3) dX11_strikeRowStatus_25 rfl rfl ?_
      exact s_ireturn rfl dX11_strikeRowStatus_26 ⟨_, rfl, o_ret h⟩
  · have h := o_if_t c1 h
    refine s_iconst dX11_strikeRowStatus_12 kI_1 ?_
    exact s_ireturn rfl dX11_strikeRowStatus_13 ⟨_, rfl, o_ret h⟩
theorem dX11_reads_0 : decode cX11_reads 0 = .ok (.aload_n 0, 1) := by decide +kernel
theorem dX11_reads_1 : decode cX11_reads 1 = .ok (.iload_n 1, 1) := by decide +kernel
theorem dX11_reads_2 : decode cX11_reads 2 = .ok (.iload_n 2, 1) := by decide +kernel
theorem dX11_reads_3 : decode cX11_reads 3 = .ok (.invokevirtual 374, 3) := by decide +kernel
theorem dX11_reads_6 : decode cX11_reads 6 = .ok (.istore_n 3, 1) := by decide +kernel
theorem dX11_reads_7 : decode cX11_reads 7 = .ok (.iload_n 3, 1) := by decide +kernel
theorem dX11_reads_8 : decode cX11_reads 8 = .ok (.ifCond .eq 10, 3) := by decide +kernel
theorem dX11_reads_11 : decode cX11_reads 11 = .ok (.aload_n 0, 1) := by decide +kernel
theorem dX11_reads_12 : decode cX11_reads 12 = .ok (.iload_n 3, 1) := by decide +kernel
theorem dX11_reads_13 : decode cX11_reads 13 = .ok (.invokevirtual 139, 3) := by decide +kernel
theorem dX11_reads_16 : decode cX11_reads 16 = .ok (.i2l, 1) := by decide +kernel
theorem dX11_reads_17 : decode cX11_reads 17 = .ok (.lreturn, 1) := by decide +kernel
theorem dX11_reads_18 : decode cX11_reads 18 = .ok (.aload_n 0, 1) := by decide +kernel
theorem dX11_reads_19 : decode cX11_reads 19 = .ok (.iconst 0, 1) := by decide +kernel
theorem dX11_reads_20 : decode cX11_reads 20 = .ok (.putfield 105, 3) := by decide +kernel
theorem dX11_reads_23 : decode cX11_reads 23 = .ok (.aload_n 0, 1) := by decide +kernel
theorem dX11_reads_24 : decode cX11_reads 24 = .ok (.getfield 94, 3) := by decide +kernel
theorem dX11_reads_27 : decode cX11_reads 27 = .ok (.aload_n 0, 1) := by decide +kernel
theorem dX11_reads_28 : decode cX11_reads 28 = .ok (.getfield 23, 3) := by decide +kernel
theorem dX11_reads_31 : decode cX11_reads 31 = .ok (.getfield 219, 3) := by decide +kernel
theorem dX11_reads_34 : decode cX11_reads 34 = .ok (.aload_n 0, 1) := by decide +kernel
theorem dX11_reads_35 : decode cX11_reads 35 = .ok (.getfield 15, 3) := by decide +kernel
theorem dX11_reads_38 : decode cX11_reads 38 = .ok (.iload_n 1, 1) := by decide +kernel
theorem dX11_reads_39 : decode cX11_reads 39 = .ok (.aaload, 1) := by decide +kernel
theorem dX11_reads_40 : decode cX11_reads 40 = .ok (.iload_n 2, 1) := by decide +kernel
theorem dX11_reads_41 : decode cX11_reads 41 = .ok (.invokevirtual 377, 3) := by decide +kernel
theorem dX11_reads_44 : decode cX11_reads 44 = .ok (.lreturn, 1) := by decide +kernel
noncomputable def fX11_reads (rf : Nat → Nat → Nat) (a0 : Nat) (x1 : Int32) (x2 : Int32) (μ0 : o_Mem) : Option (Int64 × o_Mem) :=
  o_bd (fX11_strikeRowStatus rf a0 x1 x2 μ0) fun r1 μ1 =>
  if r1 = 0 then (
    o_seq (o_wI μ1 a0 0 0) fun μ2 =>
    o_ck (0 ≤ (x1).toInt ∧ (x1).toInt < 4) <|
    o_bd (fX5_waysAlong rf (rf a0 17) (rf (rf a0 4) 16) (rf (rf a0 3) x1.toNatClampNeg) x2 μ2) fun r2 μ3 =>
    some (r2, μ3))
  else (
    o_bd (fX11_refuses rf a0 r1 μ1) fun r3 μ4 =>
    some (r3.toInt64, μ4))
set_option maxRecDepth 20000 in
theorem dnX11_reads {X : o_Cx} (hX : o_ok X) {d : Nat} {a0 : Nat} {x1 : Int32} {x2 : Int32} {μ0 : o_Mem} {q : Int64 → o_Mem → Prop} (h0 : o_is X a0 (.inl 11)) (h : o_Post (fX11_reads (o_rf X) a0 x1 x2 μ0) q) : o_Ev X (d + 4) mX11_reads 0 [some (.ref (o_ad X a0)), some (.int x1), some (.int x2), none] [] μ0 (o_QL q) := by
  unfold fX11_reads at h
  refine s_aload_n (i := 0) dX11_reads_0 rfl rfl ?_
  refine s_iload_n (i := 1) dX11_reads_1 rfl rfl ?_
  refine s_iload_n (i := 2) dX11_reads_2 rfl rfl ?_
  refine s_callVi (C := mX11_strikeRowStatus) (As := [.int x1, .int x2]) (rest := []) (L0 := [some (.ref (o_ad X a0)), some (.int x1), some (.int x2), none, none]) hX h0 clX11_374 dX11_reads_3 rfl rfl (Nat.le_of_ble_eq_true rfl) (Nat.le_of_ble_eq_true rfl) (dnX11_strikeRowStatus hX h0 (o_bdp h)) (fun r1 μ1 h => ?_)
  refine s_istore_n (i := 3) dX11_reads_6 rfl (Nat.le_of_ble_eq_true rfl) rfl ?_
  refine s_iload_n (i := 3) dX11_reads_7 rfl rfl ?_
  refine s_if_eq (tgt := 18) dX11_reads_8 rfl (fun c1 => ?_) (fun c1 => ?_)
  · have h := o_if_t c1 h
    refine s_aload_n (i := 0) dX11_reads_18 rfl rfl ?_
    refine s_iconst dX11_reads_19 kI_0 ?_
    refine s_putI hX h0 fwX11_105 rfl dX11_reads_20 (o_gen h (fun μ2 h => ?_))
    refine s_aload_n (i := 0) dX11_reads_23 rfl rfl ?_
    refine s_getR hX h0 flX11_94 rfl dX11_reads_24 (fun (g1 : o_is X (o_rf X a0 17) (.inl 5)) => ?_)
    refine s_aload_n (i := 0) dX11_reads_27 rfl rfl ?_
    refine s_getR hX h0 flX11_23 rfl dX11_reads_28 (fun (g2 : o_is X (o_rf X a0 4) (.inl 8)) => ?_)
    refine s_getR hX g2 flX11_219 rfl dX11_reads_31 (fun (g3 : o_is X (o_rf X (o_rf X a0 4) 16) (.inl 1)) => ?_)
    refine s_aload_n (i := 0) dX11_reads_34 rfl rfl ?_
    refine s_getR hX h0 flX11_15 rfl dX11_reads_35 (fun (g4 : o_is X (o_rf X a0 3) (.inr (3, 4))) => ?_)
    refine s_iload_n (i := 1) dX11_reads_38 rfl rfl ?_
    have hc := o_ck_c h
    have h := o_ck_k h
    refine s_aaldK hX g4 (by decide) rfl hc rfl dX11_reads_39 (fun (g5 : o_is X (o_rf X (o_rf X a0 3) x1.toNatClampNeg) (.inl 7)) => ?_)
    refine s_iload_n (i := 2) dX11_reads_40 rfl rfl ?_
    refine s_callVl (C := mX5_waysAlong) (As := [.ref (o_ad X (o_rf X (o_rf X a0 4) 16)), .ref (o_ad X (o_rf X (o_rf X a0 3) x1.toNatClampNeg)), .int x2]) (rest := []) (L0 := [some (.ref (o_ad X (o_rf X a0 17))), some (.ref (o_ad X (o_rf X (o_rf X a0 4) 16))), some (.ref (o_ad X (o_rf X (o_rf X a0 3) x1.toNatClampNeg))), some (.int x2), none, none]) hX g1 clX11_377 dX11_reads_41 rfl rfl (Nat.le_of_ble_eq_true rfl) (Nat.le_of_ble_eq_true rfl) (dnX5_waysAlong hX g1 g3 g5 (o_bdp h)) (fun r2 μ3 h => ?_)
    exact s_lreturn rfl dX11_reads_44 ⟨_, rfl, o_ret h⟩
  · have h := o_if_f c1 h
    refine s_aload_n (i := 0) dX11_reads_11 rfl rfl ?_
    refine s_iload_n (i := 3) dX11_reads_12 rfl rfl ?_
    refine s_callVi (C := mX11_refuses) (As := [.int r1]) (rest := []) (L0 := [some (.ref (o_ad X a0)), some (.int r1)]) hX h0 clX11_139 dX11_reads_13 rfl rfl (Nat.le_of_ble_eq_true rfl) (Nat.le_of_ble_eq_true rfl) (dnX11_refuses hX h0 (o_bdp h)) (fun r3 μ4 h => ?_)
    refine s_i2l dX11_reads_16 ?_
    exact s_lreturn rfl dX11_reads_17 ⟨_, rfl, o_ret h⟩
theorem dX11_isJust_0 : decode cX11_isJust 0 = .ok (.aload_n 0, 1) := by decide +kernel
theorem dX11_isJust_1 : decode cX11_isJust 1 = .ok (.iload_n 1, 1) := by decide +kernel
theorem dX11_isJust_2 : decode cX11_isJust 2 = .ok (.iload_n 2, 1) := by decide +kernel
theorem dX11_isJust_3 : decode cX11_isJust 3 = .ok (.invokevirtual 374, 3) := by decide +kernel
theorem dX11_isJust_6 : decode cX11_isJust 6 = .ok (.istore_n 3, 1) := by decide +kernel
theorem dX11_isJust_7 : decode cX11_isJust 7 = .ok (.iload_n 3, 1) := by decide +kernel
theorem dX11_isJust_8 : decode cX11_isJust 8 = .ok (.ifCond .eq 9, 3) := by decide +kernel
theorem dX11_isJust_11 : decode cX11_isJust 11 = .ok (.aload_n 0, 1) := by decide +kernel
theorem dX11_isJust_12 : decode cX11_isJust 12 = .ok (.iload_n 3, 1) := by decide +kernel
theorem dX11_isJust_13 : decode cX11_isJust 13 = .ok (.invokevirtual 139, 3) := by decide +kernel
theorem dX11_isJust_16 : decode cX11_isJust 16 = .ok (.ireturn, 1) := by decide +kernel
theorem dX11_isJust_17 : decode cX11_isJust 17 = .ok (.aload_n 0, 1) := by decide +kernel
theorem dX11_isJust_18 : decode cX11_isJust 18 = .ok (.aload_n 0, 1) := by decide +kernel
theorem dX11_isJust_19 : decode cX11_isJust 19 = .ok (.getfield 94, 3) := by decide +kernel
theorem dX11_isJust_22 : decode cX11_isJust 22 = .ok (.aload_n 0, 1) := by decide +kernel
theorem dX11_isJust_23 : decode cX11_isJust 23 = .ok (.getfield 23, 3) := by decide +kernel
theorem dX11_isJust_26 : decode cX11_isJust 26 = .ok (.getfield 219, 3) := by decide +kernel
theorem dX11_isJust_29 : decode cX11_isJust 29 = .ok (.aload_n 0, 1) := by decide +kernel
theorem dX11_isJust_30 : decode cX11_isJust 30 = .ok (.getfield 15, 3) := by decide +kernel
theorem dX11_isJust_33 : decode cX11_isJust 33 = .ok (.iload_n 1, 1) := by decide +kernel
theorem dX11_isJust_34 : decode cX11_isJust 34 = .ok (.aaload, 1) := by decide +kernel
theorem dX11_isJust_35 : decode cX11_isJust 35 = .ok (.iload_n 2, 1) := by decide +kernel
theorem dX11_isJust_36 : decode cX11_isJust 36 = .ok (.invokevirtual 381, 3) := by decide +kernel
theorem dX11_isJust_39 : decode cX11_isJust 39 = .ok (.ifCond .eq 7, 3) := by decide +kernel
theorem dX11_isJust_42 : decode cX11_isJust 42 = .ok (.iconst 1, 1) := by decide +kernel
theorem dX11_isJust_43 : decode cX11_isJust 43 = .ok (.goto 4, 3) := by decide +kernel
theorem dX11_isJust_46 : decode cX11_isJust 46 = .ok (.iconst 0, 1) := by decide +kernel
theorem dX11_isJust_47 : decode cX11_isJust 47 = .ok (.invokevirtual 187, 3) := by decide +kernel
theorem dX11_isJust_50 : decode cX11_isJust 50 = .ok (.ireturn, 1) := by decide +kernel
noncomputable def fX11_isJust_j47 (rf : Nat → Nat → Nat) (b0 : Nat) (y1 : Int32) (μ0 : o_Mem) : Option (Int32 × o_Mem) :=
  o_bd (fX11_gives rf b0 y1 μ0) fun r1 μ1 =>
  some (r1, μ1)
noncomputable def fX11_isJust (rf : Nat → Nat → Nat) (a0 : Nat) (x1 : Int32) (x2 : Int32) (μ0 : o_Mem) : Option (Int32 × o_Mem) :=
  o_bd (fX11_strikeRowStatus rf a0 x1 x2 μ0) fun r1 μ1 =>
  if r1 = 0 then (
    o_ck (0 ≤ (x1).toInt ∧ (x1).toInt < 4) <|
    o_bd (fX5_isWhole rf (rf a0 17) (rf (rf a0 4) 16) (rf (rf a0 3) x1.toNatClampNeg) x2 μ1) fun r2 μ2 =>
    if r2 = 0 then (
      fX11_isJust_j47 rf a0 0 μ2)
    else (
      fX11_isJust_j47 rf a0 1 μ2))
  else (
    o_bd (fX11_refuses rf a0 r1 μ1) fun r3 μ3 =>
    some (r3, μ3))
set_option maxRecDepth 20000 in
theorem dnX11_isJust_j47 {X : o_Cx} (hX : o_ok X) {d : Nat} {b0 : Nat} {y1 : Int32} {μ0 : o_Mem} {q : Int32 → o_Mem → Prop} (hb0 : o_is X b0 (.inl 11)) (h : o_Post (fX11_isJust_j47 (o_rf X) b0 y1 μ0) q) : o_Ev X (d + 4) mX11_isJust 47 [none, none, none, none] [.int y1, .ref (o_ad X b0)] μ0 (o_QI q) := by
  unfold fX11_isJust_j47 at h
  refine s_callVi (C := mX11_gives) (As := [.int y1]) (rest := []) (L0 := [some (.ref (o_ad X b0)), some (.int y1)]) hX hb0 clX11_187 dX11_isJust_47 rfl rfl (Nat.le_of_ble_eq_true rfl) (Nat.le_of_ble_eq_true rfl) (dnX11_gives hX hb0 (o_bdp h)) (fun r1 μ1 h => ?_)
  exact s_ireturn rfl dX11_isJust_50 ⟨_, rfl, o_ret h⟩
set_option maxRecDepth 20000 in
theorem dnX11_isJust {X : o_Cx} (hX : o_ok X) {d : Nat} {a0 : Nat} {x1 : Int32} {x2 : Int32} {μ0 : o_Mem} {q : Int32 → o_Mem → Prop} (h0 : o_is X a0 (.inl 11)) (h : o_Post (fX11_isJust (o_rf X) a0 x1 x2 μ0) q) : o_Ev X (d + 4) mX11_isJust 0 [some (.ref (o_ad X a0)), some (.int x1), some (.int x2), none] [] μ0 (o_QI q) := by
  unfold fX11_isJust at h
  refine s_aload_n (i := 0) dX11_isJust_0 rfl rfl ?_
  refine s_iload_n (i := 1) dX11_isJust_1 rfl rfl ?_
  refine s_iload_n (i := 2) dX11_isJust_2 rfl rfl ?_
  refine s_callVi (C := mX11_strikeRowStatus) (As := [.int x1, .int x2]) (rest := []) (L0 := [some (.ref (o_ad X a0)), some (.int x1), some (.int x2), none, none]) hX h0 clX11_374 dX11_isJust_3 rfl rfl (Nat.le_of_ble_eq_true rfl) (Nat.le_of_ble_eq_true rfl) (dnX11_strikeRowStatus hX h0 (o_bdp h)) (fun r1 μ1 h => ?_)
  refine s_istore_n (i := 3) dX11_isJust_6 rfl (Nat.le_of_ble_eq_true rfl) rfl ?_
  refine s_iload_n (i := 3) dX11_isJust_7 rfl rfl ?_
  refine s_if_eq (tgt := 17) dX11_isJust_8 rfl (fun c1 => ?_) (fun c1 => ?_)
  · have h := o_if_t c1 h
    refine s_aload_n (i := 0) dX11_isJust_17 rfl rfl ?_
    refine s_aload_n (i := 0) dX11_isJust_18 rfl rfl ?_
    refine s_getR hX h0 flX11_94 rfl dX11_isJust_19 (fun (g1 : o_is X (o_rf X a0 17) (.inl 5)) => ?_)
    refine s_aload_n (i := 0) dX11_isJust_22 rfl rfl ?_
    refine s_getR hX h0 flX11_23 rfl dX11_isJust_23 (fun (g2 : o_is X (o_rf X a0 4) (.inl 8)) => ?_)
    refine s_getR hX g2 flX11_219 rfl dX11_isJust_26 (fun (g3 : o_is X (o_rf X (o_rf X a0 4) 16) (.inl 1)) => ?_)
    refine s_aload_n (i := 0) dX11_isJust_29 rfl rfl ?_
    refine s_getR hX h0 flX11_15 rfl dX11_isJust_30 (fun (g4 : o_is X (o_rf X a0 3) (.inr (3, 4))) => ?_)
    refine s_iload_n (i := 1) dX11_isJust_33 rfl rfl ?_
    have hc := o_ck_c h
    have h := o_ck_k h
    refine s_aaldK hX g4 (by decide) rfl hc rfl dX11_isJust_34 (fun (g5 : o_is X (o_rf X (o_rf X a0 3) x1.toNatClampNeg) (.inl 7)) => ?_)
    refine s_iload_n (i := 2) dX11_isJust_35 rfl rfl ?_
    refine s_callVz (C := mX5_isWhole) (As := [.ref (o_ad X (o_rf X (o_rf X a0 4) 16)), .ref (o_ad X (o_rf X (o_rf X a0 3) x1.toNatClampNeg)), .int x2]) (rest := [.ref (o_ad X a0)]) (L0 := [some (.ref (o_ad X (o_rf X a0 17))), some (.ref (o_ad X (o_rf X (o_rf X a0 4) 16))), some (.ref (o_ad X (o_rf X (o_rf X a0 3) x1.toNatClampNeg))), some (.int x2), none]) hX g1 clX11_381 dX11_isJust_36 rfl rfl (Nat.le_of_ble_eq_true rfl) (Nat.le_of_ble_eq_true rfl) (dnX5_isWhole hX g1 g3 g5 (o_bdp h)) (fun r2 μ2 zr2 h => ?_)
    refine s_if_eq (tgt := 46) dX11_isJust_39 rfl (fun c1 => ?_) (fun c1 => ?_)
    · have h := o_if_t c1 h
      refine s_iconst dX11_isJust_46 kI_0 ?_
      refine s_mask [false, false, false, false] (L' := [none, none, none, none]) rfl ?_
      exact dnX11_isJust_j47 hX h0 h
    · have h := o_if_f c1 h
      refine s_iconst dX11_isJust_42 kI_1 ?_
      refine s_goto (tgt := 47) dX11_isJust_43 rfl ?_
      refine s_mask [false, false, false, false] (L' := [none, none, none, none]) rfl ?_
      exact dnX11_isJust_j47 hX h0 h
  · have h := o_if_f c1 h
    refine s_aload_n (i := 0) dX11_isJust_11 rfl rfl ?_
    refine s_iload_n (i := 3) dX11_isJust_12 rfl rfl ?_
    refine s_callVi (C := mX11_refuses) (As := [.int r1]) (rest := []) (L0 := [some (.ref (o_ad X a0)), some (.int r1)]) hX h0 clX11_139 dX11_isJust_13 rfl rfl (Nat.le_of_ble_eq_true rfl) (Nat.le_of_ble_eq_true rfl) (dnX11_refuses hX h0 (o_bdp h)) (fun r3 μ3 h => ?_)
    exact s_ireturn rfl dX11_isJust_16 ⟨_, rfl, o_ret h⟩
theorem dX11_copyDay_0 : decode cX11_copyDay 0 = .ok (.aload_n 0, 1) := by decide +kernel
theorem dX11_copyDay_1 : decode cX11_copyDay 1 = .ok (.iload_n 1, 1) := by decide +kernel
theorem dX11_copyDay_2 : decode cX11_copyDay 2 = .ok (.aload_n 0, 1) := by decide +kernel
theorem dX11_copyDay_3 : decode cX11_copyDay 3 = .ok (.getfield 23, 3) := by decide +kernel
theorem dX11_copyDay_6 : decode cX11_copyDay 6 = .ok (.getfield 219, 3) := by decide +kernel
theorem dX11_copyDay_9 : decode cX11_copyDay 9 = .ok (.getfield 216, 3) := by decide +kernel
theorem dX11_copyDay_12 : decode cX11_copyDay 12 = .ok (.invokevirtual 385, 3) := by decide +kernel
theorem dX11_copyDay_15 : decode cX11_copyDay 15 = .ok (.istore_n 2, 1) := by decide +kernel
theorem dX11_copyDay_16 : decode cX11_copyDay 16 = .ok (.iload_n 2, 1) := by decide +kernel
theorem dX11_copyDay_17 : decode cX11_copyDay 17 = .ok (.ifCond .eq 9, 3) := by decide +kernel
theorem dX11_copyDay_20 : decode cX11_copyDay 20 = .ok (.aload_n 0, 1) := by decide +kernel
theorem dX11_copyDay_21 : decode cX11_copyDay 21 = .ok (.iload_n 2, 1) := by decide +kernel
theorem dX11_copyDay_22 : decode cX11_copyDay 22 = .ok (.invokevirtual 139, 3) := by decide +kernel
theorem dX11_copyDay_25 : decode cX11_copyDay 25 = .ok (.ireturn, 1) := by decide +kernel
theorem dX11_copyDay_26 : decode cX11_copyDay 26 = .ok (.iconst 0, 1) := by decide +kernel
theorem dX11_copyDay_27 : decode cX11_copyDay 27 = .ok (.istore_n 3, 1) := by decide +kernel
theorem dX11_copyDay_28 : decode cX11_copyDay 28 = .ok (.iload_n 3, 1) := by decide +kernel
theorem dX11_copyDay_29 : decode cX11_copyDay 29 = .ok (.aload_n 0, 1) := by decide +kernel
theorem dX11_copyDay_30 : decode cX11_copyDay 30 = .ok (.getfield 23, 3) := by decide +kernel
theorem dX11_copyDay_33 : decode cX11_copyDay 33 = .ok (.getfield 219, 3) := by decide +kernel
theorem dX11_copyDay_36 : decode cX11_copyDay 36 = .ok (.getfield 216, 3) := by decide +kernel
theorem dX11_copyDay_39 : decode cX11_copyDay 39 = .ok (.if_icmp .ge 32, 3) := by decide +kernel
theorem dX11_copyDay_42 : decode cX11_copyDay 42 = .ok (.aload_n 0, 1) := by decide +kernel
theorem dX11_copyDay_43 : decode cX11_copyDay 43 = .ok (.getfield 15, 3) := by decide +kernel
theorem dX11_copyDay_46 : decode cX11_copyDay 46 = .ok (.iload_n 1, 1) := by decide +kernel
theorem dX11_copyDay_47 : decode cX11_copyDay 47 = .ok (.aaload, 1) := by decide +kernel
theorem dX11_copyDay_48 : decode cX11_copyDay 48 = .ok (.iload_n 3, 1) := by decide +kernel
theorem dX11_copyDay_49 : decode cX11_copyDay 49 = .ok (.aload_n 0, 1) := by decide +kernel
theorem dX11_copyDay_50 : decode cX11_copyDay 50 = .ok (.getfield 23, 3) := by decide +kernel
theorem dX11_copyDay_53 : decode cX11_copyDay 53 = .ok (.getfield 219, 3) := by decide +kernel
theorem dX11_copyDay_56 : decode cX11_copyDay 56 = .ok (.getfield 388, 3) := by decide +kernel
theorem dX11_copyDay_59 : decode cX11_copyDay 59 = .ok (.iload_n 3, 1) := by decide +kernel
theorem dX11_copyDay_60 : decode cX11_copyDay 60 = .ok (.iaload, 1) := by decide +kernel
theorem dX11_copyDay_61 : decode cX11_copyDay 61 = .ok (.i2l, 1) := by decide +kernel
theorem dX11_copyDay_62 : decode cX11_copyDay 62 = .ok (.invokevirtual 135, 3) := by decide +kernel
theorem dX11_copyDay_65 : decode cX11_copyDay 65 = .ok (.iinc 3 1, 3) := by decide +kernel
theorem dX11_copyDay_68 : decode cX11_copyDay 68 = .ok (.goto (-40), 3) := by decide +kernel
theorem dX11_copyDay_71 : decode cX11_copyDay 71 = .ok (.aload_n 0, 1) := by decide +kernel
theorem dX11_copyDay_72 : decode cX11_copyDay 72 = .ok (.aload_n 0, 1) := by decide +kernel
theorem dX11_copyDay_73 : decode cX11_copyDay 73 = .ok (.getfield 23, 3) := by decide +kernel
theorem dX11_copyDay_76 : decode cX11_copyDay 76 = .ok (.getfield 219, 3) := by decide +kernel
theorem dX11_copyDay_79 : decode cX11_copyDay 79 = .ok (.getfield 216, 3) := by decide +kernel
theorem dX11_copyDay_82 : decode cX11_copyDay 82 = .ok (.invokevirtual 187, 3) := by decide +kernel
theorem dX11_copyDay_85 : decode cX11_copyDay 85 = .ok (.ireturn, 1) := by decide +kernel
noncomputable def fX11_copyDay_s28 (rf : Nat → Nat → Nat) (a0 : Nat) (x1 : Int32) (τ28 : Int32) (μ0 : o_Mem) : Option ((Nat × (Int32)) × o_Mem) :=
  if (μ0.1 (rf (rf a0 4) 16) 0) ≤ τ28 then (
    some ((71, 0), μ0))
  else (
    o_ck (0 ≤ (x1).toInt ∧ (x1).toInt < 4) <|
    o_ck (0 ≤ (τ28).toInt ∧ (τ28).toInt < 12) <|
    o_bd (fX7_put rf (rf (rf a0 3) x1.toNatClampNeg) τ28 ((μ0.1 (rf (rf (rf a0 4) 16) 5) τ28.toNatClampNeg).toInt64) μ0) fun _u μ1 =>
    some ((28, (τ28 + 1)), μ1))
noncomputable def fX11_copyDay (rf : Nat → Nat → Nat) (a0 : Nat) (x1 : Int32) (μ0 : o_Mem) : Option (Int32 × o_Mem) :=
  o_bd (fX11_rowStatus rf a0 x1 (μ0.1 (rf (rf a0 4) 16) 0) μ0) fun r1 μ1 =>
  if r1 = 0 then (
    o_bd (o_lp 28 (fX11_copyDay_s28 rf a0 x1) o_fuel (0 : Int32) μ1) fun ex2 μ2 =>
    if ex2.1 = 71 then (
      o_bd (fX11_gives rf a0 (μ2.1 (rf (rf a0 4) 16) 0) μ2) fun r2 μ3 =>
      some (r2, μ3))
    else
      none)
  else (
    o_bd (fX11_refuses rf a0 r1 μ1) fun r3 μ4 =>
    some (r3, μ4))
set_option maxRecDepth 20000 in
theorem dnX11_copyDay_s28 {X : o_Cx} (hX : o_ok X) {d : Nat} {a0 : Nat} {x1 : Int32} {τ28 : Int32} {μ0 : o_Mem} {K : (Nat × (Int32)) → o_Mem → Prop} {Q : Option Value → o_Mem → Prop} (h0 : o_is X a0 (.inl 11)) (h : o_Post (fX11_copyDay_s28 (o_rf X) a0 x1 τ28 μ0) K) (kh : ∀ (τ28 : Int32) (μ : o_Mem), K (28, τ28) μ → o_Ev X (d + 3) mX11_copyDay 28 [some (.ref (o_ad X a0)), some (.int x1), none, some (.int τ28)] [] μ Q) (k71 : ∀ (τ28 : Int32) (μ : o_Mem), K (71, τ28) μ → o_Ev X (d + 3) mX11_copyDay 71 [some (.ref (o_ad X a0)), none, none, none] [] μ Q) : o_Ev X (d + 3) mX11_copyDay 28 [some (.ref (o_ad X a0)), some (.int x1), none, some (.int τ28)] [] μ0 Q := by
  unfold fX11_copyDay_s28 at h
  refine s_iload_n (i := 3) dX11_copyDay_28 rfl rfl ?_
  refine s_aload_n (i := 0) dX11_copyDay_29 rfl rfl ?_
  refine s_getR hX h0 flX11_23 rfl dX11_copyDay_30 (fun (g1 : o_is X (o_rf X a0 4) (.inl 8)) => ?_)
  refine s_getR hX g1 flX11_219 rfl dX11_copyDay_33 (fun (g2 : o_is X (o_rf X (o_rf X a0 4) 16) (.inl 1)) => ?_)
  refine s_getI g2 flX11_216 rfl dX11_copyDay_36 ?_
  refine s_icmp_ge (tgt := 71) dX11_copyDay_39 rfl (fun c1 => ?_) (fun c1 => ?_)
  · have h := o_if_t c1 h
    refine s_mask [true, false, false, false] (L' := [some (.ref (o_ad X a0)), none, none, none]) rfl ?_
    exact k71 0 _ (o_ret h)
  · have h := o_if_f c1 h
    refine s_aload_n (i := 0) dX11_copyDay_42 rfl rfl ?_
    refine s_getR hX h0 flX11_15 rfl dX11_copyDay_43 (fun (g3 : o_is X (o_rf X a0 3) (.inr (3, 4))) => ?_)
    refine s_iload_n (i := 1) dX11_copyDay_46 rfl rfl ?_
    have hc := o_ck_c h
    have h := o_ck_k h
    refine s_aaldK hX g3 (by decide) rfl hc rfl dX11_copyDay_47 (fun (g4 : o_is X (o_rf X (o_rf X a0 3) x1.toNatClampNeg) (.inl 7)) => ?_)
    refine s_iload_n (i := 3) dX11_copyDay_48 rfl rfl ?_
    refine s_aload_n (i := 0) dX11_copyDay_49 rfl rfl ?_
    refine s_getR hX h0 flX11_23 rfl dX11_copyDay_50 (fun (g5 : o_is X (o_rf X a0 4) (.inl 8)) => ?_)
    refine s_getR hX g5 flX11_219 rfl dX11_copyDay_53 (fun (g6 : o_is X (o_rf X (o_rf X a0 4) 16) (.inl 1)) => ?_)
    refine s_getR hX g6 flX11_388 rfl dX11_copyDay_56 (fun (g7 : o_is X (o_rf X (o_rf X (o_rf X a0 4) 16) 5) (.inr (0, 12))) => ?_)
    refine s_iload_n (i := 3) dX11_copyDay_59 rfl rfl ?_
    have hc := o_ck_c h
    have h := o_ck_k h
    refine s_ialdK g7 hc rfl dX11_copyDay_60 ?_
    refine s_i2l dX11_copyDay_61 ?_
    refine s_callVu (C := mX7_put) (As := [.int τ28, .long ((μ0.1 (o_rf X (o_rf X (o_rf X a0 4) 16) 5) τ28.toNatClampNeg).toInt64)]) (rest := []) (L0 := [some (.ref (o_ad X (o_rf X (o_rf X a0 3) x1.toNatClampNeg))), some (.int τ28), some (.long ((μ0.1 (o_rf X (o_rf X (o_rf X a0 4) 16) 5) τ28.toNatClampNeg).toInt64)), none]) hX g4 clX11_135 dX11_copyDay_62 rfl rfl (Nat.le_of_ble_eq_true rfl) (Nat.le_of_ble_eq_true rfl) (dnX7_put hX g4 (o_bdp h)) (fun _u μ1 h => ?_)
    refine s_iinc (v := (τ28 + 1)) dX11_copyDay_65 rfl rfl (Nat.le_of_ble_eq_true rfl) rfl ?_
    refine s_goto (tgt := 28) dX11_copyDay_68 rfl ?_
    refine s_mask [true, true, false, true] (L' := [some (.ref (o_ad X a0)), some (.int x1), none, some (.int (τ28 + 1))]) rfl ?_
    exact kh (τ28 + 1) _ (o_ret h)
set_option maxRecDepth 20000 in
theorem dnX11_copyDay {X : o_Cx} (hX : o_ok X) {d : Nat} {a0 : Nat} {x1 : Int32} {μ0 : o_Mem} {q : Int32 → o_Mem → Prop} (h0 : o_is X a0 (.inl 11)) (h : o_Post (fX11_copyDay (o_rf X) a0 x1 μ0) q) : o_Ev X (d + 3) mX11_copyDay 0 [some (.ref (o_ad X a0)), some (.int x1), none, none] [] μ0 (o_QI q) := by
  unfold fX11_copyDay at h
  refine s_aload_n (i := 0) dX11_copyDay_0 rfl rfl ?_
  refine s_iload_n (i := 1) dX11_copyDay_1 rfl rfl ?_
  refine s_aload_n (i := 0) dX11_copyDay_2 rfl rfl ?_
  refine s_getR hX h0 flX11_23 rfl dX11_copyDay_3 (fun (g1 : o_is X (o_rf X a0 4) (.inl 8)) => ?_)
  refine s_getR hX g1 flX11_219 rfl dX11_copyDay_6 (fun (g2 : o_is X (o_rf X (o_rf X a0 4) 16) (.inl 1)) => ?_)
  refine s_getI g2 flX11_216 rfl dX11_copyDay_9 ?_
  refine s_callVi (C := mX11_rowStatus) (As := [.int x1, .int (μ0.1 (o_rf X (o_rf X a0 4) 16) 0)]) (rest := []) (L0 := [some (.ref (o_ad X a0)), some (.int x1), some (.int (μ0.1 (o_rf X (o_rf X a0 4) 16) 0))]) hX h0 clX11_385 dX11_copyDay_12 rfl rfl (Nat.le_of_ble_eq_true rfl) (Nat.le_of_ble_eq_true rfl) (dnX11_rowStatus hX h0 (o_bdp h)) (fun r1 μ1 h => ?_)
  refine s_istore_n (i := 2) dX11_copyDay_15 rfl (Nat.le_of_ble_eq_true rfl) rfl ?_
  refine s_iload_n (i := 2) dX11_copyDay_16 rfl rfl ?_
  refine s_if_eq (tgt := 26) dX11_copyDay_17 rfl (fun c1 => ?_) (fun c1 => ?_)
  · have h := o_if_t c1 h
    refine s_iconst dX11_copyDay_26 kI_0 ?_
    refine s_istore_n (i := 3) dX11_copyDay_27 rfl (Nat.le_of_ble_eq_true rfl) rfl ?_
    refine s_mask [true, true, false, true] (L' := [some (.ref (o_ad X a0)), some (.int x1), none, some (.int 0)]) rfl ?_
    refine o_lp_ev (fun τ28 => [some (.ref (o_ad X a0)), some (.int x1), none, some (.int τ28)]) (fun τ28 μ _K h kv ke28 => dnX11_copyDay_s28 hX h0 h kv (fun τ28 μ2 h => ?_)) o_fuel 0 μ1 (o_bdp h)
    · have h := o_if_t rfl (ke28 (71, τ28) μ2 (o_ne rfl) h)
      refine s_aload_n (i := 0) dX11_copyDay_71 rfl rfl ?_
      refine s_aload_n (i := 0) dX11_copyDay_72 rfl rfl ?_
      refine s_getR hX h0 flX11_23 rfl dX11_copyDay_73 (fun (g3 : o_is X (o_rf X a0 4) (.inl 8)) => ?_)
      refine s_getR hX g3 flX11_219 rfl dX11_copyDay_76 (fun (g4 : o_is X (o_rf X (o_rf X a0 4) 16) (.inl 1)) => ?_)
      refine s_getI g4 flX11_216 rfl dX11_copyDay_79 ?_
      refine s_callVi (C := mX11_gives) (As := [.int (μ2.1 (o_rf X (o_rf X a0 4) 16) 0)]) (rest := []) (L0 := [some (.ref (o_ad X a0)), some (.int (μ2.1 (o_rf X (o_rf X a0 4) 16) 0))]) hX h0 clX11_187 dX11_copyDay_82 rfl rfl (Nat.le_of_ble_eq_true rfl) (Nat.le_of_ble_eq_true rfl) (dnX11_gives hX h0 (o_bdp h)) (fun r2 μ3 h => ?_)
      exact s_ireturn rfl dX11_copyDay_85 ⟨_, rfl, o_ret h⟩
  · have h := o_if_f c1 h
    refine s_aload_n (i := 0) dX11_copyDay_20 rfl rfl ?_
    refine s_iload_n (i := 2) dX11_copyDay_21 rfl rfl ?_
    refine s_callVi (C := mX11_refuses) (As := [.int r1]) (rest := []) (L0 := [some (.ref (o_ad X a0)), some (.int r1)]) hX h0 clX11_139 dX11_copyDay_22 rfl rfl (Nat.le_of_ble_eq_true rfl) (Nat.le_of_ble_eq_true rfl) (dnX11_refuses hX h0 (o_bdp h)) (fun r3 μ4 h => ?_)
    exact s_ireturn rfl dX11_copyDay_25 ⟨_, rfl, o_ret h⟩
