theorem dX12_oldOne_0 : decode cX12_oldOne 0 = .ok (.aload_n 0, 1) := by decide +kernel
theorem dX12_oldOne_1 : decode cX12_oldOne 1 = .ok (.ldc 180, 2) := by decide +kernel
theorem dX12_oldOne_3 : decode cX12_oldOne 3 = .ok (.invokevirtual 182, 3) := by decide +kernel
theorem dX12_oldOne_6 : decode cX12_oldOne 6 = .ok (.ifCond .ne 9, 3) := by decide +kernel
theorem dX12_oldOne_9 : decode cX12_oldOne 9 = .ok (.aload_n 0, 1) := by decide +kernel
theorem dX12_oldOne_10 : decode cX12_oldOne 10 = .ok (.iconst 2, 1) := by decide +kernel
theorem dX12_oldOne_11 : decode cX12_oldOne 11 = .ok (.invokevirtual 169, 3) := by decide +kernel
theorem dX12_oldOne_14 : decode cX12_oldOne 14 = .ok (.ireturn, 1) := by decide +kernel
theorem dX12_oldOne_15 : decode cX12_oldOne 15 = .ok (.aload_n 0, 1) := by decide +kernel
theorem dX12_oldOne_16 : decode cX12_oldOne 16 = .ok (.getfield 7, 3) := by decide +kernel
theorem dX12_oldOne_19 : decode cX12_oldOne 19 = .ok (.iload_n 3, 1) := by decide +kernel
theorem dX12_oldOne_20 : decode cX12_oldOne 20 = .ok (.aload_n 0, 1) := by decide +kernel
theorem dX12_oldOne_21 : decode cX12_oldOne 21 = .ok (.iload_n 1, 1) := by decide +kernel
theorem dX12_oldOne_22 : decode cX12_oldOne 22 = .ok (.iload_n 2, 1) := by decide +kernel
theorem dX12_oldOne_23 : decode cX12_oldOne 23 = .ok (.invokevirtual 186, 3) := by decide +kernel
theorem dX12_oldOne_26 : decode cX12_oldOne 26 = .ok (.iastore, 1) := by decide +kernel
theorem dX12_oldOne_27 : decode cX12_oldOne 27 = .ok (.aload_n 0, 1) := by decide +kernel
theorem dX12_oldOne_28 : decode cX12_oldOne 28 = .ok (.getfield 7, 3) := by decide +kernel
theorem dX12_oldOne_31 : decode cX12_oldOne 31 = .ok (.iload_n 3, 1) := by decide +kernel
theorem dX12_oldOne_32 : decode cX12_oldOne 32 = .ok (.iaload, 1) := by decide +kernel
theorem dX12_oldOne_33 : decode cX12_oldOne 33 = .ok (.iconst (-1), 1) := by decide +kernel
theorem dX12_oldOne_34 : decode cX12_oldOne 34 = .ok (.if_icmp .ne 9, 3) := by decide +kernel
theorem dX12_oldOne_37 : decode cX12_oldOne 37 = .ok (.aload_n 0, 1) := by decide +kernel
theorem dX12_oldOne_38 : decode cX12_oldOne 38 = .ok (.iconst 3, 1) := by decide +kernel
theorem dX12_oldOne_39 : decode cX12_oldOne 39 = .ok (.invokevirtual 169, 3) := by decide +kernel
theorem dX12_oldOne_42 : decode cX12_oldOne 42 = .ok (.ireturn, 1) := by decide +kernel
theorem dX12_oldOne_43 : decode cX12_oldOne 43 = .ok (.aload_n 0, 1) := by decide +kernel
theorem dX12_oldOne_44 : decode cX12_oldOne 44 = .ok (.invokevirtual 163, 3) := by decide +kernel
theorem dX12_oldOne_47 : decode cX12_oldOne 47 = .ok (.iconst 1, 1) := by decide +kernel
theorem dX12_oldOne_48 : decode cX12_oldOne 48 = .ok (.ireturn, 1) := by decide +kernel
noncomputable def fX12_oldOne (rf : Nat → Nat → Nat) (a0 : Nat) (x1 : Int32) (x2 : Int32) (x3 : Int32) (μ0 : o_Mem) : Option (Int32 × o_Mem) :=
  o_bd (fX12_isName rf a0 μ0) fun r1 μ1 =>
  if r1 = 0 then (
    o_bd (fX12_fails rf a0 2 μ1) fun r4 μ6 =>
    some (r4, μ6))
  else (
    o_bd (fX12_findHere rf a0 x1 x2 μ1) fun r2 μ2 =>
    o_ck (0 ≤ (x3).toInt ∧ (x3).toInt < 3756) <|
    o_seq (o_wI μ2 (rf a0 0) x3.toNatClampNeg r2) fun μ3 =>
    o_ck (0 ≤ (x3).toInt ∧ (x3).toInt < 3756) <|
    if (μ3.1 (rf a0 0) x3.toNatClampNeg) = (-1) then (
      o_bd (fX12_fails rf a0 3 μ3) fun r3 μ5 =>
      some (r3, μ5))
    else (
      o_bd (fX12_ahead rf a0 μ3) fun _u μ4 =>
      some (1, μ4)))
set_option maxRecDepth 20000 in
theorem dnX12_oldOne {X : o_Cx} (hX : o_ok X) {d : Nat} {a0 : Nat} {x1 : Int32} {x2 : Int32} {x3 : Int32} {μ0 : o_Mem} {q : Int32 → o_Mem → Prop} (h0 : o_is X a0 (.inl 12)) (h : o_Post (fX12_oldOne (o_rf X) a0 x1 x2 x3 μ0) q) : o_Ev X (d + 6) mX12_oldOne 0 [some (.ref (o_ad X a0)), some (.int x1), some (.int x2), some (.int x3)] [] μ0 (o_QZ q) := by
  unfold fX12_oldOne at h
  refine s_aload_n (i := 0) dX12_oldOne_0 rfl rfl ?_
  refine s_ldcS1 rfl dX12_oldOne_1 ?_
  refine s_callVz (C := mX12_isName) (As := [.ref (o_aK X 1)]) (rest := []) (L0 := [some (.ref (o_ad X a0)), some (.ref (o_aK X 1))]) hX h0 clX12_182 dX12_oldOne_3 rfl rfl (Nat.le_of_ble_eq_true rfl) (Nat.le_of_ble_eq_true rfl) (dnX12_isName hX h0 (o_bdp h)) (fun r1 μ1 zr1 h => ?_)
  refine s_if_ne (tgt := 15) dX12_oldOne_6 rfl (fun c1 => ?_) (fun c1 => ?_)
  · have h := o_if_f c1 h
    refine s_aload_n (i := 0) dX12_oldOne_15 rfl rfl ?_
    refine s_getR hX h0 flX12_7 rfl dX12_oldOne_16 (fun (g1 : o_is X (o_rf X a0 0) (.inr (0, 3756))) => ?_)
    refine s_iload_n (i := 3) dX12_oldOne_19 rfl rfl ?_
    refine s_aload_n (i := 0) dX12_oldOne_20 rfl rfl ?_
    refine s_iload_n (i := 1) dX12_oldOne_21 rfl rfl ?_
    refine s_iload_n (i := 2) dX12_oldOne_22 rfl rfl ?_
    refine s_callVi (C := mX12_findHere) (As := [.int x1, .int x2]) (rest := [.int x3, .ref (o_ad X (o_rf X a0 0))]) (L0 := [some (.ref (o_ad X a0)), some (.int x1), some (.int x2), none]) hX h0 clX12_186 dX12_oldOne_23 rfl rfl (Nat.le_of_ble_eq_true rfl) (Nat.le_of_ble_eq_true rfl) (dnX12_findHere hX h0 (o_bdp h)) (fun r2 μ2 h => ?_)
    have hc := o_ck_c h
    have h := o_ck_k h
    refine s_iastK hX g1 hc rfl dX12_oldOne_26 (o_gen h (fun μ3 h => ?_))
    refine s_aload_n (i := 0) dX12_oldOne_27 rfl rfl ?_
    refine s_getR hX h0 flX12_7 rfl dX12_oldOne_28 (fun (g2 : o_is X (o_rf X a0 0) (.inr (0, 3756))) => ?_)
    refine s_iload_n (i := 3) dX12_oldOne_31 rfl rfl ?_
    have hc := o_ck_c h
    have h := o_ck_k h
    refine s_ialdK g2 hc rfl dX12_oldOne_32 ?_
    refine s_iconst dX12_oldOne_33 kI_m1 ?_
    refine s_icmp_ne (tgt := 43) dX12_oldOne_34 rfl (fun c1 => ?_) (fun c1 => ?_)
    · have h := o_if_f c1 h
      refine s_aload_n (i := 0) dX12_oldOne_43 rfl rfl ?_
      refine s_callVu (C := mX12_ahead) (As := []) (rest := []) (L0 := [some (.ref (o_ad X a0)), none]) hX h0 clX12_163 dX12_oldOne_44 rfl rfl (Nat.le_of_ble_eq_true rfl) (Nat.le_of_ble_eq_true rfl) (dnX12_ahead hX h0 (o_bdp h)) (fun _u μ4 h => ?_)
      refine s_iconst dX12_oldOne_47 kI_1 ?_
      exact s_zreturn rfl (Or.inr rfl) dX12_oldOne_48 ⟨_, rfl, (Or.inr rfl), o_ret h⟩
    · have h := o_if_t c1 h
      refine s_aload_n (i := 0) dX12_oldOne_37 rfl rfl ?_
      refine s_iconst dX12_oldOne_38 kI_3 ?_
      refine s_callVz (C := mX12_fails) (As := [.int 3]) (rest := []) (L0 := [some (.ref (o_ad X a0)), some (.int 3)]) hX h0 clX12_169 dX12_oldOne_39 rfl rfl (Nat.le_of_ble_eq_true rfl) (Nat.le_of_ble_eq_true rfl) (dnX12_fails hX h0 (o_bdp h)) (fun r3 μ5 zr3 h => ?_)
      exact s_zreturn rfl zr3 dX12_oldOne_42 ⟨_, rfl, zr3, o_ret h⟩
  · have h := o_if_t c1 h
    refine s_aload_n (i := 0) dX12_oldOne_9 rfl rfl ?_
    refine s_iconst dX12_oldOne_10 kI_2 ?_
    refine s_callVz (C := mX12_fails) (As := [.int 2]) (rest := []) (L0 := [some (.ref (o_ad X a0)), some (.int 2)]) hX h0 clX12_169 dX12_oldOne_11 rfl rfl (Nat.le_of_ble_eq_true rfl) (Nat.le_of_ble_eq_true rfl) (dnX12_fails hX h0 (o_bdp h)) (fun r4 μ6 zr4 h => ?_)
    exact s_zreturn rfl zr4 dX12_oldOne_14 ⟨_, rfl, zr4, o_ret h⟩
theorem dX12_strikeTo_0 : decode cX12_strikeTo 0 = .ok (.aload_n 0, 1) := by decide +kernel
theorem dX12_strikeTo_1 : decode cX12_strikeTo 1 = .ok (.bipush 64, 2) := by decide +kernel
theorem dX12_strikeTo_3 : decode cX12_strikeTo 3 = .ok (.aload_n 0, 1) := by decide +kernel
theorem dX12_strikeTo_4 : decode cX12_strikeTo 4 = .ok (.getfield 7, 3) := by decide +kernel
theorem dX12_strikeTo_7 : decode cX12_strikeTo 7 = .ok (.sipush 2504, 3) := by decide +kernel
theorem dX12_strikeTo_10 : decode cX12_strikeTo 10 = .ok (.iaload, 1) := by decide +kernel
theorem dX12_strikeTo_11 : decode cX12_strikeTo 11 = .ok (.iload_n 1, 1) := by decide +kernel
theorem dX12_strikeTo_12 : decode cX12_strikeTo 12 = .ok (.invokevirtual 189, 3) := by decide +kernel
theorem dX12_strikeTo_15 : decode cX12_strikeTo 15 = .ok (.ireturn, 1) := by decide +kernel
noncomputable def fX12_strikeTo (rf : Nat → Nat → Nat) (a0 : Nat) (x1 : Int32) (μ0 : o_Mem) : Option (Int32 × o_Mem) :=
  o_bd (fX12_oldOne rf a0 64 (μ0.1 (rf a0 0) 2504) x1 μ0) fun r1 μ1 =>
  some (r1, μ1)
set_option maxRecDepth 20000 in
theorem dnX12_strikeTo {X : o_Cx} (hX : o_ok X) {d : Nat} {a0 : Nat} {x1 : Int32} {μ0 : o_Mem} {q : Int32 → o_Mem → Prop} (h0 : o_is X a0 (.inl 12)) (h : o_Post (fX12_strikeTo (o_rf X) a0 x1 μ0) q) : o_Ev X (d + 7) mX12_strikeTo 0 [some (.ref (o_ad X a0)), some (.int x1)] [] μ0 (o_QZ q) := by
  unfold fX12_strikeTo at h
  refine s_aload_n (i := 0) dX12_strikeTo_0 rfl rfl ?_
  refine s_bipush dX12_strikeTo_1 kB_64 ?_
  refine s_aload_n (i := 0) dX12_strikeTo_3 rfl rfl ?_
  refine s_getR hX h0 flX12_7 rfl dX12_strikeTo_4 (fun (g1 : o_is X (o_rf X a0 0) (.inr (0, 3756))) => ?_)
  refine s_sipush dX12_strikeTo_7 kS_2504 ?_
  refine s_ialdK g1 ⟨by decide, by decide⟩ kN_2504 dX12_strikeTo_10 ?_
  refine s_iload_n (i := 1) dX12_strikeTo_11 rfl rfl ?_
  refine s_callVz (C := mX12_oldOne) (As := [.int 64, .int (μ0.1 (o_rf X a0 0) 2504), .int x1]) (rest := []) (L0 := [some (.ref (o_ad X a0)), some (.int 64), some (.int (μ0.1 (o_rf X a0 0) 2504)), some (.int x1)]) hX h0 clX12_189 dX12_strikeTo_12 rfl rfl (Nat.le_of_ble_eq_true rfl) (Nat.le_of_ble_eq_true rfl) (dnX12_oldOne hX h0 (o_bdp h)) (fun r1 μ1 zr1 h => ?_)
  exact s_zreturn rfl zr1 dX12_strikeTo_15 ⟨_, rfl, zr1, o_ret h⟩
theorem dX12_handTo_0 : decode cX12_handTo 0 = .ok (.aload_n 0, 1) := by decide +kernel
theorem dX12_handTo_1 : decode cX12_handTo 1 = .ok (.bipush 70, 2) := by decide +kernel
theorem dX12_handTo_3 : decode cX12_handTo 3 = .ok (.aload_n 0, 1) := by decide +kernel
theorem dX12_handTo_4 : decode cX12_handTo 4 = .ok (.getfield 7, 3) := by decide +kernel
theorem dX12_handTo_7 : decode cX12_handTo 7 = .ok (.sipush 2505, 3) := by decide +kernel
theorem dX12_handTo_10 : decode cX12_handTo 10 = .ok (.iaload, 1) := by decide +kernel
theorem dX12_handTo_11 : decode cX12_handTo 11 = .ok (.iload_n 1, 1) := by decide +kernel
theorem dX12_handTo_12 : decode cX12_handTo 12 = .ok (.invokevirtual 189, 3) := by decide +kernel
theorem dX12_handTo_15 : decode cX12_handTo 15 = .ok (.ireturn, 1) := by decide +kernel
noncomputable def fX12_handTo (rf : Nat → Nat → Nat) (a0 : Nat) (x1 : Int32) (μ0 : o_Mem) : Option (Int32 × o_Mem) :=
  o_bd (fX12_oldOne rf a0 70 (μ0.1 (rf a0 0) 2505) x1 μ0) fun r1 μ1 =>
  some (r1, μ1)
set_option maxRecDepth 20000 in
theorem dnX12_handTo {X : o_Cx} (hX : o_ok X) {d : Nat} {a0 : Nat} {x1 : Int32} {μ0 : o_Mem} {q : Int32 → o_Mem → Prop} (h0 : o_is X a0 (.inl 12)) (h : o_Post (fX12_handTo (o_rf X) a0 x1 μ0) q) : o_Ev X (d + 7) mX12_handTo 0 [some (.ref (o_ad X a0)), some (.int x1)] [] μ0 (o_QZ q) := by
  unfold fX12_handTo at h
  refine s_aload_n (i := 0) dX12_handTo_0 rfl rfl ?_
  refine s_bipush dX12_handTo_1 kB_70 ?_
  refine s_aload_n (i := 0) dX12_handTo_3 rfl rfl ?_
  refine s_getR hX h0 flX12_7 rfl dX12_handTo_4 (fun (g1 : o_is X (o_rf X a0 0) (.inr (0, 3756))) => ?_)
  refine s_sipush dX12_handTo_7 kS_2505 ?_
  refine s_ialdK g1 ⟨by decide, by decide⟩ kN_2505 dX12_handTo_10 ?_
  refine s_iload_n (i := 1) dX12_handTo_11 rfl rfl ?_
  refine s_callVz (C := mX12_oldOne) (As := [.int 70, .int (μ0.1 (o_rf X a0 0) 2505), .int x1]) (rest := []) (L0 := [some (.ref (o_ad X a0)), some (.int 70), some (.int (μ0.1 (o_rf X a0 0) 2505)), some (.int x1)]) hX h0 clX12_189 dX12_handTo_12 rfl rfl (Nat.le_of_ble_eq_true rfl) (Nat.le_of_ble_eq_true rfl) (dnX12_oldOne hX h0 (o_bdp h)) (fun r1 μ1 zr1 h => ?_)
  exact s_zreturn rfl zr1 dX12_handTo_15 ⟨_, rfl, zr1, o_ret h⟩
theorem dX12_personTo_0 : decode cX12_personTo 0 = .ok (.aload_n 0, 1) := by decide +kernel
theorem dX12_personTo_1 : decode cX12_personTo 1 = .ok (.bipush 74, 2) := by decide +kernel
theorem dX12_personTo_3 : decode cX12_personTo 3 = .ok (.aload_n 0, 1) := by decide +kernel
theorem dX12_personTo_4 : decode cX12_personTo 4 = .ok (.getfield 7, 3) := by decide +kernel
theorem dX12_personTo_7 : decode cX12_personTo 7 = .ok (.sipush 2506, 3) := by decide +kernel
theorem dX12_personTo_10 : decode cX12_personTo 10 = .ok (.iaload, 1) := by decide +kernel
theorem dX12_personTo_11 : decode cX12_personTo 11 = .ok (.iload_n 1, 1) := by decide +kernel
theorem dX12_personTo_12 : decode cX12_personTo 12 = .ok (.invokevirtual 189, 3) := by decide +kernel
theorem dX12_personTo_15 : decode cX12_personTo 15 = .ok (.ireturn, 1) := by decide +kernel
noncomputable def fX12_personTo (rf : Nat → Nat → Nat) (a0 : Nat) (x1 : Int32) (μ0 : o_Mem) : Option (Int32 × o_Mem) :=
  o_bd (fX12_oldOne rf a0 74 (μ0.1 (rf a0 0) 2506) x1 μ0) fun r1 μ1 =>
  some (r1, μ1)
set_option maxRecDepth 20000 in
theorem dnX12_personTo {X : o_Cx} (hX : o_ok X) {d : Nat} {a0 : Nat} {x1 : Int32} {μ0 : o_Mem} {q : Int32 → o_Mem → Prop} (h0 : o_is X a0 (.inl 12)) (h : o_Post (fX12_personTo (o_rf X) a0 x1 μ0) q) : o_Ev X (d + 7) mX12_personTo 0 [some (.ref (o_ad X a0)), some (.int x1)] [] μ0 (o_QZ q) := by
  unfold fX12_personTo at h
  refine s_aload_n (i := 0) dX12_personTo_0 rfl rfl ?_
  refine s_bipush dX12_personTo_1 kB_74 ?_
  refine s_aload_n (i := 0) dX12_personTo_3 rfl rfl ?_
  refine s_getR hX h0 flX12_7 rfl dX12_personTo_4 (fun (g1 : o_is X (o_rf X a0 0) (.inr (0, 3756))) => ?_)
  refine s_sipush dX12_personTo_7 kS_2506 ?_
  refine s_ialdK g1 ⟨by decide, by decide⟩ kN_2506 dX12_personTo_10 ?_
  refine s_iload_n (i := 1) dX12_personTo_11 rfl rfl ?_
  refine s_callVz (C := mX12_oldOne) (As := [.int 74, .int (μ0.1 (o_rf X a0 0) 2506), .int x1]) (rest := []) (L0 := [some (.ref (o_ad X a0)), some (.int 74), some (.int (μ0.1 (o_rf X a0 0) 2506)), some (.int x1)]) hX h0 clX12_189 dX12_personTo_12 rfl rfl (Nat.le_of_ble_eq_true rfl) (Nat.le_of_ble_eq_true rfl) (dnX12_oldOne hX h0 (o_bdp h)) (fun r1 μ1 zr1 h => ?_)
  exact s_zreturn rfl zr1 dX12_personTo_15 ⟨_, rfl, zr1, o_ret h⟩
theorem dX12_otherTo_0 : decode cX12_otherTo 0 = .ok (.aload_n 0, 1) := by decide +kernel
theorem dX12_otherTo_1 : decode cX12_otherTo 1 = .ok (.ldc 180, 2) := by decide +kernel
theorem dX12_otherTo_3 : decode cX12_otherTo 3 = .ok (.invokevirtual 182, 3) := by decide +kernel
theorem dX12_otherTo_6 : decode cX12_otherTo 6 = .ok (.ifCond .eq 27, 3) := by decide +kernel
theorem dX12_otherTo_9 : decode cX12_otherTo 9 = .ok (.aload_n 0, 1) := by decide +kernel
theorem dX12_otherTo_10 : decode cX12_otherTo 10 = .ok (.bipush 74, 2) := by decide +kernel
theorem dX12_otherTo_12 : decode cX12_otherTo 12 = .ok (.aload_n 0, 1) := by decide +kernel
theorem dX12_otherTo_13 : decode cX12_otherTo 13 = .ok (.getfield 7, 3) := by decide +kernel
theorem dX12_otherTo_16 : decode cX12_otherTo 16 = .ok (.sipush 2506, 3) := by decide +kernel
theorem dX12_otherTo_19 : decode cX12_otherTo 19 = .ok (.iaload, 1) := by decide +kernel
theorem dX12_otherTo_20 : decode cX12_otherTo 20 = .ok (.invokevirtual 186, 3) := by decide +kernel
theorem dX12_otherTo_23 : decode cX12_otherTo 23 = .ok (.iload_n 2, 1) := by decide +kernel
theorem dX12_otherTo_24 : decode cX12_otherTo 24 = .ok (.if_icmp .ne 9, 3) := by decide +kernel
theorem dX12_otherTo_27 : decode cX12_otherTo 27 = .ok (.aload_n 0, 1) := by decide +kernel
theorem dX12_otherTo_28 : decode cX12_otherTo 28 = .ok (.iconst 5, 1) := by decide +kernel
theorem dX12_otherTo_29 : decode cX12_otherTo 29 = .ok (.invokevirtual 169, 3) := by decide +kernel
theorem dX12_otherTo_32 : decode cX12_otherTo 32 = .ok (.ireturn, 1) := by decide +kernel
theorem dX12_otherTo_33 : decode cX12_otherTo 33 = .ok (.aload_n 0, 1) := by decide +kernel
theorem dX12_otherTo_34 : decode cX12_otherTo 34 = .ok (.iload_n 1, 1) := by decide +kernel
theorem dX12_otherTo_35 : decode cX12_otherTo 35 = .ok (.invokevirtual 193, 3) := by decide +kernel
theorem dX12_otherTo_38 : decode cX12_otherTo 38 = .ok (.ireturn, 1) := by decide +kernel
noncomputable def fX12_otherTo_j33 (rf : Nat → Nat → Nat) (a0 : Nat) (x1 : Int32) (μ0 : o_Mem) : Option (Int32 × o_Mem) :=
  o_bd (fX12_personTo rf a0 x1 μ0) fun r1 μ1 =>
  some (r1, μ1)
noncomputable def fX12_otherTo (rf : Nat → Nat → Nat) (a0 : Nat) (x1 : Int32) (x2 : Int32) (μ0 : o_Mem) : Option (Int32 × o_Mem) :=
  o_bd (fX12_isName rf a0 μ0) fun r1 μ1 =>
  if r1 = 0 then (
    fX12_otherTo_j33 rf a0 x1 μ1)
  else (
    o_bd (fX12_findHere rf a0 74 (μ1.1 (rf a0 0) 2506) μ1) fun r2 μ2 =>
    if r2 = x2 then (
      o_bd (fX12_fails rf a0 5 μ2) fun r3 μ3 =>
      some (r3, μ3))
    else (
      fX12_otherTo_j33 rf a0 x1 μ2))
set_option maxRecDepth 20000 in
theorem dnX12_otherTo_j33 {X : o_Cx} (hX : o_ok X) {d : Nat} {a0 : Nat} {x1 : Int32} {μ0 : o_Mem} {q : Int32 → o_Mem → Prop} (h0 : o_is X a0 (.inl 12)) (h : o_Post (fX12_otherTo_j33 (o_rf X) a0 x1 μ0) q) : o_Ev X (d + 8) mX12_otherTo 33 [some (.ref (o_ad X a0)), some (.int x1), none] [] μ0 (o_QZ q) := by
  unfold fX12_otherTo_j33 at h
  refine s_aload_n (i := 0) dX12_otherTo_33 rfl rfl ?_
  refine s_iload_n (i := 1) dX12_otherTo_34 rfl rfl ?_
  refine s_callVz (C := mX12_personTo) (As := [.int x1]) (rest := []) (L0 := [some (.ref (o_ad X a0)), some (.int x1)]) hX h0 clX12_193 dX12_otherTo_35 rfl rfl (Nat.le_of_ble_eq_true rfl) (Nat.le_of_ble_eq_true rfl) (dnX12_personTo hX h0 (o_bdp h)) (fun r1 μ1 zr1 h => ?_)
  exact s_zreturn rfl zr1 dX12_otherTo_38 ⟨_, rfl, zr1, o_ret h⟩
set_option maxRecDepth 20000 in
theorem dnX12_otherTo {X : o_Cx} (hX : o_ok X) {d : Nat} {a0 : Nat} {x1 : Int32} {x2 : Int32} {μ0 : o_Mem} {q : Int32 → o_Mem → Prop} (h0 : o_is X a0 (.inl 12)) (h : o_Post (fX12_otherTo (o_rf X) a0 x1 x2 μ0) q) : o_Ev X (d + 8) mX12_otherTo 0 [some (.ref (o_ad X a0)), some (.int x1), some (.int x2)] [] μ0 (o_QZ q) := by
  unfold fX12_otherTo at h
  refine s_aload_n (i := 0) dX12_otherTo_0 rfl rfl ?_
  refine s_ldcS1 rfl dX12_otherTo_1 ?_
  refine s_callVz (C := mX12_isName) (As := [.ref (o_aK X 1)]) (rest := []) (L0 := [some (.ref (o_ad X a0)), some (.ref (o_aK X 1))]) hX h0 clX12_182 dX12_otherTo_3 rfl rfl (Nat.le_of_ble_eq_true rfl) (Nat.le_of_ble_eq_true rfl) (dnX12_isName hX h0 (o_bdp h)) (fun r1 μ1 zr1 h => ?_)
  refine s_if_eq (tgt := 33) dX12_otherTo_6 rfl (fun c1 => ?_) (fun c1 => ?_)
  · have h := o_if_t c1 h
    refine s_mask [true, true, false] (L' := [some (.ref (o_ad X a0)), some (.int x1), none]) rfl ?_
    exact dnX12_otherTo_j33 hX h0 h
  · have h := o_if_f c1 h
    refine s_aload_n (i := 0) dX12_otherTo_9 rfl rfl ?_
    refine s_bipush dX12_otherTo_10 kB_74 ?_
    refine s_aload_n (i := 0) dX12_otherTo_12 rfl rfl ?_
    refine s_getR hX h0 flX12_7 rfl dX12_otherTo_13 (fun (g1 : o_is X (o_rf X a0 0) (.inr (0, 3756))) => ?_)
    refine s_sipush dX12_otherTo_16 kS_2506 ?_
    refine s_ialdK g1 ⟨by decide, by decide⟩ kN_2506 dX12_otherTo_19 ?_
    refine s_callVi (C := mX12_findHere) (As := [.int 74, .int (μ1.1 (o_rf X a0 0) 2506)]) (rest := []) (L0 := [some (.ref (o_ad X a0)), some (.int 74), some (.int (μ1.1 (o_rf X a0 0) 2506)), none]) hX h0 clX12_186 dX12_otherTo_20 rfl rfl (Nat.le_of_ble_eq_true rfl) (Nat.le_of_ble_eq_true rfl) (dnX12_findHere hX h0 (o_bdp h)) (fun r2 μ2 h => ?_)
    refine s_iload_n (i := 2) dX12_otherTo_23 rfl rfl ?_
    refine s_icmp_ne (tgt := 33) dX12_otherTo_24 rfl (fun c1 => ?_) (fun c1 => ?_)
    · have h := o_if_f c1 h
      refine s_mask [true, true, false] (L' := [some (.ref (o_ad X a0)), some (.int x1), none]) rfl ?_
      exact dnX12_otherTo_j33 hX h0 h
    · have h := o_if_t c1 h
      refine s_aload_n (i := 0) dX12_otherTo_27 rfl rfl ?_
      refine s_iconst dX12_otherTo_28 kI_5 ?_
      refine s_callVz (C := mX12_fails) (As := [.int 5]) (rest := []) (L0 := [some (.ref (o_ad X a0)), some (.int 5)]) hX h0 clX12_169 dX12_otherTo_29 rfl rfl (Nat.le_of_ble_eq_true rfl) (Nat.le_of_ble_eq_true rfl) (dnX12_fails hX h0 (o_bdp h)) (fun r3 μ3 zr3 h => ?_)
      exact s_zreturn rfl zr3 dX12_otherTo_32 ⟨_, rfl, zr3, o_ret h⟩
theorem dX12_aStrike_0 : decode cX12_aStrike 0 = .ok (.sipush 2517, 3) := by decide +kernel
theorem dX12_aStrike_3 : decode cX12_aStrike 3 = .ok (.iconst 2, 1) := by decide +kernel
theorem dX12_aStrike_4 : decode cX12_aStrike 4 = .ok (.aload_n 0, 1) := by decide +kernel
theorem dX12_aStrike_5 : decode cX12_aStrike 5 = .ok (.getfield 7, 3) := by decide +kernel
theorem dX12_aStrike_8 : decode cX12_aStrike 8 = .ok (.sipush 2504, 3) := by decide +kernel
theorem dX12_aStrike_11 : decode cX12_aStrike 11 = .ok (.iaload, 1) := by decide +kernel
theorem dX12_aStrike_12 : decode cX12_aStrike 12 = .ok (.imul, 1) := by decide +kernel
theorem dX12_aStrike_13 : decode cX12_aStrike 13 = .ok (.iadd, 1) := by decide +kernel
theorem dX12_aStrike_14 : decode cX12_aStrike 14 = .ok (.istore_n 1, 1) := by decide +kernel
theorem dX12_aStrike_15 : decode cX12_aStrike 15 = .ok (.aload_n 0, 1) := by decide +kernel
theorem dX12_aStrike_16 : decode cX12_aStrike 16 = .ok (.iconst 0, 1) := by decide +kernel
theorem dX12_aStrike_17 : decode cX12_aStrike 17 = .ok (.bipush 6, 2) := by decide +kernel
theorem dX12_aStrike_19 : decode cX12_aStrike 19 = .ok (.iconst 0, 1) := by decide +kernel
theorem dX12_aStrike_20 : decode cX12_aStrike 20 = .ok (.invokevirtual 196, 3) := by decide +kernel
theorem dX12_aStrike_23 : decode cX12_aStrike 23 = .ok (.ifCond .ne 5, 3) := by decide +kernel
theorem dX12_aStrike_26 : decode cX12_aStrike 26 = .ok (.iconst 0, 1) := by decide +kernel
theorem dX12_aStrike_27 : decode cX12_aStrike 27 = .ok (.ireturn, 1) := by decide +kernel
theorem dX12_aStrike_28 : decode cX12_aStrike 28 = .ok (.aload_n 0, 1) := by decide +kernel
theorem dX12_aStrike_29 : decode cX12_aStrike 29 = .ok (.getfield 7, 3) := by decide +kernel
theorem dX12_aStrike_32 : decode cX12_aStrike 32 = .ok (.iload_n 1, 1) := by decide +kernel
theorem dX12_aStrike_33 : decode cX12_aStrike 33 = .ok (.iconst 1, 1) := by decide +kernel
theorem dX12_aStrike_34 : decode cX12_aStrike 34 = .ok (.iastore, 1) := by decide +kernel
theorem dX12_aStrike_35 : decode cX12_aStrike 35 = .ok (.aload_n 0, 1) := by decide +kernel
theorem dX12_aStrike_36 : decode cX12_aStrike 36 = .ok (.bipush 7, 2) := by decide +kernel
theorem dX12_aStrike_38 : decode cX12_aStrike 38 = .ok (.invokevirtual 199, 3) := by decide +kernel
theorem dX12_aStrike_41 : decode cX12_aStrike 41 = .ok (.ifCond .eq 16, 3) := by decide +kernel
theorem dX12_aStrike_44 : decode cX12_aStrike 44 = .ok (.aload_n 0, 1) := by decide +kernel
theorem dX12_aStrike_45 : decode cX12_aStrike 45 = .ok (.iload_n 1, 1) := by decide +kernel
theorem dX12_aStrike_46 : decode cX12_aStrike 46 = .ok (.iconst 0, 1) := by decide +kernel
theorem dX12_aStrike_47 : decode cX12_aStrike 47 = .ok (.bipush 9, 2) := by decide +kernel
theorem dX12_aStrike_49 : decode cX12_aStrike 49 = .ok (.invokevirtual 202, 3) := by decide +kernel
theorem dX12_aStrike_52 : decode cX12_aStrike 52 = .ok (.ifCond .ne 5, 3) := by decide +kernel
theorem dX12_aStrike_55 : decode cX12_aStrike 55 = .ok (.iconst 0, 1) := by decide +kernel
theorem dX12_aStrike_56 : decode cX12_aStrike 56 = .ok (.ireturn, 1) := by decide +kernel
theorem dX12_aStrike_57 : decode cX12_aStrike 57 = .ok (.aload_n 0, 1) := by decide +kernel
theorem dX12_aStrike_58 : decode cX12_aStrike 58 = .ok (.getfield 7, 3) := by decide +kernel
theorem dX12_aStrike_61 : decode cX12_aStrike 61 = .ok (.sipush 2504, 3) := by decide +kernel
theorem dX12_aStrike_64 : decode cX12_aStrike 64 = .ok (.dup2, 1) := by decide +kernel
theorem dX12_aStrike_65 : decode cX12_aStrike 65 = .ok (.iaload, 1) := by decide +kernel
theorem dX12_aStrike_66 : decode cX12_aStrike 66 = .ok (.iconst 1, 1) := by decide +kernel
theorem dX12_aStrike_67 : decode cX12_aStrike 67 = .ok (.iadd, 1) := by decide +kernel
theorem dX12_aStrike_68 : decode cX12_aStrike 68 = .ok (.iastore, 1) := by decide +kernel
theorem dX12_aStrike_69 : decode cX12_aStrike 69 = .ok (.iconst 1, 1) := by decide +kernel
theorem dX12_aStrike_70 : decode cX12_aStrike 70 = .ok (.ireturn, 1) := by decide +kernel
noncomputable def fX12_aStrike_j57 (rf : Nat → Nat → Nat) (a0 : Nat) (μ0 : o_Mem) : Option (Int32 × o_Mem) :=
  o_seq (o_wI μ0 (rf a0 0) 2504 ((μ0.1 (rf a0 0) 2504) + 1)) fun μ1 =>
  some (1, μ1)
noncomputable def fX12_aStrike (rf : Nat → Nat → Nat) (a0 : Nat) (μ0 : o_Mem) : Option (Int32 × o_Mem) :=
  o_bd (fX12_newOne rf a0 0 6 0 μ0) fun r1 μ1 =>
  if r1 = 0 then (
    some (0, μ1))
  else (
    o_ck (0 ≤ ((2517 + (2 * (μ0.1 (rf a0 0) 2504)))).toInt ∧ ((2517 + (2 * (μ0.1 (rf a0 0) 2504)))).toInt < 3756) <|
    o_seq (o_wI μ1 (rf a0 0) (((2517 + (2 * (μ0.1 (rf a0 0) 2504)))).toNatClampNeg) 1) fun μ2 =>
    o_bd (fX12_isThere rf a0 7 μ2) fun r2 μ3 =>
    if r2 = 0 then (
      fX12_aStrike_j57 rf a0 μ3)
    else (
      o_bd (fX12_number rf a0 (2517 + (2 * (μ0.1 (rf a0 0) 2504))) 0 9 μ3) fun r3 μ4 =>
      if r3 = 0 then (
        some (0, μ4))
      else (
        fX12_aStrike_j57 rf a0 μ4)))
set_option maxRecDepth 20000 in
theorem dnX12_aStrike_j57 {X : o_Cx} (hX : o_ok X) {d : Nat} {a0 : Nat} {μ0 : o_Mem} {q : Int32 → o_Mem → Prop} (h0 : o_is X a0 (.inl 12)) (h : o_Post (fX12_aStrike_j57 (o_rf X) a0 μ0) q) : o_Ev X (d + 7) mX12_aStrike 57 [some (.ref (o_ad X a0)), none] [] μ0 (o_QZ q) := by
  unfold fX12_aStrike_j57 at h
  refine s_aload_n (i := 0) dX12_aStrike_57 rfl rfl ?_
  refine s_getR hX h0 flX12_7 rfl dX12_aStrike_58 (fun (g1 : o_is X (o_rf X a0 0) (.inr (0, 3756))) => ?_)
  refine s_sipush dX12_aStrike_61 kS_2504 ?_
  refine s_dup2 dX12_aStrike_64 rfl rfl ?_
  refine s_ialdK g1 ⟨by decide, by decide⟩ kN_2504 dX12_aStrike_65 ?_
  refine s_iconst dX12_aStrike_66 kI_1 ?_
  refine s_iadd dX12_aStrike_67 ?_
  refine s_iastK hX g1 ⟨by decide, by decide⟩ kN_2504 dX12_aStrike_68 (o_gen h (fun μ1 h => ?_))
  refine s_iconst dX12_aStrike_69 kI_1 ?_
  exact s_zreturn rfl (Or.inr rfl) dX12_aStrike_70 ⟨_, rfl, (Or.inr rfl), o_ret h⟩
set_option maxRecDepth 20000 in
theorem dnX12_aStrike {X : o_Cx} (hX : o_ok X) {d : Nat} {a0 : Nat} {μ0 : o_Mem} {q : Int32 → o_Mem → Prop} (h0 : o_is X a0 (.inl 12)) (h : o_Post (fX12_aStrike (o_rf X) a0 μ0) q) : o_Ev X (d + 7) mX12_aStrike 0 [some (.ref (o_ad X a0)), none] [] μ0 (o_QZ q) := by
  unfold fX12_aStrike at h
  refine s_sipush dX12_aStrike_0 kS_2517 ?_
  refine s_iconst dX12_aStrike_3 kI_2 ?_
  refine s_aload_n (i := 0) dX12_aStrike_4 rfl rfl ?_
  refine s_getR hX h0 flX12_7 rfl dX12_aStrike_5 (fun (g1 : o_is X (o_rf X a0 0) (.inr (0, 3756))) => ?_)
  refine s_sipush dX12_aStrike_8 kS_2504 ?_
  refine s_ialdK g1 ⟨by decide, by decide⟩ kN_2504 dX12_aStrike_11 ?_
  refine s_imul dX12_aStrike_12 ?_
  refine s_iadd dX12_aStrike_13 ?_
  refine s_istore_n (i := 1) dX12_aStrike_14 rfl (Nat.le_of_ble_eq_true rfl) rfl ?_
  refine s_aload_n (i := 0) dX12_aStrike_15 rfl rfl ?_
  refine s_iconst dX12_aStrike_16 kI_0 ?_
  refine s_bipush dX12_aStrike_17 kB_6 ?_
  refine s_iconst dX12_aStrike_19 kI_0 ?_
  refine s_callVz (C := mX12_newOne) (As := [.int 0, .int 6, .int 0]) (rest := []) (L0 := [some (.ref (o_ad X a0)), some (.int 0), some (.int 6), some (.int 0)]) hX h0 clX12_196 dX12_aStrike_20 rfl rfl (Nat.le_of_ble_eq_true rfl) (Nat.le_of_ble_eq_true rfl) (dnX12_newOne hX h0 (o_bdp h)) (fun r1 μ1 zr1 h => ?_)
  refine s_if_ne (tgt := 28) dX12_aStrike_23 rfl (fun c1 => ?_) (fun c1 => ?_)
  · have h := o_if_f c1 h
    refine s_aload_n (i := 0) dX12_aStrike_28 rfl rfl ?_
    refine s_getR hX h0 flX12_7 rfl dX12_aStrike_29 (fun (g2 : o_is X (o_rf X a0 0) (.inr (0, 3756))) => ?_)
    refine s_iload_n (i := 1) dX12_aStrike_32 rfl rfl ?_
    refine s_iconst dX12_aStrike_33 kI_1 ?_
    have hc := o_ck_c h
    have h := o_ck_k h
    refine s_iastK hX g2 hc rfl dX12_aStrike_34 (o_gen h (fun μ2 h => ?_))
    refine s_aload_n (i := 0) dX12_aStrike_35 rfl rfl ?_
    refine s_bipush dX12_aStrike_36 kB_7 ?_
    refine s_callVz (C := mX12_isThere) (As := [.int 7]) (rest := []) (L0 := [some (.ref (o_ad X a0)), some (.int 7)]) hX h0 clX12_199 dX12_aStrike_38 rfl rfl (Nat.le_of_ble_eq_true rfl) (Nat.le_of_ble_eq_true rfl) (dnX12_isThere hX h0 (o_bdp h)) (fun r2 μ3 zr2 h => ?_)
    refine s_if_eq (tgt := 57) dX12_aStrike_41 rfl (fun c1 => ?_) (fun c1 => ?_)
    · have h := o_if_t c1 h
      refine s_mask [true, false] (L' := [some (.ref (o_ad X a0)), none]) rfl ?_
      exact dnX12_aStrike_j57 hX h0 h
    · have h := o_if_f c1 h
      refine s_aload_n (i := 0) dX12_aStrike_44 rfl rfl ?_
      refine s_iload_n (i := 1) dX12_aStrike_45 rfl rfl ?_
      refine s_iconst dX12_aStrike_46 kI_0 ?_
      refine s_bipush dX12_aStrike_47 kB_9 ?_
      refine s_callVz (C := mX12_number) (As := [.int (2517 + (2 * (μ0.1 (o_rf X a0 0) 2504))), .int 0, .int 9]) (rest := []) (L0 := [some (.ref (o_ad X a0)), some (.int (2517 + (2 * (μ0.1 (o_rf X a0 0) 2504)))), some (.int 0), some (.int 9)]) hX h0 clX12_202 dX12_aStrike_49 rfl rfl (Nat.le_of_ble_eq_true rfl) (Nat.le_of_ble_eq_true rfl) (dnX12_number hX h0 (o_bdp h)) (fun r3 μ4 zr3 h => ?_)
      refine s_if_ne (tgt := 57) dX12_aStrike_52 rfl (fun c1 => ?_) (fun c1 => ?_)
      · have h := o_if_f c1 h
        refine s_mask [true, false] (L' := [some (.ref (o_ad X a0)), none]) rfl ?_
        exact dnX12_aStrike_j57 hX h0 h
      · have h := o_if_t c1 h
        refine s_iconst dX12_aStrike_55 kI_0 ?_
        exact s_zreturn rfl (Or.inl rfl) dX12_aStrike_56 ⟨_, rfl, (Or.inl rfl), o_ret h⟩
  · have h := o_if_t c1 h
    refine s_iconst dX12_aStrike_26 kI_0 ?_
    exact s_zreturn rfl (Or.inl rfl) dX12_aStrike_27 ⟨_, rfl, (Or.inl rfl), o_ret h⟩
theorem dX12_aPerson_0 : decode cX12_aPerson 0 = .ok (.sipush 2529, 3) := by decide +kernel
theorem dX12_aPerson_3 : decode cX12_aPerson 3 = .ok (.aload_n 0, 1) := by decide +kernel
theorem dX12_aPerson_4 : decode cX12_aPerson 4 = .ok (.getfield 7, 3) := by decide +kernel
theorem dX12_aPerson_7 : decode cX12_aPerson 7 = .ok (.sipush 2506, 3) := by decide +kernel
theorem dX12_aPerson_10 : decode cX12_aPerson 10 = .ok (.iaload, 1) := by decide +kernel
theorem dX12_aPerson_11 : decode cX12_aPerson 11 = .ok (.iadd, 1) := by decide +kernel
theorem dX12_aPerson_12 : decode cX12_aPerson 12 = .ok (.istore_n 1, 1) := by decide +kernel
theorem dX12_aPerson_13 : decode cX12_aPerson 13 = .ok (.aload_n 0, 1) := by decide +kernel
theorem dX12_aPerson_14 : decode cX12_aPerson 14 = .ok (.iconst 2, 1) := by decide +kernel
theorem dX12_aPerson_15 : decode cX12_aPerson 15 = .ok (.bipush 6, 2) := by decide +kernel
theorem dX12_aPerson_17 : decode cX12_aPerson 17 = .ok (.bipush 10, 2) := by decide +kernel
theorem dX12_aPerson_19 : decode cX12_aPerson 19 = .ok (.invokevirtual 196, 3) := by decide +kernel
theorem dX12_aPerson_22 : decode cX12_aPerson 22 = .ok (.ifCond .eq 21, 3) := by decide +kernel
theorem dX12_aPerson_25 : decode cX12_aPerson 25 = .ok (.aload_n 0, 1) := by decide +kernel
theorem dX12_aPerson_26 : decode cX12_aPerson 26 = .ok (.ldc 180, 2) := by decide +kernel
theorem dX12_aPerson_28 : decode cX12_aPerson 28 = .ok (.iconst 1, 1) := by decide +kernel
theorem dX12_aPerson_29 : decode cX12_aPerson 29 = .ok (.invokevirtual 205, 3) := by decide +kernel
theorem dX12_aPerson_32 : decode cX12_aPerson 32 = .ok (.ifCond .eq 11, 3) := by decide +kernel
theorem dX12_aPerson_35 : decode cX12_aPerson 35 = .ok (.aload_n 0, 1) := by decide +kernel
theorem dX12_aPerson_36 : decode cX12_aPerson 36 = .ok (.iload_n 1, 1) := by decide +kernel
theorem dX12_aPerson_37 : decode cX12_aPerson 37 = .ok (.invokevirtual 209, 3) := by decide +kernel
theorem dX12_aPerson_40 : decode cX12_aPerson 40 = .ok (.ifCond .ne 5, 3) := by decide +kernel
theorem dX12_aPerson_43 : decode cX12_aPerson 43 = .ok (.iconst 0, 1) := by decide +kernel
theorem dX12_aPerson_44 : decode cX12_aPerson 44 = .ok (.ireturn, 1) := by decide +kernel
theorem dX12_aPerson_45 : decode cX12_aPerson 45 = .ok (.aload_n 0, 1) := by decide +kernel
theorem dX12_aPerson_46 : decode cX12_aPerson 46 = .ok (.getfield 7, 3) := by decide +kernel
theorem dX12_aPerson_49 : decode cX12_aPerson 49 = .ok (.sipush 2506, 3) := by decide +kernel
theorem dX12_aPerson_52 : decode cX12_aPerson 52 = .ok (.dup2, 1) := by decide +kernel
theorem dX12_aPerson_53 : decode cX12_aPerson 53 = .ok (.iaload, 1) := by decide +kernel
theorem dX12_aPerson_54 : decode cX12_aPerson 54 = .ok (.iconst 1, 1) := by decide +kernel
theorem dX12_aPerson_55 : decode cX12_aPerson 55 = .ok (.iadd, 1) := by decide +kernel
theorem dX12_aPerson_56 : decode cX12_aPerson 56 = .ok (.iastore, 1) := by decide +kernel
theorem dX12_aPerson_57 : decode cX12_aPerson 57 = .ok (.iconst 1, 1) := by decide +kernel
theorem dX12_aPerson_58 : decode cX12_aPerson 58 = .ok (.ireturn, 1) := by decide +kernel
noncomputable def fX12_aPerson (rf : Nat → Nat → Nat) (a0 : Nat) (μ0 : o_Mem) : Option (Int32 × o_Mem) :=
  o_bd (fX12_newOne rf a0 2 6 10 μ0) fun r1 μ1 =>
  if r1 = 0 then (
    some (0, μ1))
  else (
    o_bd (fX12_wantWord rf a0 1 μ1) fun r2 μ2 =>
    if r2 = 0 then (
      some (0, μ2))
    else (
      o_bd (fX12_handTo rf a0 (2529 + (μ0.1 (rf a0 0) 2506)) μ2) fun r3 μ3 =>
      if r3 = 0 then (
        some (0, μ3))
      else (
        o_seq (o_wI μ3 (rf a0 0) 2506 ((μ3.1 (rf a0 0) 2506) + 1)) fun μ4 =>
        some (1, μ4))))
set_option maxRecDepth 20000 in
theorem dnX12_aPerson {X : o_Cx} (hX : o_ok X) {d : Nat} {a0 : Nat} {μ0 : o_Mem} {q : Int32 → o_Mem → Prop} (h0 : o_is X a0 (.inl 12)) (h : o_Post (fX12_aPerson (o_rf X) a0 μ0) q) : o_Ev X (d + 8) mX12_aPerson 0 [some (.ref (o_ad X a0)), none] [] μ0 (o_QZ q) := by
  unfold fX12_aPerson at h
  refine s_sipush dX12_aPerson_0 kS_2529 ?_
  refine s_aload_n (i := 0) dX12_aPerson_3 rfl rfl ?_
  refine s_getR hX h0 flX12_7 rfl dX12_aPerson_4 (fun (g1 : o_is X (o_rf X a0 0) (.inr (0, 3756))) => ?_)
  refine s_sipush dX12_aPerson_7 kS_2506 ?_
  refine s_ialdK g1 ⟨by decide, by decide⟩ kN_2506 dX12_aPerson_10 ?_
  refine s_iadd dX12_aPerson_11 ?_
  refine s_istore_n (i := 1) dX12_aPerson_12 rfl (Nat.le_of_ble_eq_true rfl) rfl ?_
  refine s_aload_n (i := 0) dX12_aPerson_13 rfl rfl ?_
  refine s_iconst dX12_aPerson_14 kI_2 ?_
  refine s_bipush dX12_aPerson_15 kB_6 ?_
  refine s_bipush dX12_aPerson_17 kB_10 ?_
  refine s_callVz (C := mX12_newOne) (As := [.int 2, .int 6, .int 10]) (rest := []) (L0 := [some (.ref (o_ad X a0)), some (.int 2), some (.int 6), some (.int 10)]) hX h0 clX12_196 dX12_aPerson_19 rfl rfl (Nat.le_of_ble_eq_true rfl) (Nat.le_of_ble_eq_true rfl) (dnX12_newOne hX h0 (o_bdp h)) (fun r1 μ1 zr1 h => ?_)
  refine s_if_eq (tgt := 43) dX12_aPerson_22 rfl (fun c1 => ?_) (fun c1 => ?_)
  · have h := o_if_t c1 h
    refine s_iconst dX12_aPerson_43 kI_0 ?_
    exact s_zreturn rfl (Or.inl rfl) dX12_aPerson_44 ⟨_, rfl, (Or.inl rfl), o_ret h⟩
  · have h := o_if_f c1 h
    refine s_aload_n (i := 0) dX12_aPerson_25 rfl rfl ?_
    refine s_ldcS1 rfl dX12_aPerson_26 ?_
    refine s_iconst dX12_aPerson_28 kI_1 ?_
    refine s_callVz (C := mX12_wantWord) (As := [.ref (o_aK X 1), .int 1]) (rest := []) (L0 := [some (.ref (o_ad X a0)), some (.ref (o_aK X 1)), some (.int 1)]) hX h0 clX12_205 dX12_aPerson_29 rfl rfl (Nat.le_of_ble_eq_true rfl) (Nat.le_of_ble_eq_true rfl) (dnX12_wantWord hX h0 (o_bdp h)) (fun r2 μ2 zr2 h => ?_)
    refine s_if_eq (tgt := 43) dX12_aPerson_32 rfl (fun c1 => ?_) (fun c1 => ?_)
    · have h := o_if_t c1 h
      refine s_iconst dX12_aPerson_43 kI_0 ?_
      exact s_zreturn rfl (Or.inl rfl) dX12_aPerson_44 ⟨_, rfl, (Or.inl rfl), o_ret h⟩
    · have h := o_if_f c1 h
      refine s_aload_n (i := 0) dX12_aPerson_35 rfl rfl ?_
      refine s_iload_n (i := 1) dX12_aPerson_36 rfl rfl ?_
      refine s_callVz (C := mX12_handTo) (As := [.int (2529 + (μ0.1 (o_rf X a0 0) 2506))]) (rest := []) (L0 := [some (.ref (o_ad X a0)), some (.int (2529 + (μ0.1 (o_rf X a0 0) 2506)))]) hX h0 clX12_209 dX12_aPerson_37 rfl rfl (Nat.le_of_ble_eq_true rfl) (Nat.le_of_ble_eq_true rfl) (dnX12_handTo hX h0 (o_bdp h)) (fun r3 μ3 zr3 h => ?_)
      refine s_if_ne (tgt := 45) dX12_aPerson_40 rfl (fun c1 => ?_) (fun c1 => ?_)
      · have h := o_if_f c1 h
        refine s_aload_n (i := 0) dX12_aPerson_45 rfl rfl ?_
        refine s_getR hX h0 flX12_7 rfl dX12_aPerson_46 (fun (g2 : o_is X (o_rf X a0 0) (.inr (0, 3756))) => ?_)
        refine s_sipush dX12_aPerson_49 kS_2506 ?_
        refine s_dup2 dX12_aPerson_52 rfl rfl ?_
        refine s_ialdK g2 ⟨by decide, by decide⟩ kN_2506 dX12_aPerson_53 ?_
        refine s_iconst dX12_aPerson_54 kI_1 ?_
        refine s_iadd dX12_aPerson_55 ?_
        refine s_iastK hX g2 ⟨by decide, by decide⟩ kN_2506 dX12_aPerson_56 (o_gen h (fun μ4 h => ?_))
        refine s_iconst dX12_aPerson_57 kI_1 ?_
        exact s_zreturn rfl (Or.inr rfl) dX12_aPerson_58 ⟨_, rfl, (Or.inr rfl), o_ret h⟩
      · have h := o_if_t c1 h
        refine s_iconst dX12_aPerson_43 kI_0 ?_
        exact s_zreturn rfl (Or.inl rfl) dX12_aPerson_44 ⟨_, rfl, (Or.inl rfl), o_ret h⟩
theorem dX12_aLaw_0 : decode cX12_aLaw 0 = .ok (.sipush 2535, 3) := by decide +kernel
theorem dX12_aLaw_3 : decode cX12_aLaw 3 = .ok (.bipush 6, 2) := by decide +kernel
theorem dX12_aLaw_5 : decode cX12_aLaw 5 = .ok (.aload_n 0, 1) := by decide +kernel
theorem dX12_aLaw_6 : decode cX12_aLaw 6 = .ok (.getfield 7, 3) := by decide +kernel
theorem dX12_aLaw_9 : decode cX12_aLaw 9 = .ok (.sipush 2507, 3) := by decide +kernel
theorem dX12_aLaw_12 : decode cX12_aLaw 12 = .ok (.iaload, 1) := by decide +kernel
theorem dX12_aLaw_13 : decode cX12_aLaw 13 = .ok (.imul, 1) := by decide +kernel
theorem dX12_aLaw_14 : decode cX12_aLaw 14 = .ok (.iadd, 1) := by decide +kernel
theorem dX12_aLaw_15 : decode cX12_aLaw 15 = .ok (.istore_n 1, 1) := by decide +kernel
theorem dX12_aLaw_16 : decode cX12_aLaw 16 = .ok (.aload_n 0, 1) := by decide +kernel
theorem dX12_aLaw_17 : decode cX12_aLaw 17 = .ok (.getfield 7, 3) := by decide +kernel
theorem dX12_aLaw_20 : decode cX12_aLaw 20 = .ok (.sipush 2507, 3) := by decide +kernel
theorem dX12_aLaw_23 : decode cX12_aLaw 23 = .ok (.iaload, 1) := by decide +kernel
theorem dX12_aLaw_24 : decode cX12_aLaw 24 = .ok (.bipush 8, 2) := by decide +kernel
theorem dX12_aLaw_26 : decode cX12_aLaw 26 = .ok (.if_icmp .ne 10, 3) := by decide +kernel
theorem dX12_aLaw_29 : decode cX12_aLaw 29 = .ok (.aload_n 0, 1) := by decide +kernel
theorem dX12_aLaw_30 : decode cX12_aLaw 30 = .ok (.bipush 6, 2) := by decide +kernel
theorem dX12_aLaw_32 : decode cX12_aLaw 32 = .ok (.invokevirtual 169, 3) := by decide +kernel
theorem dX12_aLaw_35 : decode cX12_aLaw 35 = .ok (.ireturn, 1) := by decide +kernel
theorem dX12_aLaw_36 : decode cX12_aLaw 36 = .ok (.aload_n 0, 1) := by decide +kernel
theorem dX12_aLaw_37 : decode cX12_aLaw 37 = .ok (.invokevirtual 163, 3) := by decide +kernel
theorem dX12_aLaw_40 : decode cX12_aLaw 40 = .ok (.aload_n 0, 1) := by decide +kernel
theorem dX12_aLaw_41 : decode cX12_aLaw 41 = .ok (.iload_n 1, 1) := by decide +kernel
theorem dX12_aLaw_42 : decode cX12_aLaw 42 = .ok (.invokevirtual 212, 3) := by decide +kernel
theorem dX12_aLaw_45 : decode cX12_aLaw 45 = .ok (.ifCond .eq 104, 3) := by decide +kernel
theorem dX12_aLaw_48 : decode cX12_aLaw 48 = .ok (.aload_n 0, 1) := by decide +kernel
theorem dX12_aLaw_49 : decode cX12_aLaw 49 = .ok (.bipush 8, 2) := by decide +kernel
theorem dX12_aLaw_51 : decode cX12_aLaw 51 = .ok (.invokevirtual 199, 3) := by decide +kernel
theorem dX12_aLaw_54 : decode cX12_aLaw 54 = .ok (.ifCond .eq 16, 3) := by decide +kernel
theorem dX12_aLaw_57 : decode cX12_aLaw 57 = .ok (.aload_n 0, 1) := by decide +kernel
theorem dX12_aLaw_58 : decode cX12_aLaw 58 = .ok (.iload_n 1, 1) := by decide +kernel
theorem dX12_aLaw_59 : decode cX12_aLaw 59 = .ok (.iconst 1, 1) := by decide +kernel
theorem dX12_aLaw_60 : decode cX12_aLaw 60 = .ok (.iadd, 1) := by decide +kernel
theorem dX12_aLaw_61 : decode cX12_aLaw 61 = .ok (.iconst 1, 1) := by decide +kernel
theorem dX12_aLaw_62 : decode cX12_aLaw 62 = .ok (.bipush 99, 2) := by decide +kernel
theorem dX12_aLaw_64 : decode cX12_aLaw 64 = .ok (.invokevirtual 202, 3) := by decide +kernel
theorem dX12_aLaw_67 : decode cX12_aLaw 67 = .ok (.ifCond .eq 82, 3) := by decide +kernel
theorem dX12_aLaw_70 : decode cX12_aLaw 70 = .ok (.aload_n 0, 1) := by decide +kernel
theorem dX12_aLaw_71 : decode cX12_aLaw 71 = .ok (.bipush 9, 2) := by decide +kernel
theorem dX12_aLaw_73 : decode cX12_aLaw 73 = .ok (.invokevirtual 199, 3) := by decide +kernel
theorem dX12_aLaw_76 : decode cX12_aLaw 76 = .ok (.ifCond .eq 16, 3) := by decide +kernel
theorem dX12_aLaw_79 : decode cX12_aLaw 79 = .ok (.aload_n 0, 1) := by decide +kernel
theorem dX12_aLaw_80 : decode cX12_aLaw 80 = .ok (.iload_n 1, 1) := by decide +kernel
theorem dX12_aLaw_81 : decode cX12_aLaw 81 = .ok (.iconst 2, 1) := by decide +kernel
theorem dX12_aLaw_82 : decode cX12_aLaw 82 = .ok (.iadd, 1) := by decide +kernel
theorem dX12_aLaw_83 : decode cX12_aLaw 83 = .ok (.iconst 0, 1) := by decide +kernel
theorem dX12_aLaw_84 : decode cX12_aLaw 84 = .ok (.bipush 99, 2) := by decide +kernel
theorem dX12_aLaw_86 : decode cX12_aLaw 86 = .ok (.invokevirtual 202, 3) := by decide +kernel
theorem dX12_aLaw_89 : decode cX12_aLaw 89 = .ok (.ifCond .eq 60, 3) := by decide +kernel
theorem dX12_aLaw_92 : decode cX12_aLaw 92 = .ok (.aload_n 0, 1) := by decide +kernel
theorem dX12_aLaw_93 : decode cX12_aLaw 93 = .ok (.bipush 10, 2) := by decide +kernel
theorem dX12_aLaw_95 : decode cX12_aLaw 95 = .ok (.invokevirtual 199, 3) := by decide +kernel
theorem dX12_aLaw_98 : decode cX12_aLaw 98 = .ok (.ifCond .eq 13, 3) := by decide +kernel
theorem dX12_aLaw_101 : decode cX12_aLaw 101 = .ok (.aload_n 0, 1) := by decide +kernel
theorem dX12_aLaw_102 : decode cX12_aLaw 102 = .ok (.iload_n 1, 1) := by decide +kernel
theorem dX12_aLaw_103 : decode cX12_aLaw 103 = .ok (.iconst 3, 1) := by decide +kernel
theorem dX12_aLaw_104 : decode cX12_aLaw 104 = .ok (.iadd, 1) := by decide +kernel
theorem dX12_aLaw_105 : decode cX12_aLaw 105 = .ok (.invokevirtual 209, 3) := by decide +kernel
theorem dX12_aLaw_108 : decode cX12_aLaw 108 = .ok (.ifCond .eq 41, 3) := by decide +kernel
theorem dX12_aLaw_111 : decode cX12_aLaw 111 = .ok (.aload_n 0, 1) := by decide +kernel
theorem dX12_aLaw_112 : decode cX12_aLaw 112 = .ok (.bipush 11, 2) := by decide +kernel
theorem dX12_aLaw_114 : decode cX12_aLaw 114 = .ok (.invokevirtual 199, 3) := by decide +kernel
theorem dX12_aLaw_117 : decode cX12_aLaw 117 = .ok (.ifCond .eq 13, 3) := by decide +kernel
theorem dX12_aLaw_120 : decode cX12_aLaw 120 = .ok (.aload_n 0, 1) := by decide +kernel
theorem dX12_aLaw_121 : decode cX12_aLaw 121 = .ok (.iload_n 1, 1) := by decide +kernel
theorem dX12_aLaw_122 : decode cX12_aLaw 122 = .ok (.iconst 4, 1) := by decide +kernel
theorem dX12_aLaw_123 : decode cX12_aLaw 123 = .ok (.iadd, 1) := by decide +kernel
theorem dX12_aLaw_124 : decode cX12_aLaw 124 = .ok (.invokevirtual 193, 3) := by decide +kernel
theorem dX12_aLaw_127 : decode cX12_aLaw 127 = .ok (.ifCond .eq 22, 3) := by decide +kernel
theorem dX12_aLaw_130 : decode cX12_aLaw 130 = .ok (.aload_n 0, 1) := by decide +kernel
theorem dX12_aLaw_131 : decode cX12_aLaw 131 = .ok (.bipush 12, 2) := by decide +kernel
theorem dX12_aLaw_133 : decode cX12_aLaw 133 = .ok (.invokevirtual 199, 3) := by decide +kernel
theorem dX12_aLaw_136 : decode cX12_aLaw 136 = .ok (.ifCond .eq 15, 3) := by decide +kernel
theorem dX12_aLaw_139 : decode cX12_aLaw 139 = .ok (.aload_n 0, 1) := by decide +kernel
theorem dX12_aLaw_140 : decode cX12_aLaw 140 = .ok (.iload_n 1, 1) := by decide +kernel
theorem dX12_aLaw_141 : decode cX12_aLaw 141 = .ok (.iconst 5, 1) := by decide +kernel
theorem dX12_aLaw_142 : decode cX12_aLaw 142 = .ok (.iadd, 1) := by decide +kernel
theorem dX12_aLaw_143 : decode cX12_aLaw 143 = .ok (.invokevirtual 193, 3) := by decide +kernel
theorem dX12_aLaw_146 : decode cX12_aLaw 146 = .ok (.ifCond .ne 5, 3) := by decide +kernel
theorem dX12_aLaw_149 : decode cX12_aLaw 149 = .ok (.iconst 0, 1) := by decide +kernel
theorem dX12_aLaw_150 : decode cX12_aLaw 150 = .ok (.ireturn, 1) := by decide +kernel
theorem dX12_aLaw_151 : decode cX12_aLaw 151 = .ok (.aload_n 0, 1) := by decide +kernel
theorem dX12_aLaw_152 : decode cX12_aLaw 152 = .ok (.getfield 7, 3) := by decide +kernel
theorem dX12_aLaw_155 : decode cX12_aLaw 155 = .ok (.sipush 2507, 3) := by decide +kernel
theorem dX12_aLaw_158 : decode cX12_aLaw 158 = .ok (.dup2, 1) := by decide +kernel
theorem dX12_aLaw_159 : decode cX12_aLaw 159 = .ok (.iaload, 1) := by decide +kernel
theorem dX12_aLaw_160 : decode cX12_aLaw 160 = .ok (.iconst 1, 1) := by decide +kernel
theorem dX12_aLaw_161 : decode cX12_aLaw 161 = .ok (.iadd, 1) := by decide +kernel
theorem dX12_aLaw_162 : decode cX12_aLaw 162 = .ok (.iastore, 1) := by decide +kernel
theorem dX12_aLaw_163 : decode cX12_aLaw 163 = .ok (.iconst 1, 1) := by decide +kernel
theorem dX12_aLaw_164 : decode cX12_aLaw 164 = .ok (.ireturn, 1) := by decide +kernel
noncomputable def fX12_aLaw_j151 (rf : Nat → Nat → Nat) (a0 : Nat) (μ0 : o_Mem) : Option (Int32 × o_Mem) :=
  o_seq (o_wI μ0 (rf a0 0) 2507 ((μ0.1 (rf a0 0) 2507) + 1)) fun μ1 =>
  some (1, μ1)
noncomputable def fX12_aLaw_j130 (rf : Nat → Nat → Nat) (a0 : Nat) (x1 : Int32) (μ0 : o_Mem) : Option (Int32 × o_Mem) :=
  o_bd (fX12_isThere rf a0 12 μ0) fun r1 μ1 =>
  if r1 = 0 then (
    fX12_aLaw_j151 rf a0 μ1)
  else (
    o_bd (fX12_personTo rf a0 (x1 + 5) μ1) fun r2 μ2 =>
    if r2 = 0 then (
      some (0, μ2))
    else (
      fX12_aLaw_j151 rf a0 μ2))
noncomputable def fX12_aLaw_j111 (rf : Nat → Nat → Nat) (a0 : Nat) (x1 : Int32) (μ0 : o_Mem) : Option (Int32 × o_Mem) :=
  o_bd (fX12_isThere rf a0 11 μ0) fun r1 μ1 =>
  if r1 = 0 then (
    fX12_aLaw_j130 rf a0 x1 μ1)
  else (
    o_bd (fX12_personTo rf a0 (x1 + 4) μ1) fun r2 μ2 =>
    if r2 = 0 then (
      some (0, μ2))
    else (
      fX12_aLaw_j130 rf a0 x1 μ2))
noncomputable def fX12_aLaw_j92 (rf : Nat → Nat → Nat) (a0 : Nat) (x1 : Int32) (μ0 : o_Mem) : Option (Int32 × o_Mem) :=
  o_bd (fX12_isThere rf a0 10 μ0) fun r1 μ1 =>
  if r1 = 0 then (
    fX12_aLaw_j111 rf a0 x1 μ1)
  else (
    o_bd (fX12_handTo rf a0 (x1 + 3) μ1) fun r2 μ2 =>
    if r2 = 0 then (
      some (0, μ2))
    else (
      fX12_aLaw_j111 rf a0 x1 μ2))
noncomputable def fX12_aLaw_j70 (rf : Nat → Nat → Nat) (a0 : Nat) (x1 : Int32) (μ0 : o_Mem) : Option (Int32 × o_Mem) :=
  o_bd (fX12_isThere rf a0 9 μ0) fun r1 μ1 =>
  if r1 = 0 then (
    fX12_aLaw_j92 rf a0 x1 μ1)
  else (
    o_bd (fX12_number rf a0 (x1 + 2) 0 99 μ1) fun r2 μ2 =>
    if r2 = 0 then (
      some (0, μ2))
    else (
      fX12_aLaw_j92 rf a0 x1 μ2))
noncomputable def fX12_aLaw (rf : Nat → Nat → Nat) (a0 : Nat) (μ0 : o_Mem) : Option (Int32 × o_Mem) :=
  if (μ0.1 (rf a0 0) 2507) = 8 then (
    o_bd (fX12_fails rf a0 6 μ0) fun r4 μ5 =>
    some (r4, μ5))
  else (
    o_bd (fX12_ahead rf a0 μ0) fun _u μ1 =>
    o_bd (fX12_strikeTo rf a0 (2535 + (6 * (μ0.1 (rf a0 0) 2507))) μ1) fun r1 μ2 =>
    if r1 = 0 then (
      some (0, μ2))
    else (
      o_bd (fX12_isThere rf a0 8 μ2) fun r2 μ3 =>
      if r2 = 0 then (
        fX12_aLaw_j70 rf a0 (2535 + (6 * (μ0.1 (rf a0 0) 2507))) μ3)
      else (
        o_bd (fX12_number rf a0 ((2535 + (6 * (μ0.1 (rf a0 0) 2507))) + 1) 1 99 μ3) fun r3 μ4 =>
        if r3 = 0 then (
          some (0, μ4))
        else (
          fX12_aLaw_j70 rf a0 (2535 + (6 * (μ0.1 (rf a0 0) 2507))) μ4))))
set_option maxRecDepth 20000 in
theorem dnX12_aLaw_j151 {X : o_Cx} (hX : o_ok X) {d : Nat} {a0 : Nat} {μ0 : o_Mem} {q : Int32 → o_Mem → Prop} (h0 : o_is X a0 (.inl 12)) (h : o_Post (fX12_aLaw_j151 (o_rf X) a0 μ0) q) : o_Ev X (d + 8) mX12_aLaw 151 [some (.ref (o_ad X a0)), none] [] μ0 (o_QZ q) := by
  unfold fX12_aLaw_j151 at h
  refine s_aload_n (i := 0) dX12_aLaw_151 rfl rfl ?_
  refine s_getR hX h0 flX12_7 rfl dX12_aLaw_152 (fun (g1 : o_is X (o_rf X a0 0) (.inr (0, 3756))) => ?_)
  refine s_sipush dX12_aLaw_155 kS_2507 ?_
  refine s_dup2 dX12_aLaw_158 rfl rfl ?_
  refine s_ialdK g1 ⟨by decide, by decide⟩ kN_2507 dX12_aLaw_159 ?_
  refine s_iconst dX12_aLaw_160 kI_1 ?_
  refine s_iadd dX12_aLaw_161 ?_
  refine s_iastK hX g1 ⟨by decide, by decide⟩ kN_2507 dX12_aLaw_162 (o_gen h (fun μ1 h => ?_))
  refine s_iconst dX12_aLaw_163 kI_1 ?_
  exact s_zreturn rfl (Or.inr rfl) dX12_aLaw_164 ⟨_, rfl, (Or.inr rfl), o_ret h⟩
set_option maxRecDepth 20000 in
theorem dnX12_aLaw_j130 {X : o_Cx} (hX : o_ok X) {d : Nat} {a0 : Nat} {x1 : Int32} {μ0 : o_Mem} {q : Int32 → o_Mem → Prop} (h0 : o_is X a0 (.inl 12)) (h : o_Post (fX12_aLaw_j130 (o_rf X) a0 x1 μ0) q) : o_Ev X (d + 8) mX12_aLaw 130 [some (.ref (o_ad X a0)), some (.int x1)] [] μ0 (o_QZ q) := by
  unfold fX12_aLaw_j130 at h
  refine s_aload_n (i := 0) dX12_aLaw_130 rfl rfl ?_
  refine s_bipush dX12_aLaw_131 kB_12 ?_
  refine s_callVz (C := mX12_isThere) (As := [.int 12]) (rest := []) (L0 := [some (.ref (o_ad X a0)), some (.int 12)]) hX h0 clX12_199 dX12_aLaw_133 rfl rfl (Nat.le_of_ble_eq_true rfl) (Nat.le_of_ble_eq_true rfl) (dnX12_isThere hX h0 (o_bdp h)) (fun r1 μ1 zr1 h => ?_)
  refine s_if_eq (tgt := 151) dX12_aLaw_136 rfl (fun c1 => ?_) (fun c1 => ?_)
  · have h := o_if_t c1 h
    refine s_mask [true, false] (L' := [some (.ref (o_ad X a0)), none]) rfl ?_
    exact dnX12_aLaw_j151 hX h0 h
  · have h := o_if_f c1 h
    refine s_aload_n (i := 0) dX12_aLaw_139 rfl rfl ?_
    refine s_iload_n (i := 1) dX12_aLaw_140 rfl rfl ?_
    refine s_iconst dX12_aLaw_141 kI_5 ?_
    refine s_iadd dX12_aLaw_142 ?_
    refine s_callVz (C := mX12_personTo) (As := [.int (x1 + 5)]) (rest := []) (L0 := [some (.ref (o_ad X a0)), some (.int (x1 + 5))]) hX h0 clX12_193 dX12_aLaw_143 rfl rfl (Nat.le_of_ble_eq_true rfl) (Nat.le_of_ble_eq_true rfl) (dnX12_personTo hX h0 (o_bdp h)) (fun r2 μ2 zr2 h => ?_)
    refine s_if_ne (tgt := 151) dX12_aLaw_146 rfl (fun c1 => ?_) (fun c1 => ?_)
    · have h := o_if_f c1 h
      refine s_mask [true, false] (L' := [some (.ref (o_ad X a0)), none]) rfl ?_
      exact dnX12_aLaw_j151 hX h0 h
    · have h := o_if_t c1 h
      refine s_iconst dX12_aLaw_149 kI_0 ?_
      exact s_zreturn rfl (Or.inl rfl) dX12_aLaw_150 ⟨_, rfl, (Or.inl rfl), o_ret h⟩
set_option maxRecDepth 20000 in
theorem dnX12_aLaw_j111 {X : o_Cx} (hX : o_ok X) {d : Nat} {a0 : Nat} {x1 : Int32} {μ0 : o_Mem} {q : Int32 → o_Mem → Prop} (h0 : o_is X a0 (.inl 12)) (h : o_Post (fX12_aLaw_j111 (o_rf X) a0 x1 μ0) q) : o_Ev X (d + 8) mX12_aLaw 111 [some (.ref (o_ad X a0)), some (.int x1)] [] μ0 (o_QZ q) := by
  unfold fX12_aLaw_j111 at h
  refine s_aload_n (i := 0) dX12_aLaw_111 rfl rfl ?_
  refine s_bipush dX12_aLaw_112 kB_11 ?_
  refine s_callVz (C := mX12_isThere) (As := [.int 11]) (rest := []) (L0 := [some (.ref (o_ad X a0)), some (.int 11)]) hX h0 clX12_199 dX12_aLaw_114 rfl rfl (Nat.le_of_ble_eq_true rfl) (Nat.le_of_ble_eq_true rfl) (dnX12_isThere hX h0 (o_bdp h)) (fun r1 μ1 zr1 h => ?_)
  refine s_if_eq (tgt := 130) dX12_aLaw_117 rfl (fun c1 => ?_) (fun c1 => ?_)
  · have h := o_if_t c1 h
    refine s_mask [true, true] (L' := [some (.ref (o_ad X a0)), some (.int x1)]) rfl ?_
    exact dnX12_aLaw_j130 hX h0 h
  · have h := o_if_f c1 h
    refine s_aload_n (i := 0) dX12_aLaw_120 rfl rfl ?_
    refine s_iload_n (i := 1) dX12_aLaw_121 rfl rfl ?_
    refine s_iconst dX12_aLaw_122 kI_4 ?_
    refine s_iadd dX12_aLaw_123 ?_
    refine s_callVz (C := mX12_personTo) (As := [.int (x1 + 4)]) (rest := []) (L0 := [some (.ref (o_ad X a0)), some (.int (x1 + 4))]) hX h0 clX12_193 dX12_aLaw_124 rfl rfl (Nat.le_of_ble_eq_true rfl) (Nat.le_of_ble_eq_true rfl) (dnX12_personTo hX h0 (o_bdp h)) (fun r2 μ2 zr2 h => ?_)
    refine s_if_eq (tgt := 149) dX12_aLaw_127 rfl (fun c1 => ?_) (fun c1 => ?_)
    · have h := o_if_t c1 h
      refine s_iconst dX12_aLaw_149 kI_0 ?_
      exact s_zreturn rfl (Or.inl rfl) dX12_aLaw_150 ⟨_, rfl, (Or.inl rfl), o_ret h⟩
    · have h := o_if_f c1 h
      refine s_mask [true, true] (L' := [some (.ref (o_ad X a0)), some (.int x1)]) rfl ?_
      exact dnX12_aLaw_j130 hX h0 h
set_option maxRecDepth 20000 in
theorem dnX12_aLaw_j92 {X : o_Cx} (hX : o_ok X) {d : Nat} {a0 : Nat} {x1 : Int32} {μ0 : o_Mem} {q : Int32 → o_Mem → Prop} (h0 : o_is X a0 (.inl 12)) (h : o_Post (fX12_aLaw_j92 (o_rf X) a0 x1 μ0) q) : o_Ev X (d + 8) mX12_aLaw 92 [some (.ref (o_ad X a0)), some (.int x1)] [] μ0 (o_QZ q) := by
  unfold fX12_aLaw_j92 at h
  refine s_aload_n (i := 0) dX12_aLaw_92 rfl rfl ?_
  refine s_bipush dX12_aLaw_93 kB_10 ?_
  refine s_callVz (C := mX12_isThere) (As := [.int 10]) (rest := []) (L0 := [some (.ref (o_ad X a0)), some (.int 10)]) hX h0 clX12_199 dX12_aLaw_95 rfl rfl (Nat.le_of_ble_eq_true rfl) (Nat.le_of_ble_eq_true rfl) (dnX12_isThere hX h0 (o_bdp h)) (fun r1 μ1 zr1 h => ?_)
  refine s_if_eq (tgt := 111) dX12_aLaw_98 rfl (fun c1 => ?_) (fun c1 => ?_)
  · have h := o_if_t c1 h
    refine s_mask [true, true] (L' := [some (.ref (o_ad X a0)), some (.int x1)]) rfl ?_
    exact dnX12_aLaw_j111 hX h0 h
  · have h := o_if_f c1 h
    refine s_aload_n (i := 0) dX12_aLaw_101 rfl rfl ?_
    refine s_iload_n (i := 1) dX12_aLaw_102 rfl rfl ?_
    refine s_iconst dX12_aLaw_103 kI_3 ?_
    refine s_iadd dX12_aLaw_104 ?_
    refine s_callVz (C := mX12_handTo) (As := [.int (x1 + 3)]) (rest := []) (L0 := [some (.ref (o_ad X a0)), some (.int (x1 + 3))]) hX h0 clX12_209 dX12_aLaw_105 rfl rfl (Nat.le_of_ble_eq_true rfl) (Nat.le_of_ble_eq_true rfl) (dnX12_handTo hX h0 (o_bdp h)) (fun r2 μ2 zr2 h => ?_)
    refine s_if_eq (tgt := 149) dX12_aLaw_108 rfl (fun c1 => ?_) (fun c1 => ?_)
    · have h := o_if_t c1 h
      refine s_iconst dX12_aLaw_149 kI_0 ?_
      exact s_zreturn rfl (Or.inl rfl) dX12_aLaw_150 ⟨_, rfl, (Or.inl rfl), o_ret h⟩
    · have h := o_if_f c1 h
      refine s_mask [true, true] (L' := [some (.ref (o_ad X a0)), some (.int x1)]) rfl ?_
      exact dnX12_aLaw_j111 hX h0 h
set_option maxRecDepth 20000 in
theorem dnX12_aLaw_j70 {X : o_Cx} (hX : o_ok X) {d : Nat} {a0 : Nat} {x1 : Int32} {μ0 : o_Mem} {q : Int32 → o_Mem → Prop} (h0 : o_is X a0 (.inl 12)) (h : o_Post (fX12_aLaw_j70 (o_rf X) a0 x1 μ0) q) : o_Ev X (d + 8) mX12_aLaw 70 [some (.ref (o_ad X a0)), some (.int x1)] [] μ0 (o_QZ q) := by
  unfold fX12_aLaw_j70 at h
  refine s_aload_n (i := 0) dX12_aLaw_70 rfl rfl ?_
  refine s_bipush dX12_aLaw_71 kB_9 ?_
  refine s_callVz (C := mX12_isThere) (As := [.int 9]) (rest := []) (L0 := [some (.ref (o_ad X a0)), some (.int 9)]) hX h0 clX12_199 dX12_aLaw_73 rfl rfl (Nat.le_of_ble_eq_true rfl) (Nat.le_of_ble_eq_true rfl) (dnX12_isThere hX h0 (o_bdp h)) (fun r1 μ1 zr1 h => ?_)
  refine s_if_eq (tgt := 92) dX12_aLaw_76 rfl (fun c1 => ?_) (fun c1 => ?_)
  · have h := o_if_t c1 h
    refine s_mask [true, true] (L' := [some (.ref (o_ad X a0)), some (.int x1)]) rfl ?_
    exact dnX12_aLaw_j92 hX h0 h
  · have h := o_if_f c1 h
    refine s_aload_n (i := 0) dX12_aLaw_79 rfl rfl ?_
    refine s_iload_n (i := 1) dX12_aLaw_80 rfl rfl ?_
    refine s_iconst dX12_aLaw_81 kI_2 ?_
    refine s_iadd dX12_aLaw_82 ?_
    refine s_iconst dX12_aLaw_83 kI_0 ?_
    refine s_bipush dX12_aLaw_84 kB_99 ?_
    refine s_callVz (C := mX12_number) (As := [.int (x1 + 2), .int 0, .int 99]) (rest := []) (L0 := [some (.ref (o_ad X a0)), some (.int (x1 + 2)), some (.int 0), some (.int 99)]) hX h0 clX12_202 dX12_aLaw_86 rfl rfl (Nat.le_of_ble_eq_true rfl) (Nat.le_of_ble_eq_true rfl) (dnX12_number hX h0 (o_bdp h)) (fun r2 μ2 zr2 h => ?_)
    refine s_if_eq (tgt := 149) dX12_aLaw_89 rfl (fun c1 => ?_) (fun c1 => ?_)
    · have h := o_if_t c1 h
      refine s_iconst dX12_aLaw_149 kI_0 ?_
      exact s_zreturn rfl (Or.inl rfl) dX12_aLaw_150 ⟨_, rfl, (Or.inl rfl), o_ret h⟩
    · have h := o_if_f c1 h
      refine s_mask [true, true] (L' := [some (.ref (o_ad X a0)), some (.int x1)]) rfl ?_
      exact dnX12_aLaw_j92 hX h0 h
set_option maxRecDepth 20000 in
theorem dnX12_aLaw {X : o_Cx} (hX : o_ok X) {d : Nat} {a0 : Nat} {μ0 : o_Mem} {q : Int32 → o_Mem → Prop} (h0 : o_is X a0 (.inl 12)) (h : o_Post (fX12_aLaw (o_rf X) a0 μ0) q) : o_Ev X (d + 8) mX12_aLaw 0 [some (.ref (o_ad X a0)), none] [] μ0 (o_QZ q) := by
  unfold fX12_aLaw at h
  refine s_sipush dX12_aLaw_0 kS_2535 ?_
  refine s_bipush dX12_aLaw_3 kB_6 ?_
  refine s_aload_n (i := 0) dX12_aLaw_5 rfl rfl ?_
  refine s_getR hX h0 flX12_7 rfl dX12_aLaw_6 (fun (g1 : o_is X (o_rf X a0 0) (.inr (0, 3756))) => ?_)
  refine s_sipush dX12_aLaw_9 kS_2507 ?_
  refine s_ialdK g1 ⟨by decide, by decide⟩ kN_2507 dX12_aLaw_12 ?_
  refine s_imul dX12_aLaw_13 ?_
  refine s_iadd dX12_aLaw_14 ?_
  refine s_istore_n (i := 1) dX12_aLaw_15 rfl (Nat.le_of_ble_eq_true rfl) rfl ?_
  refine s_aload_n (i := 0) dX12_aLaw_16 rfl rfl ?_
  refine s_getR hX h0 flX12_7 rfl dX12_aLaw_17 (fun (g2 : o_is X (o_rf X a0 0) (.inr (0, 3756))) => ?_)
  refine s_sipush dX12_aLaw_20 kS_2507 ?_
  refine s_ialdK g2 ⟨by decide, by decide⟩ kN_2507 dX12_aLaw_23 ?_
  refine s_bipush dX12_aLaw_24 kB_8 ?_
  refine s_icmp_ne (tgt := 36) dX12_aLaw_26 rfl (fun c1 => ?_) (fun c1 => ?_)
  · have h := o_if_f c1 h
    refine s_aload_n (i := 0) dX12_aLaw_36 rfl rfl ?_
    refine s_callVu (C := mX12_ahead) (As := []) (rest := []) (L0 := [some (.ref (o_ad X a0)), none]) hX h0 clX12_163 dX12_aLaw_37 rfl rfl (Nat.le_of_ble_eq_true rfl) (Nat.le_of_ble_eq_true rfl) (dnX12_ahead hX h0 (o_bdp h)) (fun _u μ1 h => ?_)
    refine s_aload_n (i := 0) dX12_aLaw_40 rfl rfl ?_
    refine s_iload_n (i := 1) dX12_aLaw_41 rfl rfl ?_
    refine s_callVz (C := mX12_strikeTo) (As := [.int (2535 + (6 * (μ0.1 (o_rf X a0 0) 2507)))]) (rest := []) (L0 := [some (.ref (o_ad X a0)), some (.int (2535 + (6 * (μ0.1 (o_rf X a0 0) 2507))))]) hX h0 clX12_212 dX12_aLaw_42 rfl rfl (Nat.le_of_ble_eq_true rfl) (Nat.le_of_ble_eq_true rfl) (dnX12_strikeTo hX h0 (o_bdp h)) (fun r1 μ2 zr1 h => ?_)
    refine s_if_eq (tgt := 149) dX12_aLaw_45 rfl (fun c1 => ?_) (fun c1 => ?_)
    · have h := o_if_t c1 h
      refine s_iconst dX12_aLaw_149 kI_0 ?_
      exact s_zreturn rfl (Or.inl rfl) dX12_aLaw_150 ⟨_, rfl, (Or.inl rfl), o_ret h⟩
    · have h := o_if_f c1 h
      refine s_aload_n (i := 0) dX12_aLaw_48 rfl rfl ?_
      refine s_bipush dX12_aLaw_49 kB_8 ?_
      refine s_callVz (C := mX12_isThere) (As := [.int 8]) (rest := []) (L0 := [some (.ref (o_ad X a0)), some (.int 8)]) hX h0 clX12_199 dX12_aLaw_51 rfl rfl (Nat.le_of_ble_eq_true rfl) (Nat.le_of_ble_eq_true rfl) (dnX12_isThere hX h0 (o_bdp h)) (fun r2 μ3 zr2 h => ?_)
      refine s_if_eq (tgt := 70) dX12_aLaw_54 rfl (fun c1 => ?_) (fun c1 => ?_)
      · have h := o_if_t c1 h
        refine s_mask [true, true] (L' := [some (.ref (o_ad X a0)), some (.int (2535 + (6 * (μ0.1 (o_rf X a0 0) 2507))))]) rfl ?_
        exact dnX12_aLaw_j70 hX h0 h
      · have h := o_if_f c1 h
        refine s_aload_n (i := 0) dX12_aLaw_57 rfl rfl ?_
        refine s_iload_n (i := 1) dX12_aLaw_58 rfl rfl ?_
        refine s_iconst dX12_aLaw_59 kI_1 ?_
        refine s_iadd dX12_aLaw_60 ?_
        refine s_iconst dX12_aLaw_61 kI_1 ?_
        refine s_bipush dX12_aLaw_62 kB_99 ?_
        refine s_callVz (C := mX12_number) (As := [.int ((2535 + (6 * (μ0.1 (o_rf X a0 0) 2507))) + 1), .int 1, .int 99]) (rest := []) (L0 := [some (.ref (o_ad X a0)), some (.int ((2535 + (6 * (μ0.1 (o_rf X a0 0) 2507))) + 1)), some (.int 1), some (.int 99)]) hX h0 clX12_202 dX12_aLaw_64 rfl rfl (Nat.le_of_ble_eq_true rfl) (Nat.le_of_ble_eq_true rfl) (dnX12_number hX h0 (o_bdp h)) (fun r3 μ4 zr3 h => ?_)
        refine s_if_eq (tgt := 149) dX12_aLaw_67 rfl (fun c1 => ?_) (fun c1 => ?_)
        · have h := o_if_t c1 h
          refine s_iconst dX12_aLaw_149 kI_0 ?_
          exact s_zreturn rfl (Or.inl rfl) dX12_aLaw_150 ⟨_, rfl, (Or.inl rfl), o_ret h⟩
        · have h := o_if_f c1 h
          refine s_mask [true, true] (L' := [some (.ref (o_ad X a0)), some (.int (2535 + (6 * (μ0.1 (o_rf X a0 0) 2507))))]) rfl ?_
          exact dnX12_aLaw_j70 hX h0 h
  · have h := o_if_t c1 h
    refine s_aload_n (i := 0) dX12_aLaw_29 rfl rfl ?_
    refine s_bipush dX12_aLaw_30 kB_6 ?_
    refine s_callVz (C := mX12_fails) (As := [.int 6]) (rest := []) (L0 := [some (.ref (o_ad X a0)), some (.int 6)]) hX h0 clX12_169 dX12_aLaw_32 rfl rfl (Nat.le_of_ble_eq_true rfl) (Nat.le_of_ble_eq_true rfl) (dnX12_fails hX h0 (o_bdp h)) (fun r4 μ5 zr4 h => ?_)
    exact s_zreturn rfl zr4 dX12_aLaw_35 ⟨_, rfl, zr4, o_ret h⟩
theorem dX12_anAct_0 : decode cX12_anAct 0 = .ok (.sipush 3123, 3) := by decide +kernel
theorem dX12_anAct_3 : decode cX12_anAct 3 = .ok (.istore_n 1, 1) := by decide +kernel
theorem dX12_anAct_4 : decode cX12_anAct 4 = .ok (.aload_n 0, 1) := by decide +kernel
theorem dX12_anAct_5 : decode cX12_anAct 5 = .ok (.invokevirtual 163, 3) := by decide +kernel
theorem dX12_anAct_8 : decode cX12_anAct 8 = .ok (.aload_n 0, 1) := by decide +kernel
theorem dX12_anAct_9 : decode cX12_anAct 9 = .ok (.iload_n 1, 1) := by decide +kernel
theorem dX12_anAct_10 : decode cX12_anAct 10 = .ok (.invokevirtual 193, 3) := by decide +kernel
theorem dX12_anAct_13 : decode cX12_anAct 13 = .ok (.ifCond .eq 75, 3) := by decide +kernel
theorem dX12_anAct_16 : decode cX12_anAct 16 = .ok (.aload_n 0, 1) := by decide +kernel
theorem dX12_anAct_17 : decode cX12_anAct 17 = .ok (.ldc 180, 2) := by decide +kernel
theorem dX12_anAct_19 : decode cX12_anAct 19 = .ok (.bipush 13, 2) := by decide +kernel
theorem dX12_anAct_21 : decode cX12_anAct 21 = .ok (.invokevirtual 205, 3) := by decide +kernel
theorem dX12_anAct_24 : decode cX12_anAct 24 = .ok (.ifCond .eq 64, 3) := by decide +kernel
theorem dX12_anAct_27 : decode cX12_anAct 27 = .ok (.aload_n 0, 1) := by decide +kernel
theorem dX12_anAct_28 : decode cX12_anAct 28 = .ok (.iload_n 1, 1) := by decide +kernel
theorem dX12_anAct_29 : decode cX12_anAct 29 = .ok (.iconst 1, 1) := by decide +kernel
theorem dX12_anAct_30 : decode cX12_anAct 30 = .ok (.iadd, 1) := by decide +kernel
theorem dX12_anAct_31 : decode cX12_anAct 31 = .ok (.invokevirtual 212, 3) := by decide +kernel
theorem dX12_anAct_34 : decode cX12_anAct 34 = .ok (.ifCond .eq 54, 3) := by decide +kernel
theorem dX12_anAct_37 : decode cX12_anAct 37 = .ok (.aload_n 0, 1) := by decide +kernel
theorem dX12_anAct_38 : decode cX12_anAct 38 = .ok (.ldc 180, 2) := by decide +kernel
theorem dX12_anAct_40 : decode cX12_anAct 40 = .ok (.bipush 12, 2) := by decide +kernel
theorem dX12_anAct_42 : decode cX12_anAct 42 = .ok (.invokevirtual 205, 3) := by decide +kernel
theorem dX12_anAct_45 : decode cX12_anAct 45 = .ok (.ifCond .eq 43, 3) := by decide +kernel
theorem dX12_anAct_48 : decode cX12_anAct 48 = .ok (.aload_n 0, 1) := by decide +kernel
theorem dX12_anAct_49 : decode cX12_anAct 49 = .ok (.iload_n 1, 1) := by decide +kernel
theorem dX12_anAct_50 : decode cX12_anAct 50 = .ok (.iconst 2, 1) := by decide +kernel
theorem dX12_anAct_51 : decode cX12_anAct 51 = .ok (.iadd, 1) := by decide +kernel
theorem dX12_anAct_52 : decode cX12_anAct 52 = .ok (.aload_n 0, 1) := by decide +kernel
theorem dX12_anAct_53 : decode cX12_anAct 53 = .ok (.getfield 7, 3) := by decide +kernel
theorem dX12_anAct_56 : decode cX12_anAct 56 = .ok (.iload_n 1, 1) := by decide +kernel
theorem dX12_anAct_57 : decode cX12_anAct 57 = .ok (.iaload, 1) := by decide +kernel
theorem dX12_anAct_58 : decode cX12_anAct 58 = .ok (.invokevirtual 215, 3) := by decide +kernel
theorem dX12_anAct_61 : decode cX12_anAct 61 = .ok (.ifCond .eq 27, 3) := by decide +kernel
theorem dX12_anAct_64 : decode cX12_anAct 64 = .ok (.aload_n 0, 1) := by decide +kernel
theorem dX12_anAct_65 : decode cX12_anAct 65 = .ok (.ldc 180, 2) := by decide +kernel
theorem dX12_anAct_67 : decode cX12_anAct 67 = .ok (.bipush 14, 2) := by decide +kernel
theorem dX12_anAct_69 : decode cX12_anAct 69 = .ok (.invokevirtual 205, 3) := by decide +kernel
theorem dX12_anAct_72 : decode cX12_anAct 72 = .ok (.ifCond .eq 16, 3) := by decide +kernel
theorem dX12_anAct_75 : decode cX12_anAct 75 = .ok (.aload_n 0, 1) := by decide +kernel
theorem dX12_anAct_76 : decode cX12_anAct 76 = .ok (.iload_n 1, 1) := by decide +kernel
theorem dX12_anAct_77 : decode cX12_anAct 77 = .ok (.iconst 3, 1) := by decide +kernel
theorem dX12_anAct_78 : decode cX12_anAct 78 = .ok (.iadd, 1) := by decide +kernel
theorem dX12_anAct_79 : decode cX12_anAct 79 = .ok (.iconst 1, 1) := by decide +kernel
theorem dX12_anAct_80 : decode cX12_anAct 80 = .ok (.bipush 99, 2) := by decide +kernel
theorem dX12_anAct_82 : decode cX12_anAct 82 = .ok (.invokevirtual 202, 3) := by decide +kernel
theorem dX12_anAct_85 : decode cX12_anAct 85 = .ok (.ifCond .ne 5, 3) := by decide +kernel
theorem dX12_anAct_88 : decode cX12_anAct 88 = .ok (.iconst 0, 1) := by decide +kernel
theorem dX12_anAct_89 : decode cX12_anAct 89 = .ok (.ireturn, 1) := by decide +kernel
theorem dX12_anAct_90 : decode cX12_anAct 90 = .ok (.sipush 2583, 3) := by decide +kernel
theorem dX12_anAct_93 : decode cX12_anAct 93 = .ok (.iconst 2, 1) := by decide +kernel
theorem dX12_anAct_94 : decode cX12_anAct 94 = .ok (.bipush 6, 2) := by decide +kernel
theorem dX12_anAct_96 : decode cX12_anAct 96 = .ok (.aload_n 0, 1) := by decide +kernel
theorem dX12_anAct_97 : decode cX12_anAct 97 = .ok (.getfield 7, 3) := by decide +kernel
theorem dX12_anAct_100 : decode cX12_anAct 100 = .ok (.iload_n 1, 1) := by decide +kernel
theorem dX12_anAct_101 : decode cX12_anAct 101 = .ok (.iaload, 1) := by decide +kernel
theorem dX12_anAct_102 : decode cX12_anAct 102 = .ok (.imul, 1) := by decide +kernel
theorem dX12_anAct_103 : decode cX12_anAct 103 = .ok (.aload_n 0, 1) := by decide +kernel
theorem dX12_anAct_104 : decode cX12_anAct 104 = .ok (.getfield 7, 3) := by decide +kernel
theorem dX12_anAct_107 : decode cX12_anAct 107 = .ok (.iload_n 1, 1) := by decide +kernel
theorem dX12_anAct_108 : decode cX12_anAct 108 = .ok (.iconst 1, 1) := by decide +kernel
theorem dX12_anAct_109 : decode cX12_anAct 109 = .ok (.iadd, 1) := by decide +kernel
theorem dX12_anAct_110 : decode cX12_anAct 110 = .ok (.iaload, 1) := by decide +kernel
theorem dX12_anAct_111 : decode cX12_anAct 111 = .ok (.iadd, 1) := by decide +kernel
theorem dX12_anAct_112 : decode cX12_anAct 112 = .ok (.imul, 1) := by decide +kernel
theorem dX12_anAct_113 : decode cX12_anAct 113 = .ok (.iadd, 1) := by decide +kernel
theorem dX12_anAct_114 : decode cX12_anAct 114 = .ok (.istore_n 2, 1) := by decide +kernel
theorem dX12_anAct_115 : decode cX12_anAct 115 = .ok (.aload_n 0, 1) := by decide +kernel
theorem dX12_anAct_116 : decode cX12_anAct 116 = .ok (.getfield 7, 3) := by decide +kernel
theorem dX12_anAct_119 : decode cX12_anAct 119 = .ok (.iload_n 2, 1) := by decide +kernel
theorem dX12_anAct_120 : decode cX12_anAct 120 = .ok (.aload_n 0, 1) := by decide +kernel
theorem dX12_anAct_121 : decode cX12_anAct 121 = .ok (.getfield 7, 3) := by decide +kernel
theorem dX12_anAct_124 : decode cX12_anAct 124 = .ok (.iload_n 1, 1) := by decide +kernel
theorem dX12_anAct_125 : decode cX12_anAct 125 = .ok (.iconst 2, 1) := by decide +kernel
theorem dX12_anAct_126 : decode cX12_anAct 126 = .ok (.iadd, 1) := by decide +kernel
theorem dX12_anAct_127 : decode cX12_anAct 127 = .ok (.iaload, 1) := by decide +kernel
theorem dX12_anAct_128 : decode cX12_anAct 128 = .ok (.iastore, 1) := by decide +kernel
theorem dX12_anAct_129 : decode cX12_anAct 129 = .ok (.aload_n 0, 1) := by decide +kernel
theorem dX12_anAct_130 : decode cX12_anAct 130 = .ok (.getfield 7, 3) := by decide +kernel
theorem dX12_anAct_133 : decode cX12_anAct 133 = .ok (.iload_n 2, 1) := by decide +kernel
theorem dX12_anAct_134 : decode cX12_anAct 134 = .ok (.iconst 1, 1) := by decide +kernel
theorem dX12_anAct_135 : decode cX12_anAct 135 = .ok (.iadd, 1) := by decide +kernel
theorem dX12_anAct_136 : decode cX12_anAct 136 = .ok (.aload_n 0, 1) := by decide +kernel
theorem dX12_anAct_137 : decode cX12_anAct 137 = .ok (.getfield 7, 3) := by decide +kernel
theorem dX12_anAct_140 : decode cX12_anAct 140 = .ok (.iload_n 1, 1) := by decide +kernel
theorem dX12_anAct_141 : decode cX12_anAct 141 = .ok (.iconst 3, 1) := by decide +kernel
theorem dX12_anAct_142 : decode cX12_anAct 142 = .ok (.iadd, 1) := by decide +kernel
theorem dX12_anAct_143 : decode cX12_anAct 143 = .ok (.iaload, 1) := by decide +kernel
theorem dX12_anAct_144 : decode cX12_anAct 144 = .ok (.iastore, 1) := by decide +kernel
theorem dX12_anAct_145 : decode cX12_anAct 145 = .ok (.iconst 1, 1) := by decide +kernel
theorem dX12_anAct_146 : decode cX12_anAct 146 = .ok (.ireturn, 1) := by decide +kernel
noncomputable def fX12_anAct (rf : Nat → Nat → Nat) (a0 : Nat) (μ0 : o_Mem) : Option (Int32 × o_Mem) :=
  o_bd (fX12_ahead rf a0 μ0) fun _u μ1 =>
  o_bd (fX12_personTo rf a0 3123 μ1) fun r1 μ2 =>
  if r1 = 0 then (
    some (0, μ2))
  else (
    o_bd (fX12_wantWord rf a0 13 μ2) fun r2 μ3 =>
    if r2 = 0 then (
      some (0, μ3))
    else (
      o_bd (fX12_strikeTo rf a0 ((3123 + 1) : Int32) μ3) fun r3 μ4 =>
      if r3 = 0 then (
        some (0, μ4))
      else (
        o_bd (fX12_wantWord rf a0 12 μ4) fun r4 μ5 =>
        if r4 = 0 then (
          some (0, μ5))
        else (
          o_bd (fX12_otherTo rf a0 ((3123 + 2) : Int32) (μ5.1 (rf a0 0) 3123) μ5) fun r5 μ6 =>
          if r5 = 0 then (
            some (0, μ6))
          else (
            o_bd (fX12_wantWord rf a0 14 μ6) fun r6 μ7 =>
            if r6 = 0 then (
              some (0, μ7))
            else (
              o_bd (fX12_number rf a0 ((3123 + 3) : Int32) 1 99 μ7) fun r7 μ8 =>
              if r7 = 0 then (
                some (0, μ8))
              else (
                o_ck (0 ≤ (((3123 + 1) : Int32)).toInt ∧ (((3123 + 1) : Int32)).toInt < 3756) <|
                o_ck (0 ≤ (((3123 + 2) : Int32)).toInt ∧ (((3123 + 2) : Int32)).toInt < 3756) <|
                o_ck (0 ≤ ((2583 + (2 * ((6 * (μ8.1 (rf a0 0) 3123)) + (μ8.1 (rf a0 0) (((3123 + 1) : Int32)).toNatClampNeg))))).toInt ∧ ((2583 + (2 * ((6 * (μ8.1 (rf a0 0) 3123)) + (μ8.1 (rf a0 0) (((3123 + 1) : Int32)).toNatClampNeg))))).toInt < 3756) <|
                o_seq (o_wI μ8 (rf a0 0) (((2583 + (2 * ((6 * (μ8.1 (rf a0 0) 3123)) + (μ8.1 (rf a0 0) (((3123 + 1) : Int32)).toNatClampNeg))))).toNatClampNeg) (μ8.1 (rf a0 0) (((3123 + 2) : Int32)).toNatClampNeg)) fun μ9 =>
                o_ck (0 ≤ (((3123 + 3) : Int32)).toInt ∧ (((3123 + 3) : Int32)).toInt < 3756) <|
                o_ck (0 ≤ (((2583 + (2 * ((6 * (μ8.1 (rf a0 0) 3123)) + (μ8.1 (rf a0 0) (((3123 + 1) : Int32)).toNatClampNeg)))) + 1)).toInt ∧ (((2583 + (2 * ((6 * (μ8.1 (rf a0 0) 3123)) + (μ8.1 (rf a0 0) (((3123 + 1) : Int32)).toNatClampNeg)))) + 1)).toInt < 3756) <|
                o_seq (o_wI μ9 (rf a0 0) ((((2583 + (2 * ((6 * (μ8.1 (rf a0 0) 3123)) + (μ8.1 (rf a0 0) (((3123 + 1) : Int32)).toNatClampNeg)))) + 1)).toNatClampNeg) (μ9.1 (rf a0 0) (((3123 + 3) : Int32)).toNatClampNeg)) fun μ10 =>
                some (1, μ10))))))))
set_option maxRecDepth 20000 in
theorem dnX12_anAct {X : o_Cx} (hX : o_ok X) {d : Nat} {a0 : Nat} {μ0 : o_Mem} {q : Int32 → o_Mem → Prop} (h0 : o_is X a0 (.inl 12)) (h : o_Post (fX12_anAct (o_rf X) a0 μ0) q) : o_Ev X (d + 9) mX12_anAct 0 [some (.ref (o_ad X a0)), none, none] [] μ0 (o_QZ q) := by
  unfold fX12_anAct at h
  refine s_sipush dX12_anAct_0 kS_3123 ?_
  refine s_istore_n (i := 1) dX12_anAct_3 rfl (Nat.le_of_ble_eq_true rfl) rfl ?_
  refine s_aload_n (i := 0) dX12_anAct_4 rfl rfl ?_
  refine s_callVu (C := mX12_ahead) (As := []) (rest := []) (L0 := [some (.ref (o_ad X a0)), none]) hX h0 clX12_163 dX12_anAct_5 rfl rfl (Nat.le_of_ble_eq_true rfl) (Nat.le_of_ble_eq_true rfl) (dnX12_ahead hX h0 (o_bdp h)) (fun _u μ1 h => ?_)
  refine s_aload_n (i := 0) dX12_anAct_8 rfl rfl ?_
  refine s_iload_n (i := 1) dX12_anAct_9 rfl rfl ?_
  refine s_callVz (C := mX12_personTo) (As := [.int 3123]) (rest := []) (L0 := [some (.ref (o_ad X a0)), some (.int 3123)]) hX h0 clX12_193 dX12_anAct_10 rfl rfl (Nat.le_of_ble_eq_true rfl) (Nat.le_of_ble_eq_true rfl) (dnX12_personTo hX h0 (o_bdp h)) (fun r1 μ2 zr1 h => ?_)
  refine s_if_eq (tgt := 88) dX12_anAct_13 rfl (fun c1 => ?_) (fun c1 => ?_)
  · have h := o_if_t c1 h
    refine s_iconst dX12_anAct_88 kI_0 ?_
    exact s_zreturn rfl (Or.inl rfl) dX12_anAct_89 ⟨_, rfl, (Or.inl rfl), o_ret h⟩
  · have h := o_if_f c1 h
    refine s_aload_n (i := 0) dX12_anAct_16 rfl rfl ?_
    refine s_ldcS1 rfl dX12_anAct_17 ?_
    refine s_bipush dX12_anAct_19 kB_13 ?_
    refine s_callVz (C := mX12_wantWord) (As := [.ref (o_aK X 1), .int 13]) (rest := []) (L0 := [some (.ref (o_ad X a0)), some (.ref (o_aK X 1)), some (.int 13)]) hX h0 clX12_205 dX12_anAct_21 rfl rfl (Nat.le_of_ble_eq_true rfl) (Nat.le_of_ble_eq_true rfl) (dnX12_wantWord hX h0 (o_bdp h)) (fun r2 μ3 zr2 h => ?_)
    refine s_if_eq (tgt := 88) dX12_anAct_24 rfl (fun c1 => ?_) (fun c1 => ?_)
    · have h := o_if_t c1 h
      refine s_iconst dX12_anAct_88 kI_0 ?_
      exact s_zreturn rfl (Or.inl rfl) dX12_anAct_89 ⟨_, rfl, (Or.inl rfl), o_ret h⟩
    · have h := o_if_f c1 h
      refine s_aload_n (i := 0) dX12_anAct_27 rfl rfl ?_
      refine s_iload_n (i := 1) dX12_anAct_28 rfl rfl ?_
      refine s_iconst dX12_anAct_29 kI_1 ?_
      refine s_iadd dX12_anAct_30 ?_
      refine s_callVz (C := mX12_strikeTo) (As := [.int ((3123 + 1) : Int32)]) (rest := []) (L0 := [some (.ref (o_ad X a0)), some (.int ((3123 + 1) : Int32))]) hX h0 clX12_212 dX12_anAct_31 rfl rfl (Nat.le_of_ble_eq_true rfl) (Nat.le_of_ble_eq_true rfl) (dnX12_strikeTo hX h0 (o_bdp h)) (fun r3 μ4 zr3 h => ?_)
      refine s_if_eq (tgt := 88) dX12_anAct_34 rfl (fun c1 => ?_) (fun c1 => ?_)
      · have h := o_if_t c1 h
        refine s_iconst dX12_anAct_88 kI_0 ?_
        exact s_zreturn rfl (Or.inl rfl) dX12_anAct_89 ⟨_, rfl, (Or.inl rfl), o_ret h⟩
      · have h := o_if_f c1 h
        refine s_aload_n (i := 0) dX12_anAct_37 rfl rfl ?_
        refine s_ldcS1 rfl dX12_anAct_38 ?_
        refine s_bipush dX12_anAct_40 kB_12 ?_
        refine s_callVz (C := mX12_wantWord) (As := [.ref (o_aK X 1), .int 12]) (rest := []) (L0 := [some (.ref (o_ad X a0)), some (.ref (o_aK X 1)), some (.int 12)]) hX h0 clX12_205 dX12_anAct_42 rfl rfl (Nat.le_of_ble_eq_true rfl) (Nat.le_of_ble_eq_true rfl) (dnX12_wantWord hX h0 (o_bdp h)) (fun r4 μ5 zr4 h => ?_)
        refine s_if_eq (tgt := 88) dX12_anAct_45 rfl (fun c1 => ?_) (fun c1 => ?_)
        · have h := o_if_t c1 h
          refine s_iconst dX12_anAct_88 kI_0 ?_
          exact s_zreturn rfl (Or.inl rfl) dX12_anAct_89 ⟨_, rfl, (Or.inl rfl), o_ret h⟩
        · have h := o_if_f c1 h
          refine s_aload_n (i := 0) dX12_anAct_48 rfl rfl ?_
          refine s_iload_n (i := 1) dX12_anAct_49 rfl rfl ?_
          refine s_iconst dX12_anAct_50 kI_2 ?_
          refine s_iadd dX12_anAct_51 ?_
          refine s_aload_n (i := 0) dX12_anAct_52 rfl rfl ?_
          refine s_getR hX h0 flX12_7 rfl dX12_anAct_53 (fun (g1 : o_is X (o_rf X a0 0) (.inr (0, 3756))) => ?_)
          refine s_iload_n (i := 1) dX12_anAct_56 rfl rfl ?_
          refine s_ialdK g1 ⟨by decide, by decide⟩ kN_3123 dX12_anAct_57 ?_
          refine s_callVz (C := mX12_otherTo) (As := [.int ((3123 + 2) : Int32), .int (μ5.1 (o_rf X a0 0) 3123)]) (rest := []) (L0 := [some (.ref (o_ad X a0)), some (.int ((3123 + 2) : Int32)), some (.int (μ5.1 (o_rf X a0 0) 3123))]) hX h0 clX12_215 dX12_anAct_58 rfl rfl (Nat.le_of_ble_eq_true rfl) (Nat.le_of_ble_eq_true rfl) (dnX12_otherTo hX h0 (o_bdp h)) (fun r5 μ6 zr5 h => ?_)
          refine s_if_eq (tgt := 88) dX12_anAct_61 rfl (fun c1 => ?_) (fun c1 => ?_)
          · have h := o_if_t c1 h
            refine s_iconst dX12_anAct_88 kI_0 ?_
            exact s_zreturn rfl (Or.inl rfl) dX12_anAct_89 ⟨_, rfl, (Or.inl rfl), o_ret h⟩
          · have h := o_if_f c1 h
            refine s_aload_n (i := 0) dX12_anAct_64 rfl rfl ?_
            refine s_ldcS1 rfl dX12_anAct_65 ?_
            refine s_bipush dX12_anAct_67 kB_14 ?_
            refine s_callVz (C := mX12_wantWord) (As := [.ref (o_aK X 1), .int 14]) (rest := []) (L0 := [some (.ref (o_ad X a0)), some (.ref (o_aK X 1)), some (.int 14)]) hX h0 clX12_205 dX12_anAct_69 rfl rfl (Nat.le_of_ble_eq_true rfl) (Nat.le_of_ble_eq_true rfl) (dnX12_wantWord hX h0 (o_bdp h)) (fun r6 μ7 zr6 h => ?_)
            refine s_if_eq (tgt := 88) dX12_anAct_72 rfl (fun c1 => ?_) (fun c1 => ?_)
            · have h := o_if_t c1 h
              refine s_iconst dX12_anAct_88 kI_0 ?_
              exact s_zreturn rfl (Or.inl rfl) dX12_anAct_89 ⟨_, rfl, (Or.inl rfl), o_ret h⟩
            · have h := o_if_f c1 h
              refine s_aload_n (i := 0) dX12_anAct_75 rfl rfl ?_
              refine s_iload_n (i := 1) dX12_anAct_76 rfl rfl ?_
              refine s_iconst dX12_anAct_77 kI_3 ?_
              refine s_iadd dX12_anAct_78 ?_
              refine s_iconst dX12_anAct_79 kI_1 ?_
              refine s_bipush dX12_anAct_80 kB_99 ?_
              refine s_callVz (C := mX12_number) (As := [.int ((3123 + 3) : Int32), .int 1, .int 99]) (rest := []) (L0 := [some (.ref (o_ad X a0)), some (.int ((3123 + 3) : Int32)), some (.int 1), some (.int 99)]) hX h0 clX12_202 dX12_anAct_82 rfl rfl (Nat.le_of_ble_eq_true rfl) (Nat.le_of_ble_eq_true rfl) (dnX12_number hX h0 (o_bdp h)) (fun r7 μ8 zr7 h => ?_)
              refine s_if_ne (tgt := 90) dX12_anAct_85 rfl (fun c1 => ?_) (fun c1 => ?_)
              · have h := o_if_f c1 h
                refine s_sipush dX12_anAct_90 kS_2583 ?_
                refine s_iconst dX12_anAct_93 kI_2 ?_
                refine s_bipush dX12_anAct_94 kB_6 ?_
                refine s_aload_n (i := 0) dX12_anAct_96 rfl rfl ?_
                refine s_getR hX h0 flX12_7 rfl dX12_anAct_97 (fun (g2 : o_is X (o_rf X a0 0) (.inr (0, 3756))) => ?_)
                refine s_iload_n (i := 1) dX12_anAct_100 rfl rfl ?_
                refine s_ialdK g2 ⟨by decide, by decide⟩ kN_3123 dX12_anAct_101 ?_
                refine s_imul dX12_anAct_102 ?_
                refine s_aload_n (i := 0) dX12_anAct_103 rfl rfl ?_
                refine s_getR hX h0 flX12_7 rfl dX12_anAct_104 (fun (g3 : o_is X (o_rf X a0 0) (.inr (0, 3756))) => ?_)
                refine s_iload_n (i := 1) dX12_anAct_107 rfl rfl ?_
                refine s_iconst dX12_anAct_108 kI_1 ?_
                refine s_iadd dX12_anAct_109 ?_
                have hc := o_ck_c h
                have h := o_ck_k h
                refine s_ialdK g3 hc rfl dX12_anAct_110 ?_
                refine s_iadd dX12_anAct_111 ?_
                refine s_imul dX12_anAct_112 ?_
                refine s_iadd dX12_anAct_113 ?_
                refine s_istore_n (i := 2) dX12_anAct_114 rfl (Nat.le_of_ble_eq_true rfl) rfl ?_
                refine s_aload_n (i := 0) dX12_anAct_115 rfl rfl ?_
                refine s_getR hX h0 flX12_7 rfl dX12_anAct_116 (fun (g4 : o_is X (o_rf X a0 0) (.inr (0, 3756))) => ?_)
                refine s_iload_n (i := 2) dX12_anAct_119 rfl rfl ?_
                refine s_aload_n (i := 0) dX12_anAct_120 rfl rfl ?_
                refine s_getR hX h0 flX12_7 rfl dX12_anAct_121 (fun (g5 : o_is X (o_rf X a0 0) (.inr (0, 3756))) => ?_)
                refine s_iload_n (i := 1) dX12_anAct_124 rfl rfl ?_
                refine s_iconst dX12_anAct_125 kI_2 ?_
                refine s_iadd dX12_anAct_126 ?_
                have hc := o_ck_c h
                have h := o_ck_k h
                refine s_ialdK g5 hc rfl dX12_anAct_127 ?_
                have hc := o_ck_c h
                have h := o_ck_k h
                refine s_iastK hX g4 hc rfl dX12_anAct_128 (o_gen h (fun μ9 h => ?_))
                refine s_aload_n (i := 0) dX12_anAct_129 rfl rfl ?_
                refine s_getR hX h0 flX12_7 rfl dX12_anAct_130 (fun (g6 : o_is X (o_rf X a0 0) (.inr (0, 3756))) => ?_)
                refine s_iload_n (i := 2) dX12_anAct_133 rfl rfl ?_
                refine s_iconst dX12_anAct_134 kI_1 ?_
                refine s_iadd dX12_anAct_135 ?_
                refine s_aload_n (i := 0) dX12_anAct_136 rfl rfl ?_
                refine s_getR hX h0 flX12_7 rfl dX12_anAct_137 (fun (g7 : o_is X (o_rf X a0 0) (.inr (0, 3756))) => ?_)
                refine s_iload_n (i := 1) dX12_anAct_140 rfl rfl ?_
                refine s_iconst dX12_anAct_141 kI_3 ?_
                refine s_iadd dX12_anAct_142 ?_
                have hc := o_ck_c h
                have h := o_ck_k h
                refine s_ialdK g7 hc rfl dX12_anAct_143 ?_
                have hc := o_ck_c h
                have h := o_ck_k h
                refine s_iastK hX g6 hc rfl dX12_anAct_144 (o_gen h (fun μ10 h => ?_))
                refine s_iconst dX12_anAct_145 kI_1 ?_
                exact s_zreturn rfl (Or.inr rfl) dX12_anAct_146 ⟨_, rfl, (Or.inr rfl), o_ret h⟩
              · have h := o_if_t c1 h
                refine s_iconst dX12_anAct_88 kI_0 ?_
                exact s_zreturn rfl (Or.inl rfl) dX12_anAct_89 ⟨_, rfl, (Or.inl rfl), o_ret h⟩
theorem dX12_aLetter_0 : decode cX12_aLetter 0 = .ok (.sipush 2655, 3) := by decide +kernel
theorem dX12_aLetter_3 : decode cX12_aLetter 3 = .ok (.iconst 4, 1) := by decide +kernel
theorem dX12_aLetter_4 : decode cX12_aLetter 4 = .ok (.aload_n 0, 1) := by decide +kernel
theorem dX12_aLetter_5 : decode cX12_aLetter 5 = .ok (.getfield 7, 3) := by decide +kernel
theorem dX12_aLetter_8 : decode cX12_aLetter 8 = .ok (.sipush 2508, 3) := by decide +kernel
theorem dX12_aLetter_11 : decode cX12_aLetter 11 = .ok (.iaload, 1) := by decide +kernel
theorem dX12_aLetter_12 : decode cX12_aLetter 12 = .ok (.imul, 1) := by decide +kernel
theorem dX12_aLetter_13 : decode cX12_aLetter 13 = .ok (.iadd, 1) := by decide +kernel
theorem dX12_aLetter_14 : decode cX12_aLetter 14 = .ok (.istore_n 1, 1) := by decide +kernel
theorem dX12_aLetter_15 : decode cX12_aLetter 15 = .ok (.aload_n 0, 1) := by decide +kernel
theorem dX12_aLetter_16 : decode cX12_aLetter 16 = .ok (.getfield 7, 3) := by decide +kernel
theorem dX12_aLetter_19 : decode cX12_aLetter 19 = .ok (.sipush 2508, 3) := by decide +kernel
theorem dX12_aLetter_22 : decode cX12_aLetter 22 = .ok (.iaload, 1) := by decide +kernel
theorem dX12_aLetter_23 : decode cX12_aLetter 23 = .ok (.bipush 12, 2) := by decide +kernel
theorem dX12_aLetter_25 : decode cX12_aLetter 25 = .ok (.if_icmp .ne 10, 3) := by decide +kernel
theorem dX12_aLetter_28 : decode cX12_aLetter 28 = .ok (.aload_n 0, 1) := by decide +kernel
theorem dX12_aLetter_29 : decode cX12_aLetter 29 = .ok (.bipush 6, 2) := by decide +kernel
theorem dX12_aLetter_31 : decode cX12_aLetter 31 = .ok (.invokevirtual 169, 3) := by decide +kernel
theorem dX12_aLetter_34 : decode cX12_aLetter 34 = .ok (.ireturn, 1) := by decide +kernel
theorem dX12_aLetter_35 : decode cX12_aLetter 35 = .ok (.aload_n 0, 1) := by decide +kernel
theorem dX12_aLetter_36 : decode cX12_aLetter 36 = .ok (.invokevirtual 163, 3) := by decide +kernel
theorem dX12_aLetter_39 : decode cX12_aLetter 39 = .ok (.aload_n 0, 1) := by decide +kernel
theorem dX12_aLetter_40 : decode cX12_aLetter 40 = .ok (.iload_n 1, 1) := by decide +kernel
theorem dX12_aLetter_41 : decode cX12_aLetter 41 = .ok (.invokevirtual 193, 3) := by decide +kernel
theorem dX12_aLetter_44 : decode cX12_aLetter 44 = .ok (.ifCond .eq 43, 3) := by decide +kernel
theorem dX12_aLetter_47 : decode cX12_aLetter 47 = .ok (.aload_n 0, 1) := by decide +kernel
theorem dX12_aLetter_48 : decode cX12_aLetter 48 = .ok (.iload_n 1, 1) := by decide +kernel
theorem dX12_aLetter_49 : decode cX12_aLetter 49 = .ok (.iconst 1, 1) := by decide +kernel
theorem dX12_aLetter_50 : decode cX12_aLetter 50 = .ok (.iadd, 1) := by decide +kernel
theorem dX12_aLetter_51 : decode cX12_aLetter 51 = .ok (.aload_n 0, 1) := by decide +kernel
theorem dX12_aLetter_52 : decode cX12_aLetter 52 = .ok (.getfield 7, 3) := by decide +kernel
theorem dX12_aLetter_55 : decode cX12_aLetter 55 = .ok (.iload_n 1, 1) := by decide +kernel
theorem dX12_aLetter_56 : decode cX12_aLetter 56 = .ok (.iaload, 1) := by decide +kernel
theorem dX12_aLetter_57 : decode cX12_aLetter 57 = .ok (.invokevirtual 215, 3) := by decide +kernel
theorem dX12_aLetter_60 : decode cX12_aLetter 60 = .ok (.ifCond .eq 27, 3) := by decide +kernel
theorem dX12_aLetter_63 : decode cX12_aLetter 63 = .ok (.aload_n 0, 1) := by decide +kernel
theorem dX12_aLetter_64 : decode cX12_aLetter 64 = .ok (.ldc 180, 2) := by decide +kernel
theorem dX12_aLetter_66 : decode cX12_aLetter 66 = .ok (.bipush 14, 2) := by decide +kernel
theorem dX12_aLetter_68 : decode cX12_aLetter 68 = .ok (.invokevirtual 205, 3) := by decide +kernel
theorem dX12_aLetter_71 : decode cX12_aLetter 71 = .ok (.ifCond .eq 16, 3) := by decide +kernel
theorem dX12_aLetter_74 : decode cX12_aLetter 74 = .ok (.aload_n 0, 1) := by decide +kernel
theorem dX12_aLetter_75 : decode cX12_aLetter 75 = .ok (.iload_n 1, 1) := by decide +kernel
theorem dX12_aLetter_76 : decode cX12_aLetter 76 = .ok (.iconst 2, 1) := by decide +kernel
theorem dX12_aLetter_77 : decode cX12_aLetter 77 = .ok (.iadd, 1) := by decide +kernel
theorem dX12_aLetter_78 : decode cX12_aLetter 78 = .ok (.iconst 1, 1) := by decide +kernel
theorem dX12_aLetter_79 : decode cX12_aLetter 79 = .ok (.bipush 99, 2) := by decide +kernel
theorem dX12_aLetter_81 : decode cX12_aLetter 81 = .ok (.invokevirtual 202, 3) := by decide +kernel
theorem dX12_aLetter_84 : decode cX12_aLetter 84 = .ok (.ifCond .ne 5, 3) := by decide +kernel
theorem dX12_aLetter_87 : decode cX12_aLetter 87 = .ok (.iconst 0, 1) := by decide +kernel
theorem dX12_aLetter_88 : decode cX12_aLetter 88 = .ok (.ireturn, 1) := by decide +kernel
theorem dX12_aLetter_89 : decode cX12_aLetter 89 = .ok (.aload_n 0, 1) := by decide +kernel
theorem dX12_aLetter_90 : decode cX12_aLetter 90 = .ok (.getfield 7, 3) := by decide +kernel
theorem dX12_aLetter_93 : decode cX12_aLetter 93 = .ok (.iload_n 1, 1) := by decide +kernel
theorem dX12_aLetter_94 : decode cX12_aLetter 94 = .ok (.iconst 3, 1) := by decide +kernel
theorem dX12_aLetter_95 : decode cX12_aLetter 95 = .ok (.iadd, 1) := by decide +kernel
theorem dX12_aLetter_96 : decode cX12_aLetter 96 = .ok (.aload_n 0, 1) := by decide +kernel
theorem dX12_aLetter_97 : decode cX12_aLetter 97 = .ok (.getfield 7, 3) := by decide +kernel
theorem dX12_aLetter_100 : decode cX12_aLetter 100 = .ok (.sipush 2529, 3) := by decide +kernel
theorem dX12_aLetter_103 : decode cX12_aLetter 103 = .ok (.aload_n 0, 1) := by decide +kernel
theorem dX12_aLetter_104 : decode cX12_aLetter 104 = .ok (.getfield 7, 3) := by decide +kernel
theorem dX12_aLetter_107 : decode cX12_aLetter 107 = .ok (.iload_n 1, 1) := by decide +kernel
theorem dX12_aLetter_108 : decode cX12_aLetter 108 = .ok (.iaload, 1) := by decide +kernel
theorem dX12_aLetter_109 : decode cX12_aLetter 109 = .ok (.iadd, 1) := by decide +kernel
theorem dX12_aLetter_110 : decode cX12_aLetter 110 = .ok (.iaload, 1) := by decide +kernel
theorem dX12_aLetter_111 : decode cX12_aLetter 111 = .ok (.iastore, 1) := by decide +kernel
theorem dX12_aLetter_112 : decode cX12_aLetter 112 = .ok (.aload_n 0, 1) := by decide +kernel
theorem dX12_aLetter_113 : decode cX12_aLetter 113 = .ok (.bipush 10, 2) := by decide +kernel
theorem dX12_aLetter_115 : decode cX12_aLetter 115 = .ok (.invokevirtual 199, 3) := by decide +kernel
theorem dX12_aLetter_118 : decode cX12_aLetter 118 = .ok (.ifCond .eq 15, 3) := by decide +kernel
theorem dX12_aLetter_121 : decode cX12_aLetter 121 = .ok (.aload_n 0, 1) := by decide +kernel
theorem dX12_aLetter_122 : decode cX12_aLetter 122 = .ok (.iload_n 1, 1) := by decide +kernel
theorem dX12_aLetter_123 : decode cX12_aLetter 123 = .ok (.iconst 3, 1) := by decide +kernel
theorem dX12_aLetter_124 : decode cX12_aLetter 124 = .ok (.iadd, 1) := by decide +kernel
theorem dX12_aLetter_125 : decode cX12_aLetter 125 = .ok (.invokevirtual 209, 3) := by decide +kernel
theorem dX12_aLetter_128 : decode cX12_aLetter 128 = .ok (.ifCond .ne 5, 3) := by decide +kernel
theorem dX12_aLetter_131 : decode cX12_aLetter 131 = .ok (.iconst 0, 1) := by decide +kernel
theorem dX12_aLetter_132 : decode cX12_aLetter 132 = .ok (.ireturn, 1) := by decide +kernel
theorem dX12_aLetter_133 : decode cX12_aLetter 133 = .ok (.aload_n 0, 1) := by decide +kernel
theorem dX12_aLetter_134 : decode cX12_aLetter 134 = .ok (.getfield 7, 3) := by decide +kernel
theorem dX12_aLetter_137 : decode cX12_aLetter 137 = .ok (.sipush 2508, 3) := by decide +kernel
theorem dX12_aLetter_140 : decode cX12_aLetter 140 = .ok (.dup2, 1) := by decide +kernel
theorem dX12_aLetter_141 : decode cX12_aLetter 141 = .ok (.iaload, 1) := by decide +kernel
theorem dX12_aLetter_142 : decode cX12_aLetter 142 = .ok (.iconst 1, 1) := by decide +kernel
theorem dX12_aLetter_143 : decode cX12_aLetter 143 = .ok (.iadd, 1) := by decide +kernel
theorem dX12_aLetter_144 : decode cX12_aLetter 144 = .ok (.iastore, 1) := by decide +kernel
theorem dX12_aLetter_145 : decode cX12_aLetter 145 = .ok (.iconst 1, 1) := by decide +kernel
theorem dX12_aLetter_146 : decode cX12_aLetter 146 = .ok (.ireturn, 1) := by decide +kernel
noncomputable def fX12_aLetter_j133 (rf : Nat → Nat → Nat) (a0 : Nat) (μ0 : o_Mem) : Option (Int32 × o_Mem) :=
  o_seq (o_wI μ0 (rf a0 0) 2508 ((μ0.1 (rf a0 0) 2508) + 1)) fun μ1 =>
  some (1, μ1)
noncomputable def fX12_aLetter (rf : Nat → Nat → Nat) (a0 : Nat) (μ0 : o_Mem) : Option (Int32 × o_Mem) :=
  if (μ0.1 (rf a0 0) 2508) = 12 then (
    o_bd (fX12_fails rf a0 6 μ0) fun r7 μ9 =>
    some (r7, μ9))
  else (
    o_bd (fX12_ahead rf a0 μ0) fun _u μ1 =>
    o_bd (fX12_personTo rf a0 (2655 + (4 * (μ0.1 (rf a0 0) 2508))) μ1) fun r1 μ2 =>
    if r1 = 0 then (
      some (0, μ2))
    else (
      o_ck (0 ≤ ((2655 + (4 * (μ0.1 (rf a0 0) 2508)))).toInt ∧ ((2655 + (4 * (μ0.1 (rf a0 0) 2508)))).toInt < 3756) <|
      o_bd (fX12_otherTo rf a0 ((2655 + (4 * (μ0.1 (rf a0 0) 2508))) + 1) (μ2.1 (rf a0 0) ((2655 + (4 * (μ0.1 (rf a0 0) 2508)))).toNatClampNeg) μ2) fun r2 μ3 =>
      if r2 = 0 then (
        some (0, μ3))
      else (
        o_bd (fX12_wantWord rf a0 14 μ3) fun r3 μ4 =>
        if r3 = 0 then (
          some (0, μ4))
        else (
          o_bd (fX12_number rf a0 ((2655 + (4 * (μ0.1 (rf a0 0) 2508))) + 2) 1 99 μ4) fun r4 μ5 =>
          if r4 = 0 then (
            some (0, μ5))
          else (
            o_ck (0 ≤ ((2655 + (4 * (μ0.1 (rf a0 0) 2508)))).toInt ∧ ((2655 + (4 * (μ0.1 (rf a0 0) 2508)))).toInt < 3756) <|
            o_ck (0 ≤ ((2529 + (μ5.1 (rf a0 0) ((2655 + (4 * (μ0.1 (rf a0 0) 2508)))).toNatClampNeg))).toInt ∧ ((2529 + (μ5.1 (rf a0 0) ((2655 + (4 * (μ0.1 (rf a0 0) 2508)))).toNatClampNeg))).toInt < 3756) <|
            o_ck (0 ≤ (((2655 + (4 * (μ0.1 (rf a0 0) 2508))) + 3)).toInt ∧ (((2655 + (4 * (μ0.1 (rf a0 0) 2508))) + 3)).toInt < 3756) <|
            o_seq (o_wI μ5 (rf a0 0) ((((2655 + (4 * (μ0.1 (rf a0 0) 2508))) + 3)).toNatClampNeg) (μ5.1 (rf a0 0) ((2529 + (μ5.1 (rf a0 0) ((2655 + (4 * (μ0.1 (rf a0 0) 2508)))).toNatClampNeg))).toNatClampNeg)) fun μ6 =>
            o_bd (fX12_isThere rf a0 10 μ6) fun r5 μ7 =>
            if r5 = 0 then (
              fX12_aLetter_j133 rf a0 μ7)
            else (
              o_bd (fX12_handTo rf a0 ((2655 + (4 * (μ0.1 (rf a0 0) 2508))) + 3) μ7) fun r6 μ8 =>
              if r6 = 0 then (
                some (0, μ8))
              else (
                fX12_aLetter_j133 rf a0 μ8)))))))
set_option maxRecDepth 20000 in
theorem dnX12_aLetter_j133 {X : o_Cx} (hX : o_ok X) {d : Nat} {a0 : Nat} {μ0 : o_Mem} {q : Int32 → o_Mem → Prop} (h0 : o_is X a0 (.inl 12)) (h : o_Post (fX12_aLetter_j133 (o_rf X) a0 μ0) q) : o_Ev X (d + 9) mX12_aLetter 133 [some (.ref (o_ad X a0)), none] [] μ0 (o_QZ q) := by
  unfold fX12_aLetter_j133 at h
  refine s_aload_n (i := 0) dX12_aLetter_133 rfl rfl ?_
  refine s_getR hX h0 flX12_7 rfl dX12_aLetter_134 (fun (g1 : o_is X (o_rf X a0 0) (.inr (0, 3756))) => ?_)
  refine s_sipush dX12_aLetter_137 kS_2508 ?_
  refine s_dup2 dX12_aLetter_140 rfl rfl ?_
  refine s_ialdK g1 ⟨by decide, by decide⟩ kN_2508 dX12_aLetter_141 ?_
  refine s_iconst dX12_aLetter_142 kI_1 ?_
  refine s_iadd dX12_aLetter_143 ?_
  refine s_iastK hX g1 ⟨by decide, by decide⟩ kN_2508 dX12_aLetter_144 (o_gen h (fun μ1 h => ?_))
  refine s_iconst dX12_aLetter_145 kI_1 ?_
  exact s_zreturn rfl (Or.inr rfl) dX12_aLetter_146 ⟨_, rfl, (Or.inr rfl), o_ret h⟩
set_option maxRecDepth 20000 in
theorem dnX12_aLetter {X : o_Cx} (hX : o_ok X) {d : Nat} {a0 : Nat} {μ0 : o_Mem} {q : Int32 → o_Mem → Prop} (h0 : o_is X a0 (.inl 12)) (h : o_Post (fX12_aLetter (o_rf X) a0 μ0) q) : o_Ev X (d + 9) mX12_aLetter 0 [some (.ref (o_ad X a0)), none] [] μ0 (o_QZ q) := by
  unfold fX12_aLetter at h
  refine s_sipush dX12_aLetter_0 kS_2655 ?_
  refine s_iconst dX12_aLetter_3 kI_4 ?_
  refine s_aload_n (i := 0) dX12_aLetter_4 rfl rfl ?_
  refine s_getR hX h0 flX12_7 rfl dX12_aLetter_5 (fun (g1 : o_is X (o_rf X a0 0) (.inr (0, 3756))) => ?_)
  refine s_sipush dX12_aLetter_8 kS_2508 ?_
  refine s_ialdK g1 ⟨by decide, by decide⟩ kN_2508 dX12_aLetter_11 ?_
  refine s_imul dX12_aLetter_12 ?_
  refine s_iadd dX12_aLetter_13 ?_
  refine s_istore_n (i := 1) dX12_aLetter_14 rfl (Nat.le_of_ble_eq_true rfl) rfl ?_
  refine s_aload_n (i := 0) dX12_aLetter_15 rfl rfl ?_
  refine s_getR hX h0 flX12_7 rfl dX12_aLetter_16 (fun (g2 : o_is X (o_rf X a0 0) (.inr (0, 3756))) => ?_)
  refine s_sipush dX12_aLetter_19 kS_2508 ?_
  refine s_ialdK g2 ⟨by decide, by decide⟩ kN_2508 dX12_aLetter_22 ?_
  refine s_bipush dX12_aLetter_23 kB_12 ?_
  refine s_icmp_ne (tgt := 35) dX12_aLetter_25 rfl (fun c1 => ?_) (fun c1 => ?_)
  · have h := o_if_f c1 h
    refine s_aload_n (i := 0) dX12_aLetter_35 rfl rfl ?_
    refine s_callVu (C := mX12_ahead) (As := []) (rest := []) (L0 := [some (.ref (o_ad X a0)), none]) hX h0 clX12_163 dX12_aLetter_36 rfl rfl (Nat.le_of_ble_eq_true rfl) (Nat.le_of_ble_eq_true rfl) (dnX12_ahead hX h0 (o_bdp h)) (fun _u μ1 h => ?_)
    refine s_aload_n (i := 0) dX12_aLetter_39 rfl rfl ?_
    refine s_iload_n (i := 1) dX12_aLetter_40 rfl rfl ?_
    refine s_callVz (C := mX12_personTo) (As := [.int (2655 + (4 * (μ0.1 (o_rf X a0 0) 2508)))]) (rest := []) (L0 := [some (.ref (o_ad X a0)), some (.int (2655 + (4 * (μ0.1 (o_rf X a0 0) 2508))))]) hX h0 clX12_193 dX12_aLetter_41 rfl rfl (Nat.le_of_ble_eq_true rfl) (Nat.le_of_ble_eq_true rfl) (dnX12_personTo hX h0 (o_bdp h)) (fun r1 μ2 zr1 h => ?_)
    refine s_if_eq (tgt := 87) dX12_aLetter_44 rfl (fun c1 => ?_) (fun c1 => ?_)
    · have h := o_if_t c1 h
      refine s_iconst dX12_aLetter_87 kI_0 ?_
      exact s_zreturn rfl (Or.inl rfl) dX12_aLetter_88 ⟨_, rfl, (Or.inl rfl), o_ret h⟩
    · have h := o_if_f c1 h
      refine s_aload_n (i := 0) dX12_aLetter_47 rfl rfl ?_
      refine s_iload_n (i := 1) dX12_aLetter_48 rfl rfl ?_
      refine s_iconst dX12_aLetter_49 kI_1 ?_
      refine s_iadd dX12_aLetter_50 ?_
      refine s_aload_n (i := 0) dX12_aLetter_51 rfl rfl ?_
      refine s_getR hX h0 flX12_7 rfl dX12_aLetter_52 (fun (g3 : o_is X (o_rf X a0 0) (.inr (0, 3756))) => ?_)
      refine s_iload_n (i := 1) dX12_aLetter_55 rfl rfl ?_
      have hc := o_ck_c h
      have h := o_ck_k h
      refine s_ialdK g3 hc rfl dX12_aLetter_56 ?_
      refine s_callVz (C := mX12_otherTo) (As := [.int ((2655 + (4 * (μ0.1 (o_rf X a0 0) 2508))) + 1), .int (μ2.1 (o_rf X a0 0) ((2655 + (4 * (μ0.1 (o_rf X a0 0) 2508)))).toNatClampNeg)]) (rest := []) (L0 := [some (.ref (o_ad X a0)), some (.int ((2655 + (4 * (μ0.1 (o_rf X a0 0) 2508))) + 1)), some (.int (μ2.1 (o_rf X a0 0) ((2655 + (4 * (μ0.1 (o_rf X a0 0) 2508)))).toNatClampNeg))]) hX h0 clX12_215 dX12_aLetter_57 rfl rfl (Nat.le_of_ble_eq_true rfl) (Nat.le_of_ble_eq_true rfl) (dnX12_otherTo hX h0 (o_bdp h)) (fun r2 μ3 zr2 h => ?_)
      refine s_if_eq (tgt := 87) dX12_aLetter_60 rfl (fun c1 => ?_) (fun c1 => ?_)
      · have h := o_if_t c1 h
        refine s_iconst dX12_aLetter_87 kI_0 ?_
        exact s_zreturn rfl (Or.inl rfl) dX12_aLetter_88 ⟨_, rfl, (Or.inl rfl), o_ret h⟩
      · have h := o_if_f c1 h
        refine s_aload_n (i := 0) dX12_aLetter_63 rfl rfl ?_
        refine s_ldcS1 rfl dX12_aLetter_64 ?_
        refine s_bipush dX12_aLetter_66 kB_14 ?_
        refine s_callVz (C := mX12_wantWord) (As := [.ref (o_aK X 1), .int 14]) (rest := []) (L0 := [some (.ref (o_ad X a0)), some (.ref (o_aK X 1)), some (.int 14)]) hX h0 clX12_205 dX12_aLetter_68 rfl rfl (Nat.le_of_ble_eq_true rfl) (Nat.le_of_ble_eq_true rfl) (dnX12_wantWord hX h0 (o_bdp h)) (fun r3 μ4 zr3 h => ?_)
        refine s_if_eq (tgt := 87) dX12_aLetter_71 rfl (fun c1 => ?_) (fun c1 => ?_)
        · have h := o_if_t c1 h
          refine s_iconst dX12_aLetter_87 kI_0 ?_
          exact s_zreturn rfl (Or.inl rfl) dX12_aLetter_88 ⟨_, rfl, (Or.inl rfl), o_ret h⟩
        · have h := o_if_f c1 h
          refine s_aload_n (i := 0) dX12_aLetter_74 rfl rfl ?_
          refine s_iload_n (i := 1) dX12_aLetter_75 rfl rfl ?_
          refine s_iconst dX12_aLetter_76 kI_2 ?_
          refine s_iadd dX12_aLetter_77 ?_
          refine s_iconst dX12_aLetter_78 kI_1 ?_
          refine s_bipush dX12_aLetter_79 kB_99 ?_
          refine s_callVz (C := mX12_number) (As := [.int ((2655 + (4 * (μ0.1 (o_rf X a0 0) 2508))) + 2), .int 1, .int 99]) (rest := []) (L0 := [some (.ref (o_ad X a0)), some (.int ((2655 + (4 * (μ0.1 (o_rf X a0 0) 2508))) + 2)), some (.int 1), some (.int 99)]) hX h0 clX12_202 dX12_aLetter_81 rfl rfl (Nat.le_of_ble_eq_true rfl) (Nat.le_of_ble_eq_true rfl) (dnX12_number hX h0 (o_bdp h)) (fun r4 μ5 zr4 h => ?_)
          refine s_if_ne (tgt := 89) dX12_aLetter_84 rfl (fun c1 => ?_) (fun c1 => ?_)
          · have h := o_if_f c1 h
            refine s_aload_n (i := 0) dX12_aLetter_89 rfl rfl ?_
            refine s_getR hX h0 flX12_7 rfl dX12_aLetter_90 (fun (g4 : o_is X (o_rf X a0 0) (.inr (0, 3756))) => ?_)
            refine s_iload_n (i := 1) dX12_aLetter_93 rfl rfl ?_
            refine s_iconst dX12_aLetter_94 kI_3 ?_
            refine s_iadd dX12_aLetter_95 ?_
            refine s_aload_n (i := 0) dX12_aLetter_96 rfl rfl ?_
            refine s_getR hX h0 flX12_7 rfl dX12_aLetter_97 (fun (g5 : o_is X (o_rf X a0 0) (.inr (0, 3756))) => ?_)
            refine s_sipush dX12_aLetter_100 kS_2529 ?_
            refine s_aload_n (i := 0) dX12_aLetter_103 rfl rfl ?_
            refine s_getR hX h0 flX12_7 rfl dX12_aLetter_104 (fun (g6 : o_is X (o_rf X a0 0) (.inr (0, 3756))) => ?_)
            refine s_iload_n (i := 1) dX12_aLetter_107 rfl rfl ?_
            have hc := o_ck_c h
            have h := o_ck_k h
            refine s_ialdK g6 hc rfl dX12_aLetter_108 ?_
            refine s_iadd dX12_aLetter_109 ?_
            have hc := o_ck_c h
            have h := o_ck_k h
            refine s_ialdK g5 hc rfl dX12_aLetter_110 ?_
            have hc := o_ck_c h
            have h := o_ck_k h
            refine s_iastK hX g4 hc rfl dX12_aLetter_111 (o_gen h (fun μ6 h => ?_))
            refine s_aload_n (i := 0) dX12_aLetter_112 rfl rfl ?_
            refine s_bipush dX12_aLetter_113 kB_10 ?_
            refine s_callVz (C := mX12_isThere) (As := [.int 10]) (rest := []) (L0 := [some (.ref (o_ad X a0)), some (.int 10)]) hX h0 clX12_199 dX12_aLetter_115 rfl rfl (Nat.le_of_ble_eq_true rfl) (Nat.le_of_ble_eq_true rfl) (dnX12_isThere hX h0 (o_bdp h)) (fun r5 μ7 zr5 h => ?_)
            refine s_if_eq (tgt := 133) dX12_aLetter_118 rfl (fun c1 => ?_) (fun c1 => ?_)
            · have h := o_if_t c1 h
              refine s_mask [true, false] (L' := [some (.ref (o_ad X a0)), none]) rfl ?_
              exact dnX12_aLetter_j133 hX h0 h
            · have h := o_if_f c1 h
              refine s_aload_n (i := 0) dX12_aLetter_121 rfl rfl ?_
              refine s_iload_n (i := 1) dX12_aLetter_122 rfl rfl ?_
              refine s_iconst dX12_aLetter_123 kI_3 ?_
              refine s_iadd dX12_aLetter_124 ?_
              refine s_callVz (C := mX12_handTo) (As := [.int ((2655 + (4 * (μ0.1 (o_rf X a0 0) 2508))) + 3)]) (rest := []) (L0 := [some (.ref (o_ad X a0)), some (.int ((2655 + (4 * (μ0.1 (o_rf X a0 0) 2508))) + 3))]) hX h0 clX12_209 dX12_aLetter_125 rfl rfl (Nat.le_of_ble_eq_true rfl) (Nat.le_of_ble_eq_true rfl) (dnX12_handTo hX h0 (o_bdp h)) (fun r6 μ8 zr6 h => ?_)
              refine s_if_ne (tgt := 133) dX12_aLetter_128 rfl (fun c1 => ?_) (fun c1 => ?_)
              · have h := o_if_f c1 h
                refine s_mask [true, false] (L' := [some (.ref (o_ad X a0)), none]) rfl ?_
                exact dnX12_aLetter_j133 hX h0 h
              · have h := o_if_t c1 h
                refine s_iconst dX12_aLetter_131 kI_0 ?_
                exact s_zreturn rfl (Or.inl rfl) dX12_aLetter_132 ⟨_, rfl, (Or.inl rfl), o_ret h⟩
          · have h := o_if_t c1 h
            refine s_iconst dX12_aLetter_87 kI_0 ?_
            exact s_zreturn rfl (Or.inl rfl) dX12_aLetter_88 ⟨_, rfl, (Or.inl rfl), o_ret h⟩
  · have h := o_if_t c1 h
    refine s_aload_n (i := 0) dX12_aLetter_28 rfl rfl ?_
    refine s_bipush dX12_aLetter_29 kB_6 ?_
    refine s_callVz (C := mX12_fails) (As := [.int 6]) (rest := []) (L0 := [some (.ref (o_ad X a0)), some (.int 6)]) hX h0 clX12_169 dX12_aLetter_31 rfl rfl (Nat.le_of_ble_eq_true rfl) (Nat.le_of_ble_eq_true rfl) (dnX12_fails hX h0 (o_bdp h)) (fun r7 μ9 zr7 h => ?_)
    exact s_zreturn rfl zr7 dX12_aLetter_34 ⟨_, rfl, zr7, o_ret h⟩
