theorem dX9_takeStrike_0 : decode cX9_takeStrike 0 = .ok (.aload_n 0, 1) := by decide +kernel
theorem dX9_takeStrike_1 : decode cX9_takeStrike 1 = .ok (.getfield 15, 3) := by decide +kernel
theorem dX9_takeStrike_4 : decode cX9_takeStrike 4 = .ok (.getfield 89, 3) := by decide +kernel
theorem dX9_takeStrike_7 : decode cX9_takeStrike 7 = .ok (.bipush 6, 2) := by decide +kernel
theorem dX9_takeStrike_9 : decode cX9_takeStrike 9 = .ok (.if_icmp .lt 13, 3) := by decide +kernel
theorem dX9_takeStrike_12 : decode cX9_takeStrike 12 = .ok (.aload_n 0, 1) := by decide +kernel
theorem dX9_takeStrike_13 : decode cX9_takeStrike 13 = .ok (.getfield 9, 3) := by decide +kernel
theorem dX9_takeStrike_16 : decode cX9_takeStrike 16 = .ok (.bipush 6, 2) := by decide +kernel
theorem dX9_takeStrike_18 : decode cX9_takeStrike 18 = .ok (.invokevirtual 63, 3) := by decide +kernel
theorem dX9_takeStrike_21 : decode cX9_takeStrike 21 = .ok (.ireturn, 1) := by decide +kernel
theorem dX9_takeStrike_22 : decode cX9_takeStrike 22 = .ok (.aload_n 0, 1) := by decide +kernel
theorem dX9_takeStrike_23 : decode cX9_takeStrike 23 = .ok (.getfield 9, 3) := by decide +kernel
theorem dX9_takeStrike_26 : decode cX9_takeStrike 26 = .ok (.invokevirtual 86, 3) := by decide +kernel
theorem dX9_takeStrike_29 : decode cX9_takeStrike 29 = .ok (.aload_n 0, 1) := by decide +kernel
theorem dX9_takeStrike_30 : decode cX9_takeStrike 30 = .ok (.iconst 0, 1) := by decide +kernel
theorem dX9_takeStrike_31 : decode cX9_takeStrike 31 = .ok (.invokevirtual 92, 3) := by decide +kernel
theorem dX9_takeStrike_34 : decode cX9_takeStrike 34 = .ok (.ifCond .ne 5, 3) := by decide +kernel
theorem dX9_takeStrike_37 : decode cX9_takeStrike 37 = .ok (.iconst 0, 1) := by decide +kernel
theorem dX9_takeStrike_38 : decode cX9_takeStrike 38 = .ok (.ireturn, 1) := by decide +kernel
theorem dX9_takeStrike_39 : decode cX9_takeStrike 39 = .ok (.iconst 1, 1) := by decide +kernel
theorem dX9_takeStrike_40 : decode cX9_takeStrike 40 = .ok (.istore_n 1, 1) := by decide +kernel
theorem dX9_takeStrike_41 : decode cX9_takeStrike 41 = .ok (.aload_n 0, 1) := by decide +kernel
theorem dX9_takeStrike_42 : decode cX9_takeStrike 42 = .ok (.getfield 9, 3) := by decide +kernel
theorem dX9_takeStrike_45 : decode cX9_takeStrike 45 = .ok (.getfield 38, 3) := by decide +kernel
theorem dX9_takeStrike_48 : decode cX9_takeStrike 48 = .ok (.iconst 1, 1) := by decide +kernel
theorem dX9_takeStrike_49 : decode cX9_takeStrike 49 = .ok (.if_icmp .ne 28, 3) := by decide +kernel
theorem dX9_takeStrike_52 : decode cX9_takeStrike 52 = .ok (.aload_n 0, 1) := by decide +kernel
theorem dX9_takeStrike_53 : decode cX9_takeStrike 53 = .ok (.getfield 9, 3) := by decide +kernel
theorem dX9_takeStrike_56 : decode cX9_takeStrike 56 = .ok (.invokevirtual 86, 3) := by decide +kernel
theorem dX9_takeStrike_59 : decode cX9_takeStrike 59 = .ok (.aload_n 0, 1) := by decide +kernel
theorem dX9_takeStrike_60 : decode cX9_takeStrike 60 = .ok (.getfield 9, 3) := by decide +kernel
theorem dX9_takeStrike_63 : decode cX9_takeStrike 63 = .ok (.iconst 0, 1) := by decide +kernel
theorem dX9_takeStrike_64 : decode cX9_takeStrike 64 = .ok (.bipush 9, 2) := by decide +kernel
theorem dX9_takeStrike_66 : decode cX9_takeStrike 66 = .ok (.invokevirtual 95, 3) := by decide +kernel
theorem dX9_takeStrike_69 : decode cX9_takeStrike 69 = .ok (.istore_n 1, 1) := by decide +kernel
theorem dX9_takeStrike_70 : decode cX9_takeStrike 70 = .ok (.iload_n 1, 1) := by decide +kernel
theorem dX9_takeStrike_71 : decode cX9_takeStrike 71 = .ok (.iconst (-1), 1) := by decide +kernel
theorem dX9_takeStrike_72 : decode cX9_takeStrike 72 = .ok (.if_icmp .ne 5, 3) := by decide +kernel
theorem dX9_takeStrike_75 : decode cX9_takeStrike 75 = .ok (.iconst 0, 1) := by decide +kernel
theorem dX9_takeStrike_76 : decode cX9_takeStrike 76 = .ok (.ireturn, 1) := by decide +kernel
theorem dX9_takeStrike_77 : decode cX9_takeStrike 77 = .ok (.aload_n 0, 1) := by decide +kernel
theorem dX9_takeStrike_78 : decode cX9_takeStrike 78 = .ok (.getfield 15, 3) := by decide +kernel
theorem dX9_takeStrike_81 : decode cX9_takeStrike 81 = .ok (.getfield 99, 3) := by decide +kernel
theorem dX9_takeStrike_84 : decode cX9_takeStrike 84 = .ok (.aload_n 0, 1) := by decide +kernel
theorem dX9_takeStrike_85 : decode cX9_takeStrike 85 = .ok (.getfield 15, 3) := by decide +kernel
theorem dX9_takeStrike_88 : decode cX9_takeStrike 88 = .ok (.getfield 89, 3) := by decide +kernel
theorem dX9_takeStrike_91 : decode cX9_takeStrike 91 = .ok (.iload_n 1, 1) := by decide +kernel
theorem dX9_takeStrike_92 : decode cX9_takeStrike 92 = .ok (.iastore, 1) := by decide +kernel
theorem dX9_takeStrike_93 : decode cX9_takeStrike 93 = .ok (.aload_n 0, 1) := by decide +kernel
theorem dX9_takeStrike_94 : decode cX9_takeStrike 94 = .ok (.getfield 15, 3) := by decide +kernel
theorem dX9_takeStrike_97 : decode cX9_takeStrike 97 = .ok (.dup, 1) := by decide +kernel
theorem dX9_takeStrike_98 : decode cX9_takeStrike 98 = .ok (.getfield 89, 3) := by decide +kernel
theorem dX9_takeStrike_101 : decode cX9_takeStrike 101 = .ok (.iconst 1, 1) := by decide +kernel
theorem dX9_takeStrike_102 : decode cX9_takeStrike 102 = .ok (.iadd, 1) := by decide +kernel
theorem dX9_takeStrike_103 : decode cX9_takeStrike 103 = .ok (.putfield 89, 3) := by decide +kernel
theorem dX9_takeStrike_106 : decode cX9_takeStrike 106 = .ok (.aload_n 0, 1) := by decide +kernel
theorem dX9_takeStrike_107 : decode cX9_takeStrike 107 = .ok (.getfield 9, 3) := by decide +kernel
theorem dX9_takeStrike_110 : decode cX9_takeStrike 110 = .ok (.invokevirtual 103, 3) := by decide +kernel
theorem dX9_takeStrike_113 : decode cX9_takeStrike 113 = .ok (.ireturn, 1) := by decide +kernel
noncomputable def fX9_takeStrike_j77 (rf : Nat → Nat → Nat) (a0 : Nat) (x1 : Int32) (μ0 : o_Mem) : Option (Int32 × o_Mem) :=
  o_ck (0 ≤ ((μ0.1 (rf a0 1) 0)).toInt ∧ ((μ0.1 (rf a0 1) 0)).toInt < 6) <|
  o_seq (o_wI μ0 (rf (rf a0 1) 9) (((μ0.1 (rf a0 1) 0)).toNatClampNeg) x1) fun μ1 =>
  o_seq (o_wI μ1 (rf a0 1) 0 ((μ1.1 (rf a0 1) 0) + 1)) fun μ2 =>
  o_bd (fX4_wantClose rf (rf a0 0) μ2) fun r1 μ3 =>
  some (r1, μ3)
noncomputable def fX9_takeStrike (rf : Nat → Nat → Nat) (a0 : Nat) (μ0 : o_Mem) : Option (Int32 × o_Mem) :=
  if (μ0.1 (rf a0 1) 0) < 6 then (
    o_bd (fX4_next rf (rf a0 0) μ0) fun _u μ1 =>
    o_bd (fX9_wantNew rf a0 0 μ1) fun r1 μ2 =>
    if r1 = 0 then (
      some (0, μ2))
    else (
      if (μ2.1 (rf a0 0) 8) = 1 then (
        o_bd (fX4_next rf (rf a0 0) μ2) fun _u μ3 =>
        o_bd (fX4_wantNumber rf (rf a0 0) 0 9 μ3) fun r2 μ4 =>
        if r2 = (-1) then (
          some (0, μ4))
        else (
          fX9_takeStrike_j77 rf a0 r2 μ4))
      else (
        fX9_takeStrike_j77 rf a0 1 μ2)))
  else (
    o_bd (fX4_fail rf (rf a0 0) 6 μ0) fun r3 μ5 =>
    some (r3, μ5))
set_option maxRecDepth 20000 in
theorem dnX9_takeStrike_j77 {X : o_Cx} (hX : o_ok X) {d : Nat} {a0 : Nat} {x1 : Int32} {μ0 : o_Mem} {q : Int32 → o_Mem → Prop} (h0 : o_is X a0 (.inl 9)) (h : o_Post (fX9_takeStrike_j77 (o_rf X) a0 x1 μ0) q) : o_Ev X (d + 7) mX9_takeStrike 77 [some (.ref (o_ad X a0)), some (.int x1)] [] μ0 (o_QZ q) := by
  unfold fX9_takeStrike_j77 at h
  refine s_aload_n (i := 0) dX9_takeStrike_77 rfl rfl ?_
  refine s_getR hX h0 flX9_15 rfl dX9_takeStrike_78 (fun (g1 : o_is X (o_rf X a0 1) (.inl 8)) => ?_)
  refine s_getR hX g1 flX9_99 rfl dX9_takeStrike_81 (fun (g2 : o_is X (o_rf X (o_rf X a0 1) 9) (.inr (0, 6))) => ?_)
  refine s_aload_n (i := 0) dX9_takeStrike_84 rfl rfl ?_
  refine s_getR hX h0 flX9_15 rfl dX9_takeStrike_85 (fun (g3 : o_is X (o_rf X a0 1) (.inl 8)) => ?_)
  refine s_getI g3 flX9_89 rfl dX9_takeStrike_88 ?_
  refine s_iload_n (i := 1) dX9_takeStrike_91 rfl rfl ?_
  have hc := o_ck_c h
  have h := o_ck_k h
  refine s_iastK hX g2 hc rfl dX9_takeStrike_92 (o_gen h (fun μ1 h => ?_))
  refine s_aload_n (i := 0) dX9_takeStrike_93 rfl rfl ?_
  refine s_getR hX h0 flX9_15 rfl dX9_takeStrike_94 (fun (g4 : o_is X (o_rf X a0 1) (.inl 8)) => ?_)
  refine s_dup dX9_takeStrike_97 rfl ?_
  refine s_getI g4 flX9_89 rfl dX9_takeStrike_98 ?_
  refine s_iconst dX9_takeStrike_101 kI_1 ?_
  refine s_iadd dX9_takeStrike_102 ?_
  refine s_putI hX g4 fwX9_89 rfl dX9_takeStrike_103 (o_gen h (fun μ2 h => ?_))
  refine s_aload_n (i := 0) dX9_takeStrike_106 rfl rfl ?_
  refine s_getR hX h0 flX9_9 rfl dX9_takeStrike_107 (fun (g5 : o_is X (o_rf X a0 0) (.inl 4)) => ?_)
  refine s_callVz (C := mX4_wantClose) (As := []) (rest := []) (L0 := [some (.ref (o_ad X (o_rf X a0 0)))]) hX g5 clX9_103 dX9_takeStrike_110 rfl rfl (Nat.le_of_ble_eq_true rfl) (Nat.le_of_ble_eq_true rfl) (dnX4_wantClose hX g5 (o_bdp h)) (fun r1 μ3 zr1 h => ?_)
  exact s_zreturn rfl zr1 dX9_takeStrike_113 ⟨_, rfl, zr1, o_ret h⟩
set_option maxRecDepth 20000 in
theorem dnX9_takeStrike {X : o_Cx} (hX : o_ok X) {d : Nat} {a0 : Nat} {μ0 : o_Mem} {q : Int32 → o_Mem → Prop} (h0 : o_is X a0 (.inl 9)) (h : o_Post (fX9_takeStrike (o_rf X) a0 μ0) q) : o_Ev X (d + 7) mX9_takeStrike 0 [some (.ref (o_ad X a0)), none] [] μ0 (o_QZ q) := by
  unfold fX9_takeStrike at h
  refine s_aload_n (i := 0) dX9_takeStrike_0 rfl rfl ?_
  refine s_getR hX h0 flX9_15 rfl dX9_takeStrike_1 (fun (g1 : o_is X (o_rf X a0 1) (.inl 8)) => ?_)
  refine s_getI g1 flX9_89 rfl dX9_takeStrike_4 ?_
  refine s_bipush dX9_takeStrike_7 kB_6 ?_
  refine s_icmp_lt (tgt := 22) dX9_takeStrike_9 rfl (fun c1 => ?_) (fun c1 => ?_)
  · have h := o_if_t c1 h
    refine s_aload_n (i := 0) dX9_takeStrike_22 rfl rfl ?_
    refine s_getR hX h0 flX9_9 rfl dX9_takeStrike_23 (fun (g2 : o_is X (o_rf X a0 0) (.inl 4)) => ?_)
    refine s_callVu (C := mX4_next) (As := []) (rest := []) (L0 := [some (.ref (o_ad X (o_rf X a0 0)))]) hX g2 clX9_86 dX9_takeStrike_26 rfl rfl (Nat.le_of_ble_eq_true rfl) (Nat.le_of_ble_eq_true rfl) (dnX4_next hX g2 (o_bdp h)) (fun _u μ1 h => ?_)
    refine s_aload_n (i := 0) dX9_takeStrike_29 rfl rfl ?_
    refine s_iconst dX9_takeStrike_30 kI_0 ?_
    refine s_callVz (C := mX9_wantNew) (As := [.int 0]) (rest := []) (L0 := [some (.ref (o_ad X a0)), some (.int 0)]) hX h0 clX9_92 dX9_takeStrike_31 rfl rfl (Nat.le_of_ble_eq_true rfl) (Nat.le_of_ble_eq_true rfl) (dnX9_wantNew hX h0 (o_bdp h)) (fun r1 μ2 zr1 h => ?_)
    refine s_if_ne (tgt := 39) dX9_takeStrike_34 rfl (fun c1 => ?_) (fun c1 => ?_)
    · have h := o_if_f c1 h
      refine s_iconst dX9_takeStrike_39 kI_1 ?_
      refine s_istore_n (i := 1) dX9_takeStrike_40 rfl (Nat.le_of_ble_eq_true rfl) rfl ?_
      refine s_aload_n (i := 0) dX9_takeStrike_41 rfl rfl ?_
      refine s_getR hX h0 flX9_9 rfl dX9_takeStrike_42 (fun (g3 : o_is X (o_rf X a0 0) (.inl 4)) => ?_)
      refine s_getI g3 flX9_38 rfl dX9_takeStrike_45 ?_
      refine s_iconst dX9_takeStrike_48 kI_1 ?_
      refine s_icmp_ne (tgt := 77) dX9_takeStrike_49 rfl (fun c1 => ?_) (fun c1 => ?_)
      · have h := o_if_f c1 h
        refine s_mask [true, true] (L' := [some (.ref (o_ad X a0)), some (.int 1)]) rfl ?_
        exact dnX9_takeStrike_j77 hX h0 h
      · have h := o_if_t c1 h
        refine s_aload_n (i := 0) dX9_takeStrike_52 rfl rfl ?_
        refine s_getR hX h0 flX9_9 rfl dX9_takeStrike_53 (fun (g4 : o_is X (o_rf X a0 0) (.inl 4)) => ?_)
        refine s_callVu (C := mX4_next) (As := []) (rest := []) (L0 := [some (.ref (o_ad X (o_rf X a0 0)))]) hX g4 clX9_86 dX9_takeStrike_56 rfl rfl (Nat.le_of_ble_eq_true rfl) (Nat.le_of_ble_eq_true rfl) (dnX4_next hX g4 (o_bdp h)) (fun _u μ3 h => ?_)
        refine s_aload_n (i := 0) dX9_takeStrike_59 rfl rfl ?_
        refine s_getR hX h0 flX9_9 rfl dX9_takeStrike_60 (fun (g5 : o_is X (o_rf X a0 0) (.inl 4)) => ?_)
        refine s_iconst dX9_takeStrike_63 kI_0 ?_
        refine s_bipush dX9_takeStrike_64 kB_9 ?_
        refine s_callVi (C := mX4_wantNumber) (As := [.int 0, .int 9]) (rest := []) (L0 := [some (.ref (o_ad X (o_rf X a0 0))), some (.int 0), some (.int 9), none]) hX g5 clX9_95 dX9_takeStrike_66 rfl rfl (Nat.le_of_ble_eq_true rfl) (Nat.le_of_ble_eq_true rfl) (dnX4_wantNumber hX g5 (o_bdp h)) (fun r2 μ4 h => ?_)
        refine s_istore_n (i := 1) dX9_takeStrike_69 rfl (Nat.le_of_ble_eq_true rfl) rfl ?_
        refine s_iload_n (i := 1) dX9_takeStrike_70 rfl rfl ?_
        refine s_iconst dX9_takeStrike_71 kI_m1 ?_
        refine s_icmp_ne (tgt := 77) dX9_takeStrike_72 rfl (fun c1 => ?_) (fun c1 => ?_)
        · have h := o_if_f c1 h
          refine s_mask [true, true] (L' := [some (.ref (o_ad X a0)), some (.int r2)]) rfl ?_
          exact dnX9_takeStrike_j77 hX h0 h
        · have h := o_if_t c1 h
          refine s_iconst dX9_takeStrike_75 kI_0 ?_
          exact s_zreturn rfl (Or.inl rfl) dX9_takeStrike_76 ⟨_, rfl, (Or.inl rfl), o_ret h⟩
    · have h := o_if_t c1 h
      refine s_iconst dX9_takeStrike_37 kI_0 ?_
      exact s_zreturn rfl (Or.inl rfl) dX9_takeStrike_38 ⟨_, rfl, (Or.inl rfl), o_ret h⟩
  · have h := o_if_f c1 h
    refine s_aload_n (i := 0) dX9_takeStrike_12 rfl rfl ?_
    refine s_getR hX h0 flX9_9 rfl dX9_takeStrike_13 (fun (g6 : o_is X (o_rf X a0 0) (.inl 4)) => ?_)
    refine s_bipush dX9_takeStrike_16 kB_6 ?_
    refine s_callVz (C := mX4_fail) (As := [.int 6]) (rest := []) (L0 := [some (.ref (o_ad X (o_rf X a0 0))), some (.int 6)]) hX g6 clX9_63 dX9_takeStrike_18 rfl rfl (Nat.le_of_ble_eq_true rfl) (Nat.le_of_ble_eq_true rfl) (dnX4_fail hX g6 (o_bdp h)) (fun r3 μ5 zr3 h => ?_)
    exact s_zreturn rfl zr3 dX9_takeStrike_21 ⟨_, rfl, zr3, o_ret h⟩
theorem dX9_takeHand_0 : decode cX9_takeHand 0 = .ok (.aload_n 0, 1) := by decide +kernel
theorem dX9_takeHand_1 : decode cX9_takeHand 1 = .ok (.getfield 15, 3) := by decide +kernel
theorem dX9_takeHand_4 : decode cX9_takeHand 4 = .ok (.getfield 106, 3) := by decide +kernel
theorem dX9_takeHand_7 : decode cX9_takeHand 7 = .ok (.iconst 4, 1) := by decide +kernel
theorem dX9_takeHand_8 : decode cX9_takeHand 8 = .ok (.if_icmp .lt 13, 3) := by decide +kernel
theorem dX9_takeHand_11 : decode cX9_takeHand 11 = .ok (.aload_n 0, 1) := by decide +kernel
theorem dX9_takeHand_12 : decode cX9_takeHand 12 = .ok (.getfield 9, 3) := by decide +kernel
theorem dX9_takeHand_15 : decode cX9_takeHand 15 = .ok (.bipush 6, 2) := by decide +kernel
theorem dX9_takeHand_17 : decode cX9_takeHand 17 = .ok (.invokevirtual 63, 3) := by decide +kernel
theorem dX9_takeHand_20 : decode cX9_takeHand 20 = .ok (.ireturn, 1) := by decide +kernel
theorem dX9_takeHand_21 : decode cX9_takeHand 21 = .ok (.aload_n 0, 1) := by decide +kernel
theorem dX9_takeHand_22 : decode cX9_takeHand 22 = .ok (.getfield 9, 3) := by decide +kernel
theorem dX9_takeHand_25 : decode cX9_takeHand 25 = .ok (.invokevirtual 86, 3) := by decide +kernel
theorem dX9_takeHand_28 : decode cX9_takeHand 28 = .ok (.aload_n 0, 1) := by decide +kernel
theorem dX9_takeHand_29 : decode cX9_takeHand 29 = .ok (.iconst 1, 1) := by decide +kernel
theorem dX9_takeHand_30 : decode cX9_takeHand 30 = .ok (.invokevirtual 92, 3) := by decide +kernel
theorem dX9_takeHand_33 : decode cX9_takeHand 33 = .ok (.ifCond .ne 5, 3) := by decide +kernel
theorem dX9_takeHand_36 : decode cX9_takeHand 36 = .ok (.iconst 0, 1) := by decide +kernel
theorem dX9_takeHand_37 : decode cX9_takeHand 37 = .ok (.ireturn, 1) := by decide +kernel
theorem dX9_takeHand_38 : decode cX9_takeHand 38 = .ok (.aload_n 0, 1) := by decide +kernel
theorem dX9_takeHand_39 : decode cX9_takeHand 39 = .ok (.getfield 15, 3) := by decide +kernel
theorem dX9_takeHand_42 : decode cX9_takeHand 42 = .ok (.dup, 1) := by decide +kernel
theorem dX9_takeHand_43 : decode cX9_takeHand 43 = .ok (.getfield 106, 3) := by decide +kernel
theorem dX9_takeHand_46 : decode cX9_takeHand 46 = .ok (.iconst 1, 1) := by decide +kernel
theorem dX9_takeHand_47 : decode cX9_takeHand 47 = .ok (.iadd, 1) := by decide +kernel
theorem dX9_takeHand_48 : decode cX9_takeHand 48 = .ok (.putfield 106, 3) := by decide +kernel
theorem dX9_takeHand_51 : decode cX9_takeHand 51 = .ok (.aload_n 0, 1) := by decide +kernel
theorem dX9_takeHand_52 : decode cX9_takeHand 52 = .ok (.getfield 9, 3) := by decide +kernel
theorem dX9_takeHand_55 : decode cX9_takeHand 55 = .ok (.invokevirtual 103, 3) := by decide +kernel
theorem dX9_takeHand_58 : decode cX9_takeHand 58 = .ok (.ireturn, 1) := by decide +kernel
noncomputable def fX9_takeHand (rf : Nat → Nat → Nat) (a0 : Nat) (μ0 : o_Mem) : Option (Int32 × o_Mem) :=
  if (μ0.1 (rf a0 1) 1) < 4 then (
    o_bd (fX4_next rf (rf a0 0) μ0) fun _u μ1 =>
    o_bd (fX9_wantNew rf a0 1 μ1) fun r1 μ2 =>
    if r1 = 0 then (
      some (0, μ2))
    else (
      o_seq (o_wI μ2 (rf a0 1) 1 ((μ2.1 (rf a0 1) 1) + 1)) fun μ3 =>
      o_bd (fX4_wantClose rf (rf a0 0) μ3) fun r2 μ4 =>
      some (r2, μ4)))
  else (
    o_bd (fX4_fail rf (rf a0 0) 6 μ0) fun r3 μ5 =>
    some (r3, μ5))
set_option maxRecDepth 20000 in
theorem dnX9_takeHand {X : o_Cx} (hX : o_ok X) {d : Nat} {a0 : Nat} {μ0 : o_Mem} {q : Int32 → o_Mem → Prop} (h0 : o_is X a0 (.inl 9)) (h : o_Post (fX9_takeHand (o_rf X) a0 μ0) q) : o_Ev X (d + 7) mX9_takeHand 0 [some (.ref (o_ad X a0))] [] μ0 (o_QZ q) := by
  unfold fX9_takeHand at h
  refine s_aload_n (i := 0) dX9_takeHand_0 rfl rfl ?_
  refine s_getR hX h0 flX9_15 rfl dX9_takeHand_1 (fun (g1 : o_is X (o_rf X a0 1) (.inl 8)) => ?_)
  refine s_getI g1 flX9_106 rfl dX9_takeHand_4 ?_
  refine s_iconst dX9_takeHand_7 kI_4 ?_
  refine s_icmp_lt (tgt := 21) dX9_takeHand_8 rfl (fun c1 => ?_) (fun c1 => ?_)
  · have h := o_if_t c1 h
    refine s_aload_n (i := 0) dX9_takeHand_21 rfl rfl ?_
    refine s_getR hX h0 flX9_9 rfl dX9_takeHand_22 (fun (g2 : o_is X (o_rf X a0 0) (.inl 4)) => ?_)
    refine s_callVu (C := mX4_next) (As := []) (rest := []) (L0 := [some (.ref (o_ad X (o_rf X a0 0)))]) hX g2 clX9_86 dX9_takeHand_25 rfl rfl (Nat.le_of_ble_eq_true rfl) (Nat.le_of_ble_eq_true rfl) (dnX4_next hX g2 (o_bdp h)) (fun _u μ1 h => ?_)
    refine s_aload_n (i := 0) dX9_takeHand_28 rfl rfl ?_
    refine s_iconst dX9_takeHand_29 kI_1 ?_
    refine s_callVz (C := mX9_wantNew) (As := [.int 1]) (rest := []) (L0 := [some (.ref (o_ad X a0)), some (.int 1)]) hX h0 clX9_92 dX9_takeHand_30 rfl rfl (Nat.le_of_ble_eq_true rfl) (Nat.le_of_ble_eq_true rfl) (dnX9_wantNew hX h0 (o_bdp h)) (fun r1 μ2 zr1 h => ?_)
    refine s_if_ne (tgt := 38) dX9_takeHand_33 rfl (fun c1 => ?_) (fun c1 => ?_)
    · have h := o_if_f c1 h
      refine s_aload_n (i := 0) dX9_takeHand_38 rfl rfl ?_
      refine s_getR hX h0 flX9_15 rfl dX9_takeHand_39 (fun (g3 : o_is X (o_rf X a0 1) (.inl 8)) => ?_)
      refine s_dup dX9_takeHand_42 rfl ?_
      refine s_getI g3 flX9_106 rfl dX9_takeHand_43 ?_
      refine s_iconst dX9_takeHand_46 kI_1 ?_
      refine s_iadd dX9_takeHand_47 ?_
      refine s_putI hX g3 fwX9_106 rfl dX9_takeHand_48 (o_gen h (fun μ3 h => ?_))
      refine s_aload_n (i := 0) dX9_takeHand_51 rfl rfl ?_
      refine s_getR hX h0 flX9_9 rfl dX9_takeHand_52 (fun (g4 : o_is X (o_rf X a0 0) (.inl 4)) => ?_)
      refine s_callVz (C := mX4_wantClose) (As := []) (rest := []) (L0 := [some (.ref (o_ad X (o_rf X a0 0)))]) hX g4 clX9_103 dX9_takeHand_55 rfl rfl (Nat.le_of_ble_eq_true rfl) (Nat.le_of_ble_eq_true rfl) (dnX4_wantClose hX g4 (o_bdp h)) (fun r2 μ4 zr2 h => ?_)
      exact s_zreturn rfl zr2 dX9_takeHand_58 ⟨_, rfl, zr2, o_ret h⟩
    · have h := o_if_t c1 h
      refine s_iconst dX9_takeHand_36 kI_0 ?_
      exact s_zreturn rfl (Or.inl rfl) dX9_takeHand_37 ⟨_, rfl, (Or.inl rfl), o_ret h⟩
  · have h := o_if_f c1 h
    refine s_aload_n (i := 0) dX9_takeHand_11 rfl rfl ?_
    refine s_getR hX h0 flX9_9 rfl dX9_takeHand_12 (fun (g5 : o_is X (o_rf X a0 0) (.inl 4)) => ?_)
    refine s_bipush dX9_takeHand_15 kB_6 ?_
    refine s_callVz (C := mX4_fail) (As := [.int 6]) (rest := []) (L0 := [some (.ref (o_ad X (o_rf X a0 0))), some (.int 6)]) hX g5 clX9_63 dX9_takeHand_17 rfl rfl (Nat.le_of_ble_eq_true rfl) (Nat.le_of_ble_eq_true rfl) (dnX4_fail hX g5 (o_bdp h)) (fun r3 μ5 zr3 h => ?_)
    exact s_zreturn rfl zr3 dX9_takeHand_20 ⟨_, rfl, zr3, o_ret h⟩
theorem dX9_takePerson_0 : decode cX9_takePerson 0 = .ok (.aload_n 0, 1) := by decide +kernel
theorem dX9_takePerson_1 : decode cX9_takePerson 1 = .ok (.getfield 15, 3) := by decide +kernel
theorem dX9_takePerson_4 : decode cX9_takePerson 4 = .ok (.getfield 109, 3) := by decide +kernel
theorem dX9_takePerson_7 : decode cX9_takePerson 7 = .ok (.bipush 6, 2) := by decide +kernel
theorem dX9_takePerson_9 : decode cX9_takePerson 9 = .ok (.if_icmp .lt 13, 3) := by decide +kernel
theorem dX9_takePerson_12 : decode cX9_takePerson 12 = .ok (.aload_n 0, 1) := by decide +kernel
theorem dX9_takePerson_13 : decode cX9_takePerson 13 = .ok (.getfield 9, 3) := by decide +kernel
theorem dX9_takePerson_16 : decode cX9_takePerson 16 = .ok (.bipush 6, 2) := by decide +kernel
theorem dX9_takePerson_18 : decode cX9_takePerson 18 = .ok (.invokevirtual 63, 3) := by decide +kernel
theorem dX9_takePerson_21 : decode cX9_takePerson 21 = .ok (.ireturn, 1) := by decide +kernel
theorem dX9_takePerson_22 : decode cX9_takePerson 22 = .ok (.aload_n 0, 1) := by decide +kernel
theorem dX9_takePerson_23 : decode cX9_takePerson 23 = .ok (.getfield 9, 3) := by decide +kernel
theorem dX9_takePerson_26 : decode cX9_takePerson 26 = .ok (.invokevirtual 86, 3) := by decide +kernel
theorem dX9_takePerson_29 : decode cX9_takePerson 29 = .ok (.aload_n 0, 1) := by decide +kernel
theorem dX9_takePerson_30 : decode cX9_takePerson 30 = .ok (.iconst 2, 1) := by decide +kernel
theorem dX9_takePerson_31 : decode cX9_takePerson 31 = .ok (.invokevirtual 92, 3) := by decide +kernel
theorem dX9_takePerson_34 : decode cX9_takePerson 34 = .ok (.ifCond .eq 14, 3) := by decide +kernel
theorem dX9_takePerson_37 : decode cX9_takePerson 37 = .ok (.aload_n 0, 1) := by decide +kernel
theorem dX9_takePerson_38 : decode cX9_takePerson 38 = .ok (.getfield 9, 3) := by decide +kernel
theorem dX9_takePerson_41 : decode cX9_takePerson 41 = .ok (.iconst 2, 1) := by decide +kernel
theorem dX9_takePerson_42 : decode cX9_takePerson 42 = .ok (.invokevirtual 112, 3) := by decide +kernel
theorem dX9_takePerson_45 : decode cX9_takePerson 45 = .ok (.ifCond .ne 5, 3) := by decide +kernel
theorem dX9_takePerson_48 : decode cX9_takePerson 48 = .ok (.iconst 0, 1) := by decide +kernel
theorem dX9_takePerson_49 : decode cX9_takePerson 49 = .ok (.ireturn, 1) := by decide +kernel
theorem dX9_takePerson_50 : decode cX9_takePerson 50 = .ok (.aload_n 0, 1) := by decide +kernel
theorem dX9_takePerson_51 : decode cX9_takePerson 51 = .ok (.getfield 9, 3) := by decide +kernel
theorem dX9_takePerson_54 : decode cX9_takePerson 54 = .ok (.aload_n 0, 1) := by decide +kernel
theorem dX9_takePerson_55 : decode cX9_takePerson 55 = .ok (.getfield 15, 3) := by decide +kernel
theorem dX9_takePerson_58 : decode cX9_takePerson 58 = .ok (.iconst 1, 1) := by decide +kernel
theorem dX9_takePerson_59 : decode cX9_takePerson 59 = .ok (.iconst (-1), 1) := by decide +kernel
theorem dX9_takePerson_60 : decode cX9_takePerson 60 = .ok (.invokevirtual 115, 3) := by decide +kernel
theorem dX9_takePerson_63 : decode cX9_takePerson 63 = .ok (.istore_n 1, 1) := by decide +kernel
theorem dX9_takePerson_64 : decode cX9_takePerson 64 = .ok (.iload_n 1, 1) := by decide +kernel
theorem dX9_takePerson_65 : decode cX9_takePerson 65 = .ok (.iconst (-1), 1) := by decide +kernel
theorem dX9_takePerson_66 : decode cX9_takePerson 66 = .ok (.if_icmp .ne 5, 3) := by decide +kernel
theorem dX9_takePerson_69 : decode cX9_takePerson 69 = .ok (.iconst 0, 1) := by decide +kernel
theorem dX9_takePerson_70 : decode cX9_takePerson 70 = .ok (.ireturn, 1) := by decide +kernel
theorem dX9_takePerson_71 : decode cX9_takePerson 71 = .ok (.aload_n 0, 1) := by decide +kernel
theorem dX9_takePerson_72 : decode cX9_takePerson 72 = .ok (.getfield 15, 3) := by decide +kernel
theorem dX9_takePerson_75 : decode cX9_takePerson 75 = .ok (.getfield 119, 3) := by decide +kernel
theorem dX9_takePerson_78 : decode cX9_takePerson 78 = .ok (.aload_n 0, 1) := by decide +kernel
theorem dX9_takePerson_79 : decode cX9_takePerson 79 = .ok (.getfield 15, 3) := by decide +kernel
theorem dX9_takePerson_82 : decode cX9_takePerson 82 = .ok (.getfield 109, 3) := by decide +kernel
theorem dX9_takePerson_85 : decode cX9_takePerson 85 = .ok (.iload_n 1, 1) := by decide +kernel
theorem dX9_takePerson_86 : decode cX9_takePerson 86 = .ok (.iastore, 1) := by decide +kernel
theorem dX9_takePerson_87 : decode cX9_takePerson 87 = .ok (.aload_n 0, 1) := by decide +kernel
theorem dX9_takePerson_88 : decode cX9_takePerson 88 = .ok (.getfield 15, 3) := by decide +kernel
theorem dX9_takePerson_91 : decode cX9_takePerson 91 = .ok (.dup, 1) := by decide +kernel
theorem dX9_takePerson_92 : decode cX9_takePerson 92 = .ok (.getfield 109, 3) := by decide +kernel
theorem dX9_takePerson_95 : decode cX9_takePerson 95 = .ok (.iconst 1, 1) := by decide +kernel
theorem dX9_takePerson_96 : decode cX9_takePerson 96 = .ok (.iadd, 1) := by decide +kernel
theorem dX9_takePerson_97 : decode cX9_takePerson 97 = .ok (.putfield 109, 3) := by decide +kernel
theorem dX9_takePerson_100 : decode cX9_takePerson 100 = .ok (.aload_n 0, 1) := by decide +kernel
theorem dX9_takePerson_101 : decode cX9_takePerson 101 = .ok (.getfield 9, 3) := by decide +kernel
theorem dX9_takePerson_104 : decode cX9_takePerson 104 = .ok (.invokevirtual 103, 3) := by decide +kernel
theorem dX9_takePerson_107 : decode cX9_takePerson 107 = .ok (.ireturn, 1) := by decide +kernel
noncomputable def fX9_takePerson (rf : Nat → Nat → Nat) (a0 : Nat) (μ0 : o_Mem) : Option (Int32 × o_Mem) :=
  if (μ0.1 (rf a0 1) 2) < 6 then (
    o_bd (fX4_next rf (rf a0 0) μ0) fun _u μ1 =>
    o_bd (fX9_wantNew rf a0 2 μ1) fun r1 μ2 =>
    if r1 = 0 then (
      some (0, μ2))
    else (
      o_bd (fX4_wantWord rf (rf a0 0) 2 μ2) fun r2 μ3 =>
      if r2 = 0 then (
        some (0, μ3))
      else (
        o_bd (fX4_wantKnown rf (rf a0 0) (rf a0 1) 1 (-1) μ3) fun r3 μ4 =>
        if r3 = (-1) then (
          some (0, μ4))
        else (
          o_ck (0 ≤ ((μ4.1 (rf a0 1) 2)).toInt ∧ ((μ4.1 (rf a0 1) 2)).toInt < 6) <|
          o_seq (o_wI μ4 (rf (rf a0 1) 11) (((μ4.1 (rf a0 1) 2)).toNatClampNeg) r3) fun μ5 =>
          o_seq (o_wI μ5 (rf a0 1) 2 ((μ5.1 (rf a0 1) 2) + 1)) fun μ6 =>
          o_bd (fX4_wantClose rf (rf a0 0) μ6) fun r4 μ7 =>
          some (r4, μ7)))))
  else (
    o_bd (fX4_fail rf (rf a0 0) 6 μ0) fun r5 μ8 =>
    some (r5, μ8))
set_option maxRecDepth 20000 in
theorem dnX9_takePerson {X : o_Cx} (hX : o_ok X) {d : Nat} {a0 : Nat} {μ0 : o_Mem} {q : Int32 → o_Mem → Prop} (h0 : o_is X a0 (.inl 9)) (h : o_Post (fX9_takePerson (o_rf X) a0 μ0) q) : o_Ev X (d + 7) mX9_takePerson 0 [some (.ref (o_ad X a0)), none] [] μ0 (o_QZ q) := by
  unfold fX9_takePerson at h
  refine s_aload_n (i := 0) dX9_takePerson_0 rfl rfl ?_
  refine s_getR hX h0 flX9_15 rfl dX9_takePerson_1 (fun (g1 : o_is X (o_rf X a0 1) (.inl 8)) => ?_)
  refine s_getI g1 flX9_109 rfl dX9_takePerson_4 ?_
  refine s_bipush dX9_takePerson_7 kB_6 ?_
  refine s_icmp_lt (tgt := 22) dX9_takePerson_9 rfl (fun c1 => ?_) (fun c1 => ?_)
  · have h := o_if_t c1 h
    refine s_aload_n (i := 0) dX9_takePerson_22 rfl rfl ?_
    refine s_getR hX h0 flX9_9 rfl dX9_takePerson_23 (fun (g2 : o_is X (o_rf X a0 0) (.inl 4)) => ?_)
    refine s_callVu (C := mX4_next) (As := []) (rest := []) (L0 := [some (.ref (o_ad X (o_rf X a0 0)))]) hX g2 clX9_86 dX9_takePerson_26 rfl rfl (Nat.le_of_ble_eq_true rfl) (Nat.le_of_ble_eq_true rfl) (dnX4_next hX g2 (o_bdp h)) (fun _u μ1 h => ?_)
    refine s_aload_n (i := 0) dX9_takePerson_29 rfl rfl ?_
    refine s_iconst dX9_takePerson_30 kI_2 ?_
    refine s_callVz (C := mX9_wantNew) (As := [.int 2]) (rest := []) (L0 := [some (.ref (o_ad X a0)), some (.int 2)]) hX h0 clX9_92 dX9_takePerson_31 rfl rfl (Nat.le_of_ble_eq_true rfl) (Nat.le_of_ble_eq_true rfl) (dnX9_wantNew hX h0 (o_bdp h)) (fun r1 μ2 zr1 h => ?_)
    refine s_if_eq (tgt := 48) dX9_takePerson_34 rfl (fun c1 => ?_) (fun c1 => ?_)
    · have h := o_if_t c1 h
      refine s_iconst dX9_takePerson_48 kI_0 ?_
      exact s_zreturn rfl (Or.inl rfl) dX9_takePerson_49 ⟨_, rfl, (Or.inl rfl), o_ret h⟩
    · have h := o_if_f c1 h
      refine s_aload_n (i := 0) dX9_takePerson_37 rfl rfl ?_
      refine s_getR hX h0 flX9_9 rfl dX9_takePerson_38 (fun (g3 : o_is X (o_rf X a0 0) (.inl 4)) => ?_)
      refine s_iconst dX9_takePerson_41 kI_2 ?_
      refine s_callVz (C := mX4_wantWord) (As := [.int 2]) (rest := []) (L0 := [some (.ref (o_ad X (o_rf X a0 0))), some (.int 2)]) hX g3 clX9_112 dX9_takePerson_42 rfl rfl (Nat.le_of_ble_eq_true rfl) (Nat.le_of_ble_eq_true rfl) (dnX4_wantWord hX g3 (o_bdp h)) (fun r2 μ3 zr2 h => ?_)
      refine s_if_ne (tgt := 50) dX9_takePerson_45 rfl (fun c1 => ?_) (fun c1 => ?_)
      · have h := o_if_f c1 h
        refine s_aload_n (i := 0) dX9_takePerson_50 rfl rfl ?_
        refine s_getR hX h0 flX9_9 rfl dX9_takePerson_51 (fun (g4 : o_is X (o_rf X a0 0) (.inl 4)) => ?_)
        refine s_aload_n (i := 0) dX9_takePerson_54 rfl rfl ?_
        refine s_getR hX h0 flX9_15 rfl dX9_takePerson_55 (fun (g5 : o_is X (o_rf X a0 1) (.inl 8)) => ?_)
        refine s_iconst dX9_takePerson_58 kI_1 ?_
        refine s_iconst dX9_takePerson_59 kI_m1 ?_
        refine s_callVi (C := mX4_wantKnown) (As := [.ref (o_ad X (o_rf X a0 1)), .int 1, .int (-1)]) (rest := []) (L0 := [some (.ref (o_ad X (o_rf X a0 0))), some (.ref (o_ad X (o_rf X a0 1))), some (.int 1), some (.int (-1)), none]) hX g4 clX9_115 dX9_takePerson_60 rfl rfl (Nat.le_of_ble_eq_true rfl) (Nat.le_of_ble_eq_true rfl) (dnX4_wantKnown hX g4 g5 (o_bdp h)) (fun r3 μ4 h => ?_)
        refine s_istore_n (i := 1) dX9_takePerson_63 rfl (Nat.le_of_ble_eq_true rfl) rfl ?_
        refine s_iload_n (i := 1) dX9_takePerson_64 rfl rfl ?_
        refine s_iconst dX9_takePerson_65 kI_m1 ?_
        refine s_icmp_ne (tgt := 71) dX9_takePerson_66 rfl (fun c1 => ?_) (fun c1 => ?_)
        · have h := o_if_f c1 h
          refine s_aload_n (i := 0) dX9_takePerson_71 rfl rfl ?_
          refine s_getR hX h0 flX9_15 rfl dX9_takePerson_72 (fun (g6 : o_is X (o_rf X a0 1) (.inl 8)) => ?_)
          refine s_getR hX g6 flX9_119 rfl dX9_takePerson_75 (fun (g7 : o_is X (o_rf X (o_rf X a0 1) 11) (.inr (0, 6))) => ?_)
          refine s_aload_n (i := 0) dX9_takePerson_78 rfl rfl ?_
          refine s_getR hX h0 flX9_15 rfl dX9_takePerson_79 (fun (g8 : o_is X (o_rf X a0 1) (.inl 8)) => ?_)
          refine s_getI g8 flX9_109 rfl dX9_takePerson_82 ?_
          refine s_iload_n (i := 1) dX9_takePerson_85 rfl rfl ?_
          have hc := o_ck_c h
          have h := o_ck_k h
          refine s_iastK hX g7 hc rfl dX9_takePerson_86 (o_gen h (fun μ5 h => ?_))
          refine s_aload_n (i := 0) dX9_takePerson_87 rfl rfl ?_
          refine s_getR hX h0 flX9_15 rfl dX9_takePerson_88 (fun (g9 : o_is X (o_rf X a0 1) (.inl 8)) => ?_)
          refine s_dup dX9_takePerson_91 rfl ?_
          refine s_getI g9 flX9_109 rfl dX9_takePerson_92 ?_
          refine s_iconst dX9_takePerson_95 kI_1 ?_
          refine s_iadd dX9_takePerson_96 ?_
          refine s_putI hX g9 fwX9_109 rfl dX9_takePerson_97 (o_gen h (fun μ6 h => ?_))
          refine s_aload_n (i := 0) dX9_takePerson_100 rfl rfl ?_
          refine s_getR hX h0 flX9_9 rfl dX9_takePerson_101 (fun (g10 : o_is X (o_rf X a0 0) (.inl 4)) => ?_)
          refine s_callVz (C := mX4_wantClose) (As := []) (rest := []) (L0 := [some (.ref (o_ad X (o_rf X a0 0)))]) hX g10 clX9_103 dX9_takePerson_104 rfl rfl (Nat.le_of_ble_eq_true rfl) (Nat.le_of_ble_eq_true rfl) (dnX4_wantClose hX g10 (o_bdp h)) (fun r4 μ7 zr4 h => ?_)
          exact s_zreturn rfl zr4 dX9_takePerson_107 ⟨_, rfl, zr4, o_ret h⟩
        · have h := o_if_t c1 h
          refine s_iconst dX9_takePerson_69 kI_0 ?_
          exact s_zreturn rfl (Or.inl rfl) dX9_takePerson_70 ⟨_, rfl, (Or.inl rfl), o_ret h⟩
      · have h := o_if_t c1 h
        refine s_iconst dX9_takePerson_48 kI_0 ?_
        exact s_zreturn rfl (Or.inl rfl) dX9_takePerson_49 ⟨_, rfl, (Or.inl rfl), o_ret h⟩
  · have h := o_if_f c1 h
    refine s_aload_n (i := 0) dX9_takePerson_12 rfl rfl ?_
    refine s_getR hX h0 flX9_9 rfl dX9_takePerson_13 (fun (g11 : o_is X (o_rf X a0 0) (.inl 4)) => ?_)
    refine s_bipush dX9_takePerson_16 kB_6 ?_
    refine s_callVz (C := mX4_fail) (As := [.int 6]) (rest := []) (L0 := [some (.ref (o_ad X (o_rf X a0 0))), some (.int 6)]) hX g11 clX9_63 dX9_takePerson_18 rfl rfl (Nat.le_of_ble_eq_true rfl) (Nat.le_of_ble_eq_true rfl) (dnX4_fail hX g11 (o_bdp h)) (fun r5 μ8 zr5 h => ?_)
    exact s_zreturn rfl zr5 dX9_takePerson_21 ⟨_, rfl, zr5, o_ret h⟩
theorem dX9_lawNumber_0 : decode cX9_lawNumber 0 = .ok (.aload_n 0, 1) := by decide +kernel
theorem dX9_lawNumber_1 : decode cX9_lawNumber 1 = .ok (.getfield 15, 3) := by decide +kernel
theorem dX9_lawNumber_4 : decode cX9_lawNumber 4 = .ok (.getfield 125, 3) := by decide +kernel
theorem dX9_lawNumber_7 : decode cX9_lawNumber 7 = .ok (.iload_n 2, 1) := by decide +kernel
theorem dX9_lawNumber_8 : decode cX9_lawNumber 8 = .ok (.iconst (-1), 1) := by decide +kernel
theorem dX9_lawNumber_9 : decode cX9_lawNumber 9 = .ok (.iastore, 1) := by decide +kernel
theorem dX9_lawNumber_10 : decode cX9_lawNumber 10 = .ok (.aload_n 0, 1) := by decide +kernel
theorem dX9_lawNumber_11 : decode cX9_lawNumber 11 = .ok (.getfield 9, 3) := by decide +kernel
theorem dX9_lawNumber_14 : decode cX9_lawNumber 14 = .ok (.getfield 38, 3) := by decide +kernel
theorem dX9_lawNumber_17 : decode cX9_lawNumber 17 = .ok (.iload_n 1, 1) := by decide +kernel
theorem dX9_lawNumber_18 : decode cX9_lawNumber 18 = .ok (.if_icmp .eq 5, 3) := by decide +kernel
theorem dX9_lawNumber_21 : decode cX9_lawNumber 21 = .ok (.iconst 1, 1) := by decide +kernel
theorem dX9_lawNumber_22 : decode cX9_lawNumber 22 = .ok (.ireturn, 1) := by decide +kernel
theorem dX9_lawNumber_23 : decode cX9_lawNumber 23 = .ok (.aload_n 0, 1) := by decide +kernel
theorem dX9_lawNumber_24 : decode cX9_lawNumber 24 = .ok (.getfield 9, 3) := by decide +kernel
theorem dX9_lawNumber_27 : decode cX9_lawNumber 27 = .ok (.invokevirtual 86, 3) := by decide +kernel
theorem dX9_lawNumber_30 : decode cX9_lawNumber 30 = .ok (.aload_n 0, 1) := by decide +kernel
theorem dX9_lawNumber_31 : decode cX9_lawNumber 31 = .ok (.getfield 15, 3) := by decide +kernel
theorem dX9_lawNumber_34 : decode cX9_lawNumber 34 = .ok (.getfield 125, 3) := by decide +kernel
theorem dX9_lawNumber_37 : decode cX9_lawNumber 37 = .ok (.iload_n 2, 1) := by decide +kernel
theorem dX9_lawNumber_38 : decode cX9_lawNumber 38 = .ok (.aload_n 0, 1) := by decide +kernel
theorem dX9_lawNumber_39 : decode cX9_lawNumber 39 = .ok (.getfield 9, 3) := by decide +kernel
theorem dX9_lawNumber_42 : decode cX9_lawNumber 42 = .ok (.iload_n 3, 1) := by decide +kernel
theorem dX9_lawNumber_43 : decode cX9_lawNumber 43 = .ok (.bipush 99, 2) := by decide +kernel
theorem dX9_lawNumber_45 : decode cX9_lawNumber 45 = .ok (.invokevirtual 95, 3) := by decide +kernel
theorem dX9_lawNumber_48 : decode cX9_lawNumber 48 = .ok (.iastore, 1) := by decide +kernel
theorem dX9_lawNumber_49 : decode cX9_lawNumber 49 = .ok (.aload_n 0, 1) := by decide +kernel
theorem dX9_lawNumber_50 : decode cX9_lawNumber 50 = .ok (.getfield 15, 3) := by decide +kernel
theorem dX9_lawNumber_53 : decode cX9_lawNumber 53 = .ok (.getfield 125, 3) := by decide +kernel
theorem dX9_lawNumber_56 : decode cX9_lawNumber 56 = .ok (.iload_n 2, 1) := by decide +kernel
theorem dX9_lawNumber_57 : decode cX9_lawNumber 57 = .ok (.iaload, 1) := by decide +kernel
theorem dX9_lawNumber_58 : decode cX9_lawNumber 58 = .ok (.iconst (-1), 1) := by decide +kernel
theorem dX9_lawNumber_59 : decode cX9_lawNumber 59 = .ok (.if_icmp .eq 7, 3) := by decide +kernel
theorem dX9_lawNumber_62 : decode cX9_lawNumber 62 = .ok (.iconst 1, 1) := by decide +kernel
theorem dX9_lawNumber_63 : decode cX9_lawNumber 63 = .ok (.goto 4, 3) := by decide +kernel
theorem dX9_lawNumber_66 : decode cX9_lawNumber 66 = .ok (.iconst 0, 1) := by decide +kernel
theorem dX9_lawNumber_67 : decode cX9_lawNumber 67 = .ok (.ireturn, 1) := by decide +kernel
noncomputable def fX9_lawNumber (rf : Nat → Nat → Nat) (a0 : Nat) (x1 : Int32) (x2 : Int32) (x3 : Int32) (μ0 : o_Mem) : Option (Int32 × o_Mem) :=
  o_ck (0 ≤ (x2).toInt ∧ (x2).toInt < 48) <|
  o_seq (o_wI μ0 (rf (rf a0 1) 12) x2.toNatClampNeg (-1)) fun μ1 =>
  if (μ1.1 (rf a0 0) 8) = x1 then (
    o_bd (fX4_next rf (rf a0 0) μ1) fun _u μ2 =>
    o_bd (fX4_wantNumber rf (rf a0 0) x3 99 μ2) fun r1 μ3 =>
    o_ck (0 ≤ (x2).toInt ∧ (x2).toInt < 48) <|
    o_seq (o_wI μ3 (rf (rf a0 1) 12) x2.toNatClampNeg r1) fun μ4 =>
    o_ck (0 ≤ (x2).toInt ∧ (x2).toInt < 48) <|
    if (μ4.1 (rf (rf a0 1) 12) x2.toNatClampNeg) = (-1) then (
      some (0, μ4))
    else (
      some (1, μ4)))
  else (
    some (1, μ1))
set_option maxRecDepth 20000 in
theorem dnX9_lawNumber {X : o_Cx} (hX : o_ok X) {d : Nat} {a0 : Nat} {x1 : Int32} {x2 : Int32} {x3 : Int32} {μ0 : o_Mem} {q : Int32 → o_Mem → Prop} (h0 : o_is X a0 (.inl 9)) (h : o_Post (fX9_lawNumber (o_rf X) a0 x1 x2 x3 μ0) q) : o_Ev X (d + 7) mX9_lawNumber 0 [some (.ref (o_ad X a0)), some (.int x1), some (.int x2), some (.int x3)] [] μ0 (o_QZ q) := by
  unfold fX9_lawNumber at h
  refine s_aload_n (i := 0) dX9_lawNumber_0 rfl rfl ?_
  refine s_getR hX h0 flX9_15 rfl dX9_lawNumber_1 (fun (g1 : o_is X (o_rf X a0 1) (.inl 8)) => ?_)
  refine s_getR hX g1 flX9_125 rfl dX9_lawNumber_4 (fun (g2 : o_is X (o_rf X (o_rf X a0 1) 12) (.inr (0, 48))) => ?_)
  refine s_iload_n (i := 2) dX9_lawNumber_7 rfl rfl ?_
  refine s_iconst dX9_lawNumber_8 kI_m1 ?_
  have hc := o_ck_c h
  have h := o_ck_k h
  refine s_iastK hX g2 hc rfl dX9_lawNumber_9 (o_gen h (fun μ1 h => ?_))
  refine s_aload_n (i := 0) dX9_lawNumber_10 rfl rfl ?_
  refine s_getR hX h0 flX9_9 rfl dX9_lawNumber_11 (fun (g3 : o_is X (o_rf X a0 0) (.inl 4)) => ?_)
  refine s_getI g3 flX9_38 rfl dX9_lawNumber_14 ?_
  refine s_iload_n (i := 1) dX9_lawNumber_17 rfl rfl ?_
  refine s_icmp_eq (tgt := 23) dX9_lawNumber_18 rfl (fun c1 => ?_) (fun c1 => ?_)
  · have h := o_if_t c1 h
    refine s_aload_n (i := 0) dX9_lawNumber_23 rfl rfl ?_
    refine s_getR hX h0 flX9_9 rfl dX9_lawNumber_24 (fun (g4 : o_is X (o_rf X a0 0) (.inl 4)) => ?_)
    refine s_callVu (C := mX4_next) (As := []) (rest := []) (L0 := [some (.ref (o_ad X (o_rf X a0 0)))]) hX g4 clX9_86 dX9_lawNumber_27 rfl rfl (Nat.le_of_ble_eq_true rfl) (Nat.le_of_ble_eq_true rfl) (dnX4_next hX g4 (o_bdp h)) (fun _u μ2 h => ?_)
    refine s_aload_n (i := 0) dX9_lawNumber_30 rfl rfl ?_
    refine s_getR hX h0 flX9_15 rfl dX9_lawNumber_31 (fun (g5 : o_is X (o_rf X a0 1) (.inl 8)) => ?_)
    refine s_getR hX g5 flX9_125 rfl dX9_lawNumber_34 (fun (g6 : o_is X (o_rf X (o_rf X a0 1) 12) (.inr (0, 48))) => ?_)
    refine s_iload_n (i := 2) dX9_lawNumber_37 rfl rfl ?_
    refine s_aload_n (i := 0) dX9_lawNumber_38 rfl rfl ?_
    refine s_getR hX h0 flX9_9 rfl dX9_lawNumber_39 (fun (g7 : o_is X (o_rf X a0 0) (.inl 4)) => ?_)
    refine s_iload_n (i := 3) dX9_lawNumber_42 rfl rfl ?_
    refine s_bipush dX9_lawNumber_43 kB_99 ?_
    refine s_callVi (C := mX4_wantNumber) (As := [.int x3, .int 99]) (rest := [.int x2, .ref (o_ad X (o_rf X (o_rf X a0 1) 12))]) (L0 := [some (.ref (o_ad X (o_rf X a0 0))), some (.int x3), some (.int 99), none]) hX g7 clX9_95 dX9_lawNumber_45 rfl rfl (Nat.le_of_ble_eq_true rfl) (Nat.le_of_ble_eq_true rfl) (dnX4_wantNumber hX g7 (o_bdp h)) (fun r1 μ3 h => ?_)
    have hc := o_ck_c h
    have h := o_ck_k h
    refine s_iastK hX g6 hc rfl dX9_lawNumber_48 (o_gen h (fun μ4 h => ?_))
    refine s_aload_n (i := 0) dX9_lawNumber_49 rfl rfl ?_
    refine s_getR hX h0 flX9_15 rfl dX9_lawNumber_50 (fun (g8 : o_is X (o_rf X a0 1) (.inl 8)) => ?_)
    refine s_getR hX g8 flX9_125 rfl dX9_lawNumber_53 (fun (g9 : o_is X (o_rf X (o_rf X a0 1) 12) (.inr (0, 48))) => ?_)
    refine s_iload_n (i := 2) dX9_lawNumber_56 rfl rfl ?_
    have hc := o_ck_c h
    have h := o_ck_k h
    refine s_ialdK g9 hc rfl dX9_lawNumber_57 ?_
    refine s_iconst dX9_lawNumber_58 kI_m1 ?_
    refine s_icmp_eq (tgt := 66) dX9_lawNumber_59 rfl (fun c1 => ?_) (fun c1 => ?_)
    · have h := o_if_t c1 h
      refine s_iconst dX9_lawNumber_66 kI_0 ?_
      exact s_zreturn rfl (Or.inl rfl) dX9_lawNumber_67 ⟨_, rfl, (Or.inl rfl), o_ret h⟩
    · have h := o_if_f c1 h
      refine s_iconst dX9_lawNumber_62 kI_1 ?_
      refine s_goto (tgt := 67) dX9_lawNumber_63 rfl ?_
      exact s_zreturn rfl (Or.inr rfl) dX9_lawNumber_67 ⟨_, rfl, (Or.inr rfl), o_ret h⟩
  · have h := o_if_f c1 h
    refine s_iconst dX9_lawNumber_21 kI_1 ?_
    exact s_zreturn rfl (Or.inr rfl) dX9_lawNumber_22 ⟨_, rfl, (Or.inr rfl), o_ret h⟩
theorem dX9_lawName_0 : decode cX9_lawName 0 = .ok (.aload_n 0, 1) := by decide +kernel
theorem dX9_lawName_1 : decode cX9_lawName 1 = .ok (.getfield 15, 3) := by decide +kernel
theorem dX9_lawName_4 : decode cX9_lawName 4 = .ok (.getfield 125, 3) := by decide +kernel
theorem dX9_lawName_7 : decode cX9_lawName 7 = .ok (.iload_n 2, 1) := by decide +kernel
theorem dX9_lawName_8 : decode cX9_lawName 8 = .ok (.iconst (-1), 1) := by decide +kernel
theorem dX9_lawName_9 : decode cX9_lawName 9 = .ok (.iastore, 1) := by decide +kernel
theorem dX9_lawName_10 : decode cX9_lawName 10 = .ok (.aload_n 0, 1) := by decide +kernel
theorem dX9_lawName_11 : decode cX9_lawName 11 = .ok (.getfield 9, 3) := by decide +kernel
theorem dX9_lawName_14 : decode cX9_lawName 14 = .ok (.getfield 38, 3) := by decide +kernel
theorem dX9_lawName_17 : decode cX9_lawName 17 = .ok (.iload_n 1, 1) := by decide +kernel
theorem dX9_lawName_18 : decode cX9_lawName 18 = .ok (.if_icmp .eq 5, 3) := by decide +kernel
theorem dX9_lawName_21 : decode cX9_lawName 21 = .ok (.iconst 1, 1) := by decide +kernel
theorem dX9_lawName_22 : decode cX9_lawName 22 = .ok (.ireturn, 1) := by decide +kernel
theorem dX9_lawName_23 : decode cX9_lawName 23 = .ok (.aload_n 0, 1) := by decide +kernel
theorem dX9_lawName_24 : decode cX9_lawName 24 = .ok (.getfield 9, 3) := by decide +kernel
theorem dX9_lawName_27 : decode cX9_lawName 27 = .ok (.invokevirtual 86, 3) := by decide +kernel
theorem dX9_lawName_30 : decode cX9_lawName 30 = .ok (.aload_n 0, 1) := by decide +kernel
theorem dX9_lawName_31 : decode cX9_lawName 31 = .ok (.getfield 15, 3) := by decide +kernel
theorem dX9_lawName_34 : decode cX9_lawName 34 = .ok (.getfield 125, 3) := by decide +kernel
theorem dX9_lawName_37 : decode cX9_lawName 37 = .ok (.iload_n 2, 1) := by decide +kernel
theorem dX9_lawName_38 : decode cX9_lawName 38 = .ok (.aload_n 0, 1) := by decide +kernel
theorem dX9_lawName_39 : decode cX9_lawName 39 = .ok (.getfield 9, 3) := by decide +kernel
theorem dX9_lawName_42 : decode cX9_lawName 42 = .ok (.aload_n 0, 1) := by decide +kernel
theorem dX9_lawName_43 : decode cX9_lawName 43 = .ok (.getfield 15, 3) := by decide +kernel
theorem dX9_lawName_46 : decode cX9_lawName 46 = .ok (.iload_n 3, 1) := by decide +kernel
theorem dX9_lawName_47 : decode cX9_lawName 47 = .ok (.iconst (-1), 1) := by decide +kernel
theorem dX9_lawName_48 : decode cX9_lawName 48 = .ok (.invokevirtual 115, 3) := by decide +kernel
theorem dX9_lawName_51 : decode cX9_lawName 51 = .ok (.iastore, 1) := by decide +kernel
theorem dX9_lawName_52 : decode cX9_lawName 52 = .ok (.aload_n 0, 1) := by decide +kernel
theorem dX9_lawName_53 : decode cX9_lawName 53 = .ok (.getfield 15, 3) := by decide +kernel
theorem dX9_lawName_56 : decode cX9_lawName 56 = .ok (.getfield 125, 3) := by decide +kernel
theorem dX9_lawName_59 : decode cX9_lawName 59 = .ok (.iload_n 2, 1) := by decide +kernel
theorem dX9_lawName_60 : decode cX9_lawName 60 = .ok (.iaload, 1) := by decide +kernel
theorem dX9_lawName_61 : decode cX9_lawName 61 = .ok (.iconst (-1), 1) := by decide +kernel
theorem dX9_lawName_62 : decode cX9_lawName 62 = .ok (.if_icmp .eq 7, 3) := by decide +kernel
theorem dX9_lawName_65 : decode cX9_lawName 65 = .ok (.iconst 1, 1) := by decide +kernel
theorem dX9_lawName_66 : decode cX9_lawName 66 = .ok (.goto 4, 3) := by decide +kernel
theorem dX9_lawName_69 : decode cX9_lawName 69 = .ok (.iconst 0, 1) := by decide +kernel
theorem dX9_lawName_70 : decode cX9_lawName 70 = .ok (.ireturn, 1) := by decide +kernel
noncomputable def fX9_lawName (rf : Nat → Nat → Nat) (a0 : Nat) (x1 : Int32) (x2 : Int32) (x3 : Int32) (μ0 : o_Mem) : Option (Int32 × o_Mem) :=
  o_ck (0 ≤ (x2).toInt ∧ (x2).toInt < 48) <|
  o_seq (o_wI μ0 (rf (rf a0 1) 12) x2.toNatClampNeg (-1)) fun μ1 =>
  if (μ1.1 (rf a0 0) 8) = x1 then (
    o_bd (fX4_next rf (rf a0 0) μ1) fun _u μ2 =>
    o_bd (fX4_wantKnown rf (rf a0 0) (rf a0 1) x3 (-1) μ2) fun r1 μ3 =>
    o_ck (0 ≤ (x2).toInt ∧ (x2).toInt < 48) <|
    o_seq (o_wI μ3 (rf (rf a0 1) 12) x2.toNatClampNeg r1) fun μ4 =>
    o_ck (0 ≤ (x2).toInt ∧ (x2).toInt < 48) <|
    if (μ4.1 (rf (rf a0 1) 12) x2.toNatClampNeg) = (-1) then (
      some (0, μ4))
    else (
      some (1, μ4)))
  else (
    some (1, μ1))
set_option maxRecDepth 20000 in
theorem dnX9_lawName {X : o_Cx} (hX : o_ok X) {d : Nat} {a0 : Nat} {x1 : Int32} {x2 : Int32} {x3 : Int32} {μ0 : o_Mem} {q : Int32 → o_Mem → Prop} (h0 : o_is X a0 (.inl 9)) (h : o_Post (fX9_lawName (o_rf X) a0 x1 x2 x3 μ0) q) : o_Ev X (d + 7) mX9_lawName 0 [some (.ref (o_ad X a0)), some (.int x1), some (.int x2), some (.int x3)] [] μ0 (o_QZ q) := by
  unfold fX9_lawName at h
  refine s_aload_n (i := 0) dX9_lawName_0 rfl rfl ?_
  refine s_getR hX h0 flX9_15 rfl dX9_lawName_1 (fun (g1 : o_is X (o_rf X a0 1) (.inl 8)) => ?_)
  refine s_getR hX g1 flX9_125 rfl dX9_lawName_4 (fun (g2 : o_is X (o_rf X (o_rf X a0 1) 12) (.inr (0, 48))) => ?_)
  refine s_iload_n (i := 2) dX9_lawName_7 rfl rfl ?_
  refine s_iconst dX9_lawName_8 kI_m1 ?_
  have hc := o_ck_c h
  have h := o_ck_k h
  refine s_iastK hX g2 hc rfl dX9_lawName_9 (o_gen h (fun μ1 h => ?_))
  refine s_aload_n (i := 0) dX9_lawName_10 rfl rfl ?_
  refine s_getR hX h0 flX9_9 rfl dX9_lawName_11 (fun (g3 : o_is X (o_rf X a0 0) (.inl 4)) => ?_)
  refine s_getI g3 flX9_38 rfl dX9_lawName_14 ?_
  refine s_iload_n (i := 1) dX9_lawName_17 rfl rfl ?_
  refine s_icmp_eq (tgt := 23) dX9_lawName_18 rfl (fun c1 => ?_) (fun c1 => ?_)
  · have h := o_if_t c1 h
    refine s_aload_n (i := 0) dX9_lawName_23 rfl rfl ?_
    refine s_getR hX h0 flX9_9 rfl dX9_lawName_24 (fun (g4 : o_is X (o_rf X a0 0) (.inl 4)) => ?_)
    refine s_callVu (C := mX4_next) (As := []) (rest := []) (L0 := [some (.ref (o_ad X (o_rf X a0 0)))]) hX g4 clX9_86 dX9_lawName_27 rfl rfl (Nat.le_of_ble_eq_true rfl) (Nat.le_of_ble_eq_true rfl) (dnX4_next hX g4 (o_bdp h)) (fun _u μ2 h => ?_)
    refine s_aload_n (i := 0) dX9_lawName_30 rfl rfl ?_
    refine s_getR hX h0 flX9_15 rfl dX9_lawName_31 (fun (g5 : o_is X (o_rf X a0 1) (.inl 8)) => ?_)
    refine s_getR hX g5 flX9_125 rfl dX9_lawName_34 (fun (g6 : o_is X (o_rf X (o_rf X a0 1) 12) (.inr (0, 48))) => ?_)
    refine s_iload_n (i := 2) dX9_lawName_37 rfl rfl ?_
    refine s_aload_n (i := 0) dX9_lawName_38 rfl rfl ?_
    refine s_getR hX h0 flX9_9 rfl dX9_lawName_39 (fun (g7 : o_is X (o_rf X a0 0) (.inl 4)) => ?_)
    refine s_aload_n (i := 0) dX9_lawName_42 rfl rfl ?_
    refine s_getR hX h0 flX9_15 rfl dX9_lawName_43 (fun (g8 : o_is X (o_rf X a0 1) (.inl 8)) => ?_)
    refine s_iload_n (i := 3) dX9_lawName_46 rfl rfl ?_
    refine s_iconst dX9_lawName_47 kI_m1 ?_
    refine s_callVi (C := mX4_wantKnown) (As := [.ref (o_ad X (o_rf X a0 1)), .int x3, .int (-1)]) (rest := [.int x2, .ref (o_ad X (o_rf X (o_rf X a0 1) 12))]) (L0 := [some (.ref (o_ad X (o_rf X a0 0))), some (.ref (o_ad X (o_rf X a0 1))), some (.int x3), some (.int (-1)), none]) hX g7 clX9_115 dX9_lawName_48 rfl rfl (Nat.le_of_ble_eq_true rfl) (Nat.le_of_ble_eq_true rfl) (dnX4_wantKnown hX g7 g8 (o_bdp h)) (fun r1 μ3 h => ?_)
    have hc := o_ck_c h
    have h := o_ck_k h
    refine s_iastK hX g6 hc rfl dX9_lawName_51 (o_gen h (fun μ4 h => ?_))
    refine s_aload_n (i := 0) dX9_lawName_52 rfl rfl ?_
    refine s_getR hX h0 flX9_15 rfl dX9_lawName_53 (fun (g9 : o_is X (o_rf X a0 1) (.inl 8)) => ?_)
    refine s_getR hX g9 flX9_125 rfl dX9_lawName_56 (fun (g10 : o_is X (o_rf X (o_rf X a0 1) 12) (.inr (0, 48))) => ?_)
    refine s_iload_n (i := 2) dX9_lawName_59 rfl rfl ?_
    have hc := o_ck_c h
    have h := o_ck_k h
    refine s_ialdK g10 hc rfl dX9_lawName_60 ?_
    refine s_iconst dX9_lawName_61 kI_m1 ?_
    refine s_icmp_eq (tgt := 69) dX9_lawName_62 rfl (fun c1 => ?_) (fun c1 => ?_)
    · have h := o_if_t c1 h
      refine s_iconst dX9_lawName_69 kI_0 ?_
      exact s_zreturn rfl (Or.inl rfl) dX9_lawName_70 ⟨_, rfl, (Or.inl rfl), o_ret h⟩
    · have h := o_if_f c1 h
      refine s_iconst dX9_lawName_65 kI_1 ?_
      refine s_goto (tgt := 70) dX9_lawName_66 rfl ?_
      exact s_zreturn rfl (Or.inr rfl) dX9_lawName_70 ⟨_, rfl, (Or.inr rfl), o_ret h⟩
  · have h := o_if_f c1 h
    refine s_iconst dX9_lawName_21 kI_1 ?_
    exact s_zreturn rfl (Or.inr rfl) dX9_lawName_22 ⟨_, rfl, (Or.inr rfl), o_ret h⟩
theorem dX9_takeLaw_0 : decode cX9_takeLaw 0 = .ok (.aload_n 0, 1) := by decide +kernel
theorem dX9_takeLaw_1 : decode cX9_takeLaw 1 = .ok (.getfield 15, 3) := by decide +kernel
theorem dX9_takeLaw_4 : decode cX9_takeLaw 4 = .ok (.getfield 122, 3) := by decide +kernel
theorem dX9_takeLaw_7 : decode cX9_takeLaw 7 = .ok (.bipush 8, 2) := by decide +kernel
theorem dX9_takeLaw_9 : decode cX9_takeLaw 9 = .ok (.if_icmp .lt 13, 3) := by decide +kernel
theorem dX9_takeLaw_12 : decode cX9_takeLaw 12 = .ok (.aload_n 0, 1) := by decide +kernel
theorem dX9_takeLaw_13 : decode cX9_takeLaw 13 = .ok (.getfield 9, 3) := by decide +kernel
theorem dX9_takeLaw_16 : decode cX9_takeLaw 16 = .ok (.bipush 6, 2) := by decide +kernel
theorem dX9_takeLaw_18 : decode cX9_takeLaw 18 = .ok (.invokevirtual 63, 3) := by decide +kernel
theorem dX9_takeLaw_21 : decode cX9_takeLaw 21 = .ok (.ireturn, 1) := by decide +kernel
theorem dX9_takeLaw_22 : decode cX9_takeLaw 22 = .ok (.aload_n 0, 1) := by decide +kernel
theorem dX9_takeLaw_23 : decode cX9_takeLaw 23 = .ok (.getfield 9, 3) := by decide +kernel
theorem dX9_takeLaw_26 : decode cX9_takeLaw 26 = .ok (.invokevirtual 86, 3) := by decide +kernel
theorem dX9_takeLaw_29 : decode cX9_takeLaw 29 = .ok (.aload_n 0, 1) := by decide +kernel
theorem dX9_takeLaw_30 : decode cX9_takeLaw 30 = .ok (.getfield 9, 3) := by decide +kernel
theorem dX9_takeLaw_33 : decode cX9_takeLaw 33 = .ok (.aload_n 0, 1) := by decide +kernel
theorem dX9_takeLaw_34 : decode cX9_takeLaw 34 = .ok (.getfield 15, 3) := by decide +kernel
theorem dX9_takeLaw_37 : decode cX9_takeLaw 37 = .ok (.iconst 0, 1) := by decide +kernel
theorem dX9_takeLaw_38 : decode cX9_takeLaw 38 = .ok (.iconst (-1), 1) := by decide +kernel
theorem dX9_takeLaw_39 : decode cX9_takeLaw 39 = .ok (.invokevirtual 115, 3) := by decide +kernel
theorem dX9_takeLaw_42 : decode cX9_takeLaw 42 = .ok (.istore_n 1, 1) := by decide +kernel
theorem dX9_takeLaw_43 : decode cX9_takeLaw 43 = .ok (.iload_n 1, 1) := by decide +kernel
theorem dX9_takeLaw_44 : decode cX9_takeLaw 44 = .ok (.iconst (-1), 1) := by decide +kernel
theorem dX9_takeLaw_45 : decode cX9_takeLaw 45 = .ok (.if_icmp .ne 5, 3) := by decide +kernel
theorem dX9_takeLaw_48 : decode cX9_takeLaw 48 = .ok (.iconst 0, 1) := by decide +kernel
theorem dX9_takeLaw_49 : decode cX9_takeLaw 49 = .ok (.ireturn, 1) := by decide +kernel
theorem dX9_takeLaw_50 : decode cX9_takeLaw 50 = .ok (.aload_n 0, 1) := by decide +kernel
theorem dX9_takeLaw_51 : decode cX9_takeLaw 51 = .ok (.getfield 15, 3) := by decide +kernel
theorem dX9_takeLaw_54 : decode cX9_takeLaw 54 = .ok (.getfield 122, 3) := by decide +kernel
theorem dX9_takeLaw_57 : decode cX9_takeLaw 57 = .ok (.bipush 6, 2) := by decide +kernel
theorem dX9_takeLaw_59 : decode cX9_takeLaw 59 = .ok (.imul, 1) := by decide +kernel
theorem dX9_takeLaw_60 : decode cX9_takeLaw 60 = .ok (.istore_n 2, 1) := by decide +kernel
theorem dX9_takeLaw_61 : decode cX9_takeLaw 61 = .ok (.aload_n 0, 1) := by decide +kernel
theorem dX9_takeLaw_62 : decode cX9_takeLaw 62 = .ok (.getfield 15, 3) := by decide +kernel
theorem dX9_takeLaw_65 : decode cX9_takeLaw 65 = .ok (.getfield 125, 3) := by decide +kernel
theorem dX9_takeLaw_68 : decode cX9_takeLaw 68 = .ok (.iload_n 2, 1) := by decide +kernel
theorem dX9_takeLaw_69 : decode cX9_takeLaw 69 = .ok (.iload_n 1, 1) := by decide +kernel
theorem dX9_takeLaw_70 : decode cX9_takeLaw 70 = .ok (.iastore, 1) := by decide +kernel
theorem dX9_takeLaw_71 : decode cX9_takeLaw 71 = .ok (.aload_n 0, 1) := by decide +kernel
theorem dX9_takeLaw_72 : decode cX9_takeLaw 72 = .ok (.iconst 5, 1) := by decide +kernel
theorem dX9_takeLaw_73 : decode cX9_takeLaw 73 = .ok (.iload_n 2, 1) := by decide +kernel
theorem dX9_takeLaw_74 : decode cX9_takeLaw 74 = .ok (.iconst 1, 1) := by decide +kernel
theorem dX9_takeLaw_75 : decode cX9_takeLaw 75 = .ok (.iadd, 1) := by decide +kernel
theorem dX9_takeLaw_76 : decode cX9_takeLaw 76 = .ok (.iconst 1, 1) := by decide +kernel
theorem dX9_takeLaw_77 : decode cX9_takeLaw 77 = .ok (.invokevirtual 128, 3) := by decide +kernel
theorem dX9_takeLaw_80 : decode cX9_takeLaw 80 = .ok (.ifCond .eq 55, 3) := by decide +kernel
theorem dX9_takeLaw_83 : decode cX9_takeLaw 83 = .ok (.aload_n 0, 1) := by decide +kernel
theorem dX9_takeLaw_84 : decode cX9_takeLaw 84 = .ok (.bipush 6, 2) := by decide +kernel
theorem dX9_takeLaw_86 : decode cX9_takeLaw 86 = .ok (.iload_n 2, 1) := by decide +kernel
theorem dX9_takeLaw_87 : decode cX9_takeLaw 87 = .ok (.iconst 2, 1) := by decide +kernel
theorem dX9_takeLaw_88 : decode cX9_takeLaw 88 = .ok (.iadd, 1) := by decide +kernel
theorem dX9_takeLaw_89 : decode cX9_takeLaw 89 = .ok (.iconst 0, 1) := by decide +kernel
theorem dX9_takeLaw_90 : decode cX9_takeLaw 90 = .ok (.invokevirtual 128, 3) := by decide +kernel
theorem dX9_takeLaw_93 : decode cX9_takeLaw 93 = .ok (.ifCond .eq 42, 3) := by decide +kernel
theorem dX9_takeLaw_96 : decode cX9_takeLaw 96 = .ok (.aload_n 0, 1) := by decide +kernel
theorem dX9_takeLaw_97 : decode cX9_takeLaw 97 = .ok (.bipush 7, 2) := by decide +kernel
theorem dX9_takeLaw_99 : decode cX9_takeLaw 99 = .ok (.iload_n 2, 1) := by decide +kernel
theorem dX9_takeLaw_100 : decode cX9_takeLaw 100 = .ok (.iconst 3, 1) := by decide +kernel
theorem dX9_takeLaw_101 : decode cX9_takeLaw 101 = .ok (.iadd, 1) := by decide +kernel
theorem dX9_takeLaw_102 : decode cX9_takeLaw 102 = .ok (.iconst 1, 1) := by decide +kernel
theorem dX9_takeLaw_103 : decode cX9_takeLaw 103 = .ok (.invokevirtual 132, 3) := by decide +kernel
theorem dX9_takeLaw_106 : decode cX9_takeLaw 106 = .ok (.ifCond .eq 29, 3) := by decide +kernel
theorem dX9_takeLaw_109 : decode cX9_takeLaw 109 = .ok (.aload_n 0, 1) := by decide +kernel
theorem dX9_takeLaw_110 : decode cX9_takeLaw 110 = .ok (.bipush 8, 2) := by decide +kernel
theorem dX9_takeLaw_112 : decode cX9_takeLaw 112 = .ok (.iload_n 2, 1) := by decide +kernel
theorem dX9_takeLaw_113 : decode cX9_takeLaw 113 = .ok (.iconst 4, 1) := by decide +kernel
theorem dX9_takeLaw_114 : decode cX9_takeLaw 114 = .ok (.iadd, 1) := by decide +kernel
theorem dX9_takeLaw_115 : decode cX9_takeLaw 115 = .ok (.iconst 2, 1) := by decide +kernel
theorem dX9_takeLaw_116 : decode cX9_takeLaw 116 = .ok (.invokevirtual 132, 3) := by decide +kernel
theorem dX9_takeLaw_119 : decode cX9_takeLaw 119 = .ok (.ifCond .eq 16, 3) := by decide +kernel
theorem dX9_takeLaw_122 : decode cX9_takeLaw 122 = .ok (.aload_n 0, 1) := by decide +kernel
theorem dX9_takeLaw_123 : decode cX9_takeLaw 123 = .ok (.bipush 9, 2) := by decide +kernel
theorem dX9_takeLaw_125 : decode cX9_takeLaw 125 = .ok (.iload_n 2, 1) := by decide +kernel
theorem dX9_takeLaw_126 : decode cX9_takeLaw 126 = .ok (.iconst 5, 1) := by decide +kernel
theorem dX9_takeLaw_127 : decode cX9_takeLaw 127 = .ok (.iadd, 1) := by decide +kernel
theorem dX9_takeLaw_128 : decode cX9_takeLaw 128 = .ok (.iconst 2, 1) := by decide +kernel
theorem dX9_takeLaw_129 : decode cX9_takeLaw 129 = .ok (.invokevirtual 132, 3) := by decide +kernel
theorem dX9_takeLaw_132 : decode cX9_takeLaw 132 = .ok (.ifCond .ne 5, 3) := by decide +kernel
theorem dX9_takeLaw_135 : decode cX9_takeLaw 135 = .ok (.iconst 0, 1) := by decide +kernel
theorem dX9_takeLaw_136 : decode cX9_takeLaw 136 = .ok (.ireturn, 1) := by decide +kernel
theorem dX9_takeLaw_137 : decode cX9_takeLaw 137 = .ok (.aload_n 0, 1) := by decide +kernel
theorem dX9_takeLaw_138 : decode cX9_takeLaw 138 = .ok (.getfield 15, 3) := by decide +kernel
theorem dX9_takeLaw_141 : decode cX9_takeLaw 141 = .ok (.dup, 1) := by decide +kernel
theorem dX9_takeLaw_142 : decode cX9_takeLaw 142 = .ok (.getfield 122, 3) := by decide +kernel
theorem dX9_takeLaw_145 : decode cX9_takeLaw 145 = .ok (.iconst 1, 1) := by decide +kernel
theorem dX9_takeLaw_146 : decode cX9_takeLaw 146 = .ok (.iadd, 1) := by decide +kernel
theorem dX9_takeLaw_147 : decode cX9_takeLaw 147 = .ok (.putfield 122, 3) := by decide +kernel
theorem dX9_takeLaw_150 : decode cX9_takeLaw 150 = .ok (.aload_n 0, 1) := by decide +kernel
theorem dX9_takeLaw_151 : decode cX9_takeLaw 151 = .ok (.getfield 9, 3) := by decide +kernel
theorem dX9_takeLaw_154 : decode cX9_takeLaw 154 = .ok (.invokevirtual 103, 3) := by decide +kernel
theorem dX9_takeLaw_157 : decode cX9_takeLaw 157 = .ok (.ireturn, 1) := by decide +kernel
noncomputable def fX9_takeLaw (rf : Nat → Nat → Nat) (a0 : Nat) (μ0 : o_Mem) : Option (Int32 × o_Mem) :=
  if (μ0.1 (rf a0 1) 3) < 8 then (
    o_bd (fX4_next rf (rf a0 0) μ0) fun _u μ1 =>
    o_bd (fX4_wantKnown rf (rf a0 0) (rf a0 1) 0 (-1) μ1) fun r1 μ2 =>
    if r1 = (-1) then (
      some (0, μ2))
    else (
      o_ck (0 ≤ (((μ2.1 (rf a0 1) 3) * 6)).toInt ∧ (((μ2.1 (rf a0 1) 3) * 6)).toInt < 48) <|
      o_seq (o_wI μ2 (rf (rf a0 1) 12) ((((μ2.1 (rf a0 1) 3) * 6)).toNatClampNeg) r1) fun μ3 =>
      o_bd (fX9_lawNumber rf a0 5 (((μ2.1 (rf a0 1) 3) * 6) + 1) 1 μ3) fun r2 μ4 =>
      if r2 = 0 then (
        some (0, μ4))
      else (
        o_bd (fX9_lawNumber rf a0 6 (((μ2.1 (rf a0 1) 3) * 6) + 2) 0 μ4) fun r3 μ5 =>
        if r3 = 0 then (
          some (0, μ5))
        else (
          o_bd (fX9_lawName rf a0 7 (((μ2.1 (rf a0 1) 3) * 6) + 3) 1 μ5) fun r4 μ6 =>
          if r4 = 0 then (
            some (0, μ6))
          else (
            o_bd (fX9_lawName rf a0 8 (((μ2.1 (rf a0 1) 3) * 6) + 4) 2 μ6) fun r5 μ7 =>
            if r5 = 0 then (
              some (0, μ7))
            else (
              o_bd (fX9_lawName rf a0 9 (((μ2.1 (rf a0 1) 3) * 6) + 5) 2 μ7) fun r6 μ8 =>
              if r6 = 0 then (
                some (0, μ8))
              else (
                o_seq (o_wI μ8 (rf a0 1) 3 ((μ8.1 (rf a0 1) 3) + 1)) fun μ9 =>
                o_bd (fX4_wantClose rf (rf a0 0) μ9) fun r7 μ10 =>
                some (r7, μ10))))))))
  else (
    o_bd (fX4_fail rf (rf a0 0) 6 μ0) fun r8 μ11 =>
    some (r8, μ11))
set_option maxRecDepth 20000 in
theorem dnX9_takeLaw {X : o_Cx} (hX : o_ok X) {d : Nat} {a0 : Nat} {μ0 : o_Mem} {q : Int32 → o_Mem → Prop} (h0 : o_is X a0 (.inl 9)) (h : o_Post (fX9_takeLaw (o_rf X) a0 μ0) q) : o_Ev X (d + 8) mX9_takeLaw 0 [some (.ref (o_ad X a0)), none, none] [] μ0 (o_QZ q) := by
  unfold fX9_takeLaw at h
  refine s_aload_n (i := 0) dX9_takeLaw_0 rfl rfl ?_
  refine s_getR hX h0 flX9_15 rfl dX9_takeLaw_1 (fun (g1 : o_is X (o_rf X a0 1) (.inl 8)) => ?_)
  refine s_getI g1 flX9_122 rfl dX9_takeLaw_4 ?_
  refine s_bipush dX9_takeLaw_7 kB_8 ?_
  refine s_icmp_lt (tgt := 22) dX9_takeLaw_9 rfl (fun c1 => ?_) (fun c1 => ?_)
  · have h := o_if_t c1 h
    refine s_aload_n (i := 0) dX9_takeLaw_22 rfl rfl ?_
    refine s_getR hX h0 flX9_9 rfl dX9_takeLaw_23 (fun (g2 : o_is X (o_rf X a0 0) (.inl 4)) => ?_)
    refine s_callVu (C := mX4_next) (As := []) (rest := []) (L0 := [some (.ref (o_ad X (o_rf X a0 0)))]) hX g2 clX9_86 dX9_takeLaw_26 rfl rfl (Nat.le_of_ble_eq_true rfl) (Nat.le_of_ble_eq_true rfl) (dnX4_next hX g2 (o_bdp h)) (fun _u μ1 h => ?_)
    refine s_aload_n (i := 0) dX9_takeLaw_29 rfl rfl ?_
    refine s_getR hX h0 flX9_9 rfl dX9_takeLaw_30 (fun (g3 : o_is X (o_rf X a0 0) (.inl 4)) => ?_)
    refine s_aload_n (i := 0) dX9_takeLaw_33 rfl rfl ?_
    refine s_getR hX h0 flX9_15 rfl dX9_takeLaw_34 (fun (g4 : o_is X (o_rf X a0 1) (.inl 8)) => ?_)
    refine s_iconst dX9_takeLaw_37 kI_0 ?_
    refine s_iconst dX9_takeLaw_38 kI_m1 ?_
    refine s_callVi (C := mX4_wantKnown) (As := [.ref (o_ad X (o_rf X a0 1)), .int 0, .int (-1)]) (rest := []) (L0 := [some (.ref (o_ad X (o_rf X a0 0))), some (.ref (o_ad X (o_rf X a0 1))), some (.int 0), some (.int (-1)), none]) hX g3 clX9_115 dX9_takeLaw_39 rfl rfl (Nat.le_of_ble_eq_true rfl) (Nat.le_of_ble_eq_true rfl) (dnX4_wantKnown hX g3 g4 (o_bdp h)) (fun r1 μ2 h => ?_)
    refine s_istore_n (i := 1) dX9_takeLaw_42 rfl (Nat.le_of_ble_eq_true rfl) rfl ?_
    refine s_iload_n (i := 1) dX9_takeLaw_43 rfl rfl ?_
    refine s_iconst dX9_takeLaw_44 kI_m1 ?_
    refine s_icmp_ne (tgt := 50) dX9_takeLaw_45 rfl (fun c1 => ?_) (fun c1 => ?_)
    · have h := o_if_f c1 h
      refine s_aload_n (i := 0) dX9_takeLaw_50 rfl rfl ?_
      refine s_getR hX h0 flX9_15 rfl dX9_takeLaw_51 (fun (g5 : o_is X (o_rf X a0 1) (.inl 8)) => ?_)
      refine s_getI g5 flX9_122 rfl dX9_takeLaw_54 ?_
      refine s_bipush dX9_takeLaw_57 kB_6 ?_
      refine s_imul dX9_takeLaw_59 ?_
      refine s_istore_n (i := 2) dX9_takeLaw_60 rfl (Nat.le_of_ble_eq_true rfl) rfl ?_
      refine s_aload_n (i := 0) dX9_takeLaw_61 rfl rfl ?_
      refine s_getR hX h0 flX9_15 rfl dX9_takeLaw_62 (fun (g6 : o_is X (o_rf X a0 1) (.inl 8)) => ?_)
      refine s_getR hX g6 flX9_125 rfl dX9_takeLaw_65 (fun (g7 : o_is X (o_rf X (o_rf X a0 1) 12) (.inr (0, 48))) => ?_)
      refine s_iload_n (i := 2) dX9_takeLaw_68 rfl rfl ?_
      refine s_iload_n (i := 1) dX9_takeLaw_69 rfl rfl ?_
      have hc := o_ck_c h
      have h := o_ck_k h
      refine s_iastK hX g7 hc rfl dX9_takeLaw_70 (o_gen h (fun μ3 h => ?_))
      refine s_aload_n (i := 0) dX9_takeLaw_71 rfl rfl ?_
      refine s_iconst dX9_takeLaw_72 kI_5 ?_
      refine s_iload_n (i := 2) dX9_takeLaw_73 rfl rfl ?_
      refine s_iconst dX9_takeLaw_74 kI_1 ?_
      refine s_iadd dX9_takeLaw_75 ?_
      refine s_iconst dX9_takeLaw_76 kI_1 ?_
      refine s_callVz (C := mX9_lawNumber) (As := [.int 5, .int (((μ2.1 (o_rf X a0 1) 3) * 6) + 1), .int 1]) (rest := []) (L0 := [some (.ref (o_ad X a0)), some (.int 5), some (.int (((μ2.1 (o_rf X a0 1) 3) * 6) + 1)), some (.int 1)]) hX h0 clX9_128 dX9_takeLaw_77 rfl rfl (Nat.le_of_ble_eq_true rfl) (Nat.le_of_ble_eq_true rfl) (dnX9_lawNumber hX h0 (o_bdp h)) (fun r2 μ4 zr2 h => ?_)
      refine s_if_eq (tgt := 135) dX9_takeLaw_80 rfl (fun c1 => ?_) (fun c1 => ?_)
      · have h := o_if_t c1 h
        refine s_iconst dX9_takeLaw_135 kI_0 ?_
        exact s_zreturn rfl (Or.inl rfl) dX9_takeLaw_136 ⟨_, rfl, (Or.inl rfl), o_ret h⟩
      · have h := o_if_f c1 h
        refine s_aload_n (i := 0) dX9_takeLaw_83 rfl rfl ?_
        refine s_bipush dX9_takeLaw_84 kB_6 ?_
        refine s_iload_n (i := 2) dX9_takeLaw_86 rfl rfl ?_
        refine s_iconst dX9_takeLaw_87 kI_2 ?_
        refine s_iadd dX9_takeLaw_88 ?_
        refine s_iconst dX9_takeLaw_89 kI_0 ?_
        refine s_callVz (C := mX9_lawNumber) (As := [.int 6, .int (((μ2.1 (o_rf X a0 1) 3) * 6) + 2), .int 0]) (rest := []) (L0 := [some (.ref (o_ad X a0)), some (.int 6), some (.int (((μ2.1 (o_rf X a0 1) 3) * 6) + 2)), some (.int 0)]) hX h0 clX9_128 dX9_takeLaw_90 rfl rfl (Nat.le_of_ble_eq_true rfl) (Nat.le_of_ble_eq_true rfl) (dnX9_lawNumber hX h0 (o_bdp h)) (fun r3 μ5 zr3 h => ?_)
        refine s_if_eq (tgt := 135) dX9_takeLaw_93 rfl (fun c1 => ?_) (fun c1 => ?_)
        · have h := o_if_t c1 h
          refine s_iconst dX9_takeLaw_135 kI_0 ?_
          exact s_zreturn rfl (Or.inl rfl) dX9_takeLaw_136 ⟨_, rfl, (Or.inl rfl), o_ret h⟩
        · have h := o_if_f c1 h
          refine s_aload_n (i := 0) dX9_takeLaw_96 rfl rfl ?_
          refine s_bipush dX9_takeLaw_97 kB_7 ?_
          refine s_iload_n (i := 2) dX9_takeLaw_99 rfl rfl ?_
          refine s_iconst dX9_takeLaw_100 kI_3 ?_
          refine s_iadd dX9_takeLaw_101 ?_
          refine s_iconst dX9_takeLaw_102 kI_1 ?_
          refine s_callVz (C := mX9_lawName) (As := [.int 7, .int (((μ2.1 (o_rf X a0 1) 3) * 6) + 3), .int 1]) (rest := []) (L0 := [some (.ref (o_ad X a0)), some (.int 7), some (.int (((μ2.1 (o_rf X a0 1) 3) * 6) + 3)), some (.int 1)]) hX h0 clX9_132 dX9_takeLaw_103 rfl rfl (Nat.le_of_ble_eq_true rfl) (Nat.le_of_ble_eq_true rfl) (dnX9_lawName hX h0 (o_bdp h)) (fun r4 μ6 zr4 h => ?_)
          refine s_if_eq (tgt := 135) dX9_takeLaw_106 rfl (fun c1 => ?_) (fun c1 => ?_)
          · have h := o_if_t c1 h
            refine s_iconst dX9_takeLaw_135 kI_0 ?_
            exact s_zreturn rfl (Or.inl rfl) dX9_takeLaw_136 ⟨_, rfl, (Or.inl rfl), o_ret h⟩
          · have h := o_if_f c1 h
            refine s_aload_n (i := 0) dX9_takeLaw_109 rfl rfl ?_
            refine s_bipush dX9_takeLaw_110 kB_8 ?_
            refine s_iload_n (i := 2) dX9_takeLaw_112 rfl rfl ?_
            refine s_iconst dX9_takeLaw_113 kI_4 ?_
            refine s_iadd dX9_takeLaw_114 ?_
            refine s_iconst dX9_takeLaw_115 kI_2 ?_
            refine s_callVz (C := mX9_lawName) (As := [.int 8, .int (((μ2.1 (o_rf X a0 1) 3) * 6) + 4), .int 2]) (rest := []) (L0 := [some (.ref (o_ad X a0)), some (.int 8), some (.int (((μ2.1 (o_rf X a0 1) 3) * 6) + 4)), some (.int 2)]) hX h0 clX9_132 dX9_takeLaw_116 rfl rfl (Nat.le_of_ble_eq_true rfl) (Nat.le_of_ble_eq_true rfl) (dnX9_lawName hX h0 (o_bdp h)) (fun r5 μ7 zr5 h => ?_)
            refine s_if_eq (tgt := 135) dX9_takeLaw_119 rfl (fun c1 => ?_) (fun c1 => ?_)
            · have h := o_if_t c1 h
              refine s_iconst dX9_takeLaw_135 kI_0 ?_
              exact s_zreturn rfl (Or.inl rfl) dX9_takeLaw_136 ⟨_, rfl, (Or.inl rfl), o_ret h⟩
            · have h := o_if_f c1 h
              refine s_aload_n (i := 0) dX9_takeLaw_122 rfl rfl ?_
              refine s_bipush dX9_takeLaw_123 kB_9 ?_
              refine s_iload_n (i := 2) dX9_takeLaw_125 rfl rfl ?_
              refine s_iconst dX9_takeLaw_126 kI_5 ?_
              refine s_iadd dX9_takeLaw_127 ?_
              refine s_iconst dX9_takeLaw_128 kI_2 ?_
              refine s_callVz (C := mX9_lawName) (As := [.int 9, .int (((μ2.1 (o_rf X a0 1) 3) * 6) + 5), .int 2]) (rest := []) (L0 := [some (.ref (o_ad X a0)), some (.int 9), some (.int (((μ2.1 (o_rf X a0 1) 3) * 6) + 5)), some (.int 2)]) hX h0 clX9_132 dX9_takeLaw_129 rfl rfl (Nat.le_of_ble_eq_true rfl) (Nat.le_of_ble_eq_true rfl) (dnX9_lawName hX h0 (o_bdp h)) (fun r6 μ8 zr6 h => ?_)
              refine s_if_ne (tgt := 137) dX9_takeLaw_132 rfl (fun c1 => ?_) (fun c1 => ?_)
              · have h := o_if_f c1 h
                refine s_aload_n (i := 0) dX9_takeLaw_137 rfl rfl ?_
                refine s_getR hX h0 flX9_15 rfl dX9_takeLaw_138 (fun (g8 : o_is X (o_rf X a0 1) (.inl 8)) => ?_)
                refine s_dup dX9_takeLaw_141 rfl ?_
                refine s_getI g8 flX9_122 rfl dX9_takeLaw_142 ?_
                refine s_iconst dX9_takeLaw_145 kI_1 ?_
                refine s_iadd dX9_takeLaw_146 ?_
                refine s_putI hX g8 fwX9_122 rfl dX9_takeLaw_147 (o_gen h (fun μ9 h => ?_))
                refine s_aload_n (i := 0) dX9_takeLaw_150 rfl rfl ?_
                refine s_getR hX h0 flX9_9 rfl dX9_takeLaw_151 (fun (g9 : o_is X (o_rf X a0 0) (.inl 4)) => ?_)
                refine s_callVz (C := mX4_wantClose) (As := []) (rest := []) (L0 := [some (.ref (o_ad X (o_rf X a0 0)))]) hX g9 clX9_103 dX9_takeLaw_154 rfl rfl (Nat.le_of_ble_eq_true rfl) (Nat.le_of_ble_eq_true rfl) (dnX4_wantClose hX g9 (o_bdp h)) (fun r7 μ10 zr7 h => ?_)
                exact s_zreturn rfl zr7 dX9_takeLaw_157 ⟨_, rfl, zr7, o_ret h⟩
              · have h := o_if_t c1 h
                refine s_iconst dX9_takeLaw_135 kI_0 ?_
                exact s_zreturn rfl (Or.inl rfl) dX9_takeLaw_136 ⟨_, rfl, (Or.inl rfl), o_ret h⟩
    · have h := o_if_t c1 h
      refine s_iconst dX9_takeLaw_48 kI_0 ?_
      exact s_zreturn rfl (Or.inl rfl) dX9_takeLaw_49 ⟨_, rfl, (Or.inl rfl), o_ret h⟩
  · have h := o_if_f c1 h
    refine s_aload_n (i := 0) dX9_takeLaw_12 rfl rfl ?_
    refine s_getR hX h0 flX9_9 rfl dX9_takeLaw_13 (fun (g10 : o_is X (o_rf X a0 0) (.inl 4)) => ?_)
    refine s_bipush dX9_takeLaw_16 kB_6 ?_
    refine s_callVz (C := mX4_fail) (As := [.int 6]) (rest := []) (L0 := [some (.ref (o_ad X (o_rf X a0 0))), some (.int 6)]) hX g10 clX9_63 dX9_takeLaw_18 rfl rfl (Nat.le_of_ble_eq_true rfl) (Nat.le_of_ble_eq_true rfl) (dnX4_fail hX g10 (o_bdp h)) (fun r8 μ11 zr8 h => ?_)
    exact s_zreturn rfl zr8 dX9_takeLaw_21 ⟨_, rfl, zr8, o_ret h⟩
theorem dX9_takeActs_0 : decode cX9_takeActs 0 = .ok (.aload_n 0, 1) := by decide +kernel
theorem dX9_takeActs_1 : decode cX9_takeActs 1 = .ok (.getfield 9, 3) := by decide +kernel
theorem dX9_takeActs_4 : decode cX9_takeActs 4 = .ok (.invokevirtual 86, 3) := by decide +kernel
theorem dX9_takeActs_7 : decode cX9_takeActs 7 = .ok (.aload_n 0, 1) := by decide +kernel
theorem dX9_takeActs_8 : decode cX9_takeActs 8 = .ok (.getfield 9, 3) := by decide +kernel
theorem dX9_takeActs_11 : decode cX9_takeActs 11 = .ok (.aload_n 0, 1) := by decide +kernel
theorem dX9_takeActs_12 : decode cX9_takeActs 12 = .ok (.getfield 15, 3) := by decide +kernel
theorem dX9_takeActs_15 : decode cX9_takeActs 15 = .ok (.iconst 2, 1) := by decide +kernel
theorem dX9_takeActs_16 : decode cX9_takeActs 16 = .ok (.iconst (-1), 1) := by decide +kernel
theorem dX9_takeActs_17 : decode cX9_takeActs 17 = .ok (.invokevirtual 115, 3) := by decide +kernel
theorem dX9_takeActs_20 : decode cX9_takeActs 20 = .ok (.istore_n 1, 1) := by decide +kernel
theorem dX9_takeActs_21 : decode cX9_takeActs 21 = .ok (.iload_n 1, 1) := by decide +kernel
theorem dX9_takeActs_22 : decode cX9_takeActs 22 = .ok (.iconst (-1), 1) := by decide +kernel
theorem dX9_takeActs_23 : decode cX9_takeActs 23 = .ok (.if_icmp .eq 15, 3) := by decide +kernel
theorem dX9_takeActs_26 : decode cX9_takeActs 26 = .ok (.aload_n 0, 1) := by decide +kernel
theorem dX9_takeActs_27 : decode cX9_takeActs 27 = .ok (.getfield 9, 3) := by decide +kernel
theorem dX9_takeActs_30 : decode cX9_takeActs 30 = .ok (.bipush 11, 2) := by decide +kernel
theorem dX9_takeActs_32 : decode cX9_takeActs 32 = .ok (.invokevirtual 112, 3) := by decide +kernel
theorem dX9_takeActs_35 : decode cX9_takeActs 35 = .ok (.ifCond .ne 5, 3) := by decide +kernel
theorem dX9_takeActs_38 : decode cX9_takeActs 38 = .ok (.iconst 0, 1) := by decide +kernel
theorem dX9_takeActs_39 : decode cX9_takeActs 39 = .ok (.ireturn, 1) := by decide +kernel
theorem dX9_takeActs_40 : decode cX9_takeActs 40 = .ok (.aload_n 0, 1) := by decide +kernel
theorem dX9_takeActs_41 : decode cX9_takeActs 41 = .ok (.getfield 9, 3) := by decide +kernel
theorem dX9_takeActs_44 : decode cX9_takeActs 44 = .ok (.aload_n 0, 1) := by decide +kernel
theorem dX9_takeActs_45 : decode cX9_takeActs 45 = .ok (.getfield 15, 3) := by decide +kernel
theorem dX9_takeActs_48 : decode cX9_takeActs 48 = .ok (.iconst 0, 1) := by decide +kernel
theorem dX9_takeActs_49 : decode cX9_takeActs 49 = .ok (.iconst (-1), 1) := by decide +kernel
theorem dX9_takeActs_50 : decode cX9_takeActs 50 = .ok (.invokevirtual 115, 3) := by decide +kernel
theorem dX9_takeActs_53 : decode cX9_takeActs 53 = .ok (.istore_n 2, 1) := by decide +kernel
theorem dX9_takeActs_54 : decode cX9_takeActs 54 = .ok (.iload_n 2, 1) := by decide +kernel
theorem dX9_takeActs_55 : decode cX9_takeActs 55 = .ok (.iconst (-1), 1) := by decide +kernel
theorem dX9_takeActs_56 : decode cX9_takeActs 56 = .ok (.if_icmp .eq 15, 3) := by decide +kernel
theorem dX9_takeActs_59 : decode cX9_takeActs 59 = .ok (.aload_n 0, 1) := by decide +kernel
theorem dX9_takeActs_60 : decode cX9_takeActs 60 = .ok (.getfield 9, 3) := by decide +kernel
theorem dX9_takeActs_63 : decode cX9_takeActs 63 = .ok (.bipush 9, 2) := by decide +kernel
theorem dX9_takeActs_65 : decode cX9_takeActs 65 = .ok (.invokevirtual 112, 3) := by decide +kernel
theorem dX9_takeActs_68 : decode cX9_takeActs 68 = .ok (.ifCond .ne 5, 3) := by decide +kernel
theorem dX9_takeActs_71 : decode cX9_takeActs 71 = .ok (.iconst 0, 1) := by decide +kernel
theorem dX9_takeActs_72 : decode cX9_takeActs 72 = .ok (.ireturn, 1) := by decide +kernel
theorem dX9_takeActs_73 : decode cX9_takeActs 73 = .ok (.aload_n 0, 1) := by decide +kernel
theorem dX9_takeActs_74 : decode cX9_takeActs 74 = .ok (.getfield 9, 3) := by decide +kernel
theorem dX9_takeActs_77 : decode cX9_takeActs 77 = .ok (.aload_n 0, 1) := by decide +kernel
theorem dX9_takeActs_78 : decode cX9_takeActs 78 = .ok (.getfield 15, 3) := by decide +kernel
theorem dX9_takeActs_81 : decode cX9_takeActs 81 = .ok (.iconst 2, 1) := by decide +kernel
theorem dX9_takeActs_82 : decode cX9_takeActs 82 = .ok (.iload_n 1, 1) := by decide +kernel
theorem dX9_takeActs_83 : decode cX9_takeActs 83 = .ok (.invokevirtual 115, 3) := by decide +kernel
theorem dX9_takeActs_86 : decode cX9_takeActs 86 = .ok (.istore_n 3, 1) := by decide +kernel
theorem dX9_takeActs_87 : decode cX9_takeActs 87 = .ok (.iload_n 3, 1) := by decide +kernel
theorem dX9_takeActs_88 : decode cX9_takeActs 88 = .ok (.iconst (-1), 1) := by decide +kernel
theorem dX9_takeActs_89 : decode cX9_takeActs 89 = .ok (.if_icmp .eq 15, 3) := by decide +kernel
theorem dX9_takeActs_92 : decode cX9_takeActs 92 = .ok (.aload_n 0, 1) := by decide +kernel
theorem dX9_takeActs_93 : decode cX9_takeActs 93 = .ok (.getfield 9, 3) := by decide +kernel
theorem dX9_takeActs_96 : decode cX9_takeActs 96 = .ok (.bipush 12, 2) := by decide +kernel
theorem dX9_takeActs_98 : decode cX9_takeActs 98 = .ok (.invokevirtual 112, 3) := by decide +kernel
theorem dX9_takeActs_101 : decode cX9_takeActs 101 = .ok (.ifCond .ne 5, 3) := by decide +kernel
theorem dX9_takeActs_104 : decode cX9_takeActs 104 = .ok (.iconst 0, 1) := by decide +kernel
theorem dX9_takeActs_105 : decode cX9_takeActs 105 = .ok (.ireturn, 1) := by decide +kernel
theorem dX9_takeActs_106 : decode cX9_takeActs 106 = .ok (.aload_n 0, 1) := by decide +kernel
theorem dX9_takeActs_107 : decode cX9_takeActs 107 = .ok (.getfield 9, 3) := by decide +kernel
theorem dX9_takeActs_110 : decode cX9_takeActs 110 = .ok (.iconst 1, 1) := by decide +kernel
theorem dX9_takeActs_111 : decode cX9_takeActs 111 = .ok (.bipush 99, 2) := by decide +kernel
theorem dX9_takeActs_113 : decode cX9_takeActs 113 = .ok (.invokevirtual 95, 3) := by decide +kernel
theorem dX9_takeActs_116 : decode cX9_takeActs 116 = .ok (.istore 4, 2) := by decide +kernel
theorem dX9_takeActs_118 : decode cX9_takeActs 118 = .ok (.iload 4, 2) := by decide +kernel
theorem dX9_takeActs_120 : decode cX9_takeActs 120 = .ok (.iconst (-1), 1) := by decide +kernel
theorem dX9_takeActs_121 : decode cX9_takeActs 121 = .ok (.if_icmp .ne 5, 3) := by decide +kernel
theorem dX9_takeActs_124 : decode cX9_takeActs 124 = .ok (.iconst 0, 1) := by decide +kernel
theorem dX9_takeActs_125 : decode cX9_takeActs 125 = .ok (.ireturn, 1) := by decide +kernel
theorem dX9_takeActs_126 : decode cX9_takeActs 126 = .ok (.aload_n 0, 1) := by decide +kernel
theorem dX9_takeActs_127 : decode cX9_takeActs 127 = .ok (.getfield 15, 3) := by decide +kernel
theorem dX9_takeActs_130 : decode cX9_takeActs 130 = .ok (.iload_n 1, 1) := by decide +kernel
theorem dX9_takeActs_131 : decode cX9_takeActs 131 = .ok (.iload_n 2, 1) := by decide +kernel
theorem dX9_takeActs_132 : decode cX9_takeActs 132 = .ok (.iload_n 3, 1) := by decide +kernel
theorem dX9_takeActs_133 : decode cX9_takeActs 133 = .ok (.iload 4, 2) := by decide +kernel
theorem dX9_takeActs_135 : decode cX9_takeActs 135 = .ok (.invokevirtual 135, 3) := by decide +kernel
theorem dX9_takeActs_138 : decode cX9_takeActs 138 = .ok (.aload_n 0, 1) := by decide +kernel
theorem dX9_takeActs_139 : decode cX9_takeActs 139 = .ok (.getfield 9, 3) := by decide +kernel
theorem dX9_takeActs_142 : decode cX9_takeActs 142 = .ok (.invokevirtual 103, 3) := by decide +kernel
theorem dX9_takeActs_145 : decode cX9_takeActs 145 = .ok (.ireturn, 1) := by decide +kernel
noncomputable def fX9_takeActs (rf : Nat → Nat → Nat) (a0 : Nat) (μ0 : o_Mem) : Option (Int32 × o_Mem) :=
  o_bd (fX4_next rf (rf a0 0) μ0) fun _u μ1 =>
  o_bd (fX4_wantKnown rf (rf a0 0) (rf a0 1) 2 (-1) μ1) fun r1 μ2 =>
  if r1 = (-1) then (
    some (0, μ2))
  else (
    o_bd (fX4_wantWord rf (rf a0 0) 11 μ2) fun r2 μ3 =>
    if r2 = 0 then (
      some (0, μ3))
    else (
      o_bd (fX4_wantKnown rf (rf a0 0) (rf a0 1) 0 (-1) μ3) fun r3 μ4 =>
      if r3 = (-1) then (
        some (0, μ4))
      else (
        o_bd (fX4_wantWord rf (rf a0 0) 9 μ4) fun r4 μ5 =>
        if r4 = 0 then (
          some (0, μ5))
        else (
          o_bd (fX4_wantKnown rf (rf a0 0) (rf a0 1) 2 r1 μ5) fun r5 μ6 =>
          if r5 = (-1) then (
            some (0, μ6))
          else (
            o_bd (fX4_wantWord rf (rf a0 0) 12 μ6) fun r6 μ7 =>
            if r6 = 0 then (
              some (0, μ7))
            else (
              o_bd (fX4_wantNumber rf (rf a0 0) 1 99 μ7) fun r7 μ8 =>
              if r7 = (-1) then (
                some (0, μ8))
              else (
                o_bd (fX8_setActs rf (rf a0 1) r1 r3 r5 r7 μ8) fun _u μ9 =>
                o_bd (fX4_wantClose rf (rf a0 0) μ9) fun r8 μ10 =>
                some (r8, μ10))))))))
set_option maxRecDepth 20000 in
theorem dnX9_takeActs {X : o_Cx} (hX : o_ok X) {d : Nat} {a0 : Nat} {μ0 : o_Mem} {q : Int32 → o_Mem → Prop} (h0 : o_is X a0 (.inl 9)) (h : o_Post (fX9_takeActs (o_rf X) a0 μ0) q) : o_Ev X (d + 7) mX9_takeActs 0 [some (.ref (o_ad X a0)), none, none, none, none] [] μ0 (o_QZ q) := by
  unfold fX9_takeActs at h
  refine s_aload_n (i := 0) dX9_takeActs_0 rfl rfl ?_
  refine s_getR hX h0 flX9_9 rfl dX9_takeActs_1 (fun (g1 : o_is X (o_rf X a0 0) (.inl 4)) => ?_)
  refine s_callVu (C := mX4_next) (As := []) (rest := []) (L0 := [some (.ref (o_ad X (o_rf X a0 0)))]) hX g1 clX9_86 dX9_takeActs_4 rfl rfl (Nat.le_of_ble_eq_true rfl) (Nat.le_of_ble_eq_true rfl) (dnX4_next hX g1 (o_bdp h)) (fun _u μ1 h => ?_)
  refine s_aload_n (i := 0) dX9_takeActs_7 rfl rfl ?_
  refine s_getR hX h0 flX9_9 rfl dX9_takeActs_8 (fun (g2 : o_is X (o_rf X a0 0) (.inl 4)) => ?_)
  refine s_aload_n (i := 0) dX9_takeActs_11 rfl rfl ?_
  refine s_getR hX h0 flX9_15 rfl dX9_takeActs_12 (fun (g3 : o_is X (o_rf X a0 1) (.inl 8)) => ?_)
  refine s_iconst dX9_takeActs_15 kI_2 ?_
  refine s_iconst dX9_takeActs_16 kI_m1 ?_
  refine s_callVi (C := mX4_wantKnown) (As := [.ref (o_ad X (o_rf X a0 1)), .int 2, .int (-1)]) (rest := []) (L0 := [some (.ref (o_ad X (o_rf X a0 0))), some (.ref (o_ad X (o_rf X a0 1))), some (.int 2), some (.int (-1)), none]) hX g2 clX9_115 dX9_takeActs_17 rfl rfl (Nat.le_of_ble_eq_true rfl) (Nat.le_of_ble_eq_true rfl) (dnX4_wantKnown hX g2 g3 (o_bdp h)) (fun r1 μ2 h => ?_)
  refine s_istore_n (i := 1) dX9_takeActs_20 rfl (Nat.le_of_ble_eq_true rfl) rfl ?_
  refine s_iload_n (i := 1) dX9_takeActs_21 rfl rfl ?_
  refine s_iconst dX9_takeActs_22 kI_m1 ?_
  refine s_icmp_eq (tgt := 38) dX9_takeActs_23 rfl (fun c1 => ?_) (fun c1 => ?_)
  · have h := o_if_t c1 h
    refine s_iconst dX9_takeActs_38 kI_0 ?_
    exact s_zreturn rfl (Or.inl rfl) dX9_takeActs_39 ⟨_, rfl, (Or.inl rfl), o_ret h⟩
  · have h := o_if_f c1 h
    refine s_aload_n (i := 0) dX9_takeActs_26 rfl rfl ?_
    refine s_getR hX h0 flX9_9 rfl dX9_takeActs_27 (fun (g4 : o_is X (o_rf X a0 0) (.inl 4)) => ?_)
    refine s_bipush dX9_takeActs_30 kB_11 ?_
    refine s_callVz (C := mX4_wantWord) (As := [.int 11]) (rest := []) (L0 := [some (.ref (o_ad X (o_rf X a0 0))), some (.int 11)]) hX g4 clX9_112 dX9_takeActs_32 rfl rfl (Nat.le_of_ble_eq_true rfl) (Nat.le_of_ble_eq_true rfl) (dnX4_wantWord hX g4 (o_bdp h)) (fun r2 μ3 zr2 h => ?_)
    refine s_if_ne (tgt := 40) dX9_takeActs_35 rfl (fun c1 => ?_) (fun c1 => ?_)
    · have h := o_if_f c1 h
      refine s_aload_n (i := 0) dX9_takeActs_40 rfl rfl ?_
      refine s_getR hX h0 flX9_9 rfl dX9_takeActs_41 (fun (g5 : o_is X (o_rf X a0 0) (.inl 4)) => ?_)
      refine s_aload_n (i := 0) dX9_takeActs_44 rfl rfl ?_
      refine s_getR hX h0 flX9_15 rfl dX9_takeActs_45 (fun (g6 : o_is X (o_rf X a0 1) (.inl 8)) => ?_)
      refine s_iconst dX9_takeActs_48 kI_0 ?_
      refine s_iconst dX9_takeActs_49 kI_m1 ?_
      refine s_callVi (C := mX4_wantKnown) (As := [.ref (o_ad X (o_rf X a0 1)), .int 0, .int (-1)]) (rest := []) (L0 := [some (.ref (o_ad X (o_rf X a0 0))), some (.ref (o_ad X (o_rf X a0 1))), some (.int 0), some (.int (-1)), none]) hX g5 clX9_115 dX9_takeActs_50 rfl rfl (Nat.le_of_ble_eq_true rfl) (Nat.le_of_ble_eq_true rfl) (dnX4_wantKnown hX g5 g6 (o_bdp h)) (fun r3 μ4 h => ?_)
      refine s_istore_n (i := 2) dX9_takeActs_53 rfl (Nat.le_of_ble_eq_true rfl) rfl ?_
      refine s_iload_n (i := 2) dX9_takeActs_54 rfl rfl ?_
      refine s_iconst dX9_takeActs_55 kI_m1 ?_
      refine s_icmp_eq (tgt := 71) dX9_takeActs_56 rfl (fun c1 => ?_) (fun c1 => ?_)
      · have h := o_if_t c1 h
        refine s_iconst dX9_takeActs_71 kI_0 ?_
        exact s_zreturn rfl (Or.inl rfl) dX9_takeActs_72 ⟨_, rfl, (Or.inl rfl), o_ret h⟩
      · have h := o_if_f c1 h
        refine s_aload_n (i := 0) dX9_takeActs_59 rfl rfl ?_
        refine s_getR hX h0 flX9_9 rfl dX9_takeActs_60 (fun (g7 : o_is X (o_rf X a0 0) (.inl 4)) => ?_)
        refine s_bipush dX9_takeActs_63 kB_9 ?_
        refine s_callVz (C := mX4_wantWord) (As := [.int 9]) (rest := []) (L0 := [some (.ref (o_ad X (o_rf X a0 0))), some (.int 9)]) hX g7 clX9_112 dX9_takeActs_65 rfl rfl (Nat.le_of_ble_eq_true rfl) (Nat.le_of_ble_eq_true rfl) (dnX4_wantWord hX g7 (o_bdp h)) (fun r4 μ5 zr4 h => ?_)
        refine s_if_ne (tgt := 73) dX9_takeActs_68 rfl (fun c1 => ?_) (fun c1 => ?_)
        · have h := o_if_f c1 h
          refine s_aload_n (i := 0) dX9_takeActs_73 rfl rfl ?_
          refine s_getR hX h0 flX9_9 rfl dX9_takeActs_74 (fun (g8 : o_is X (o_rf X a0 0) (.inl 4)) => ?_)
          refine s_aload_n (i := 0) dX9_takeActs_77 rfl rfl ?_
          refine s_getR hX h0 flX9_15 rfl dX9_takeActs_78 (fun (g9 : o_is X (o_rf X a0 1) (.inl 8)) => ?_)
          refine s_iconst dX9_takeActs_81 kI_2 ?_
          refine s_iload_n (i := 1) dX9_takeActs_82 rfl rfl ?_
          refine s_callVi (C := mX4_wantKnown) (As := [.ref (o_ad X (o_rf X a0 1)), .int 2, .int r1]) (rest := []) (L0 := [some (.ref (o_ad X (o_rf X a0 0))), some (.ref (o_ad X (o_rf X a0 1))), some (.int 2), some (.int r1), none]) hX g8 clX9_115 dX9_takeActs_83 rfl rfl (Nat.le_of_ble_eq_true rfl) (Nat.le_of_ble_eq_true rfl) (dnX4_wantKnown hX g8 g9 (o_bdp h)) (fun r5 μ6 h => ?_)
          refine s_istore_n (i := 3) dX9_takeActs_86 rfl (Nat.le_of_ble_eq_true rfl) rfl ?_
          refine s_iload_n (i := 3) dX9_takeActs_87 rfl rfl ?_
          refine s_iconst dX9_takeActs_88 kI_m1 ?_
          refine s_icmp_eq (tgt := 104) dX9_takeActs_89 rfl (fun c1 => ?_) (fun c1 => ?_)
          · have h := o_if_t c1 h
            refine s_iconst dX9_takeActs_104 kI_0 ?_
            exact s_zreturn rfl (Or.inl rfl) dX9_takeActs_105 ⟨_, rfl, (Or.inl rfl), o_ret h⟩
          · have h := o_if_f c1 h
            refine s_aload_n (i := 0) dX9_takeActs_92 rfl rfl ?_
            refine s_getR hX h0 flX9_9 rfl dX9_takeActs_93 (fun (g10 : o_is X (o_rf X a0 0) (.inl 4)) => ?_)
            refine s_bipush dX9_takeActs_96 kB_12 ?_
            refine s_callVz (C := mX4_wantWord) (As := [.int 12]) (rest := []) (L0 := [some (.ref (o_ad X (o_rf X a0 0))), some (.int 12)]) hX g10 clX9_112 dX9_takeActs_98 rfl rfl (Nat.le_of_ble_eq_true rfl) (Nat.le_of_ble_eq_true rfl) (dnX4_wantWord hX g10 (o_bdp h)) (fun r6 μ7 zr6 h => ?_)
            refine s_if_ne (tgt := 106) dX9_takeActs_101 rfl (fun c1 => ?_) (fun c1 => ?_)
            · have h := o_if_f c1 h
              refine s_aload_n (i := 0) dX9_takeActs_106 rfl rfl ?_
              refine s_getR hX h0 flX9_9 rfl dX9_takeActs_107 (fun (g11 : o_is X (o_rf X a0 0) (.inl 4)) => ?_)
              refine s_iconst dX9_takeActs_110 kI_1 ?_
              refine s_bipush dX9_takeActs_111 kB_99 ?_
              refine s_callVi (C := mX4_wantNumber) (As := [.int 1, .int 99]) (rest := []) (L0 := [some (.ref (o_ad X (o_rf X a0 0))), some (.int 1), some (.int 99), none]) hX g11 clX9_95 dX9_takeActs_113 rfl rfl (Nat.le_of_ble_eq_true rfl) (Nat.le_of_ble_eq_true rfl) (dnX4_wantNumber hX g11 (o_bdp h)) (fun r7 μ8 h => ?_)
              refine s_istore dX9_takeActs_116 (Nat.le_of_ble_eq_true rfl) rfl ?_
              refine s_iload dX9_takeActs_118 rfl ?_
              refine s_iconst dX9_takeActs_120 kI_m1 ?_
              refine s_icmp_ne (tgt := 126) dX9_takeActs_121 rfl (fun c1 => ?_) (fun c1 => ?_)
              · have h := o_if_f c1 h
                refine s_aload_n (i := 0) dX9_takeActs_126 rfl rfl ?_
                refine s_getR hX h0 flX9_15 rfl dX9_takeActs_127 (fun (g12 : o_is X (o_rf X a0 1) (.inl 8)) => ?_)
                refine s_iload_n (i := 1) dX9_takeActs_130 rfl rfl ?_
                refine s_iload_n (i := 2) dX9_takeActs_131 rfl rfl ?_
                refine s_iload_n (i := 3) dX9_takeActs_132 rfl rfl ?_
                refine s_iload dX9_takeActs_133 rfl ?_
                refine s_callVu (C := mX8_setActs) (As := [.int r1, .int r3, .int r5, .int r7]) (rest := []) (L0 := [some (.ref (o_ad X (o_rf X a0 1))), some (.int r1), some (.int r3), some (.int r5), some (.int r7)]) hX g12 clX9_135 dX9_takeActs_135 rfl rfl (Nat.le_of_ble_eq_true rfl) (Nat.le_of_ble_eq_true rfl) (dnX8_setActs hX g12 (o_bdp h)) (fun _u μ9 h => ?_)
                refine s_aload_n (i := 0) dX9_takeActs_138 rfl rfl ?_
                refine s_getR hX h0 flX9_9 rfl dX9_takeActs_139 (fun (g13 : o_is X (o_rf X a0 0) (.inl 4)) => ?_)
                refine s_callVz (C := mX4_wantClose) (As := []) (rest := []) (L0 := [some (.ref (o_ad X (o_rf X a0 0)))]) hX g13 clX9_103 dX9_takeActs_142 rfl rfl (Nat.le_of_ble_eq_true rfl) (Nat.le_of_ble_eq_true rfl) (dnX4_wantClose hX g13 (o_bdp h)) (fun r8 μ10 zr8 h => ?_)
                exact s_zreturn rfl zr8 dX9_takeActs_145 ⟨_, rfl, zr8, o_ret h⟩
              · have h := o_if_t c1 h
                refine s_iconst dX9_takeActs_124 kI_0 ?_
                exact s_zreturn rfl (Or.inl rfl) dX9_takeActs_125 ⟨_, rfl, (Or.inl rfl), o_ret h⟩
            · have h := o_if_t c1 h
              refine s_iconst dX9_takeActs_104 kI_0 ?_
              exact s_zreturn rfl (Or.inl rfl) dX9_takeActs_105 ⟨_, rfl, (Or.inl rfl), o_ret h⟩
        · have h := o_if_t c1 h
          refine s_iconst dX9_takeActs_71 kI_0 ?_
          exact s_zreturn rfl (Or.inl rfl) dX9_takeActs_72 ⟨_, rfl, (Or.inl rfl), o_ret h⟩
    · have h := o_if_t c1 h
      refine s_iconst dX9_takeActs_38 kI_0 ?_
      exact s_zreturn rfl (Or.inl rfl) dX9_takeActs_39 ⟨_, rfl, (Or.inl rfl), o_ret h⟩
theorem dX9_takeLetter_0 : decode cX9_takeLetter 0 = .ok (.aload_n 0, 1) := by decide +kernel
theorem dX9_takeLetter_1 : decode cX9_takeLetter 1 = .ok (.getfield 15, 3) := by decide +kernel
theorem dX9_takeLetter_4 : decode cX9_takeLetter 4 = .ok (.getfield 139, 3) := by decide +kernel
theorem dX9_takeLetter_7 : decode cX9_takeLetter 7 = .ok (.invokevirtual 143, 3) := by decide +kernel
theorem dX9_takeLetter_10 : decode cX9_takeLetter 10 = .ok (.ifCond .eq 13, 3) := by decide +kernel
theorem dX9_takeLetter_13 : decode cX9_takeLetter 13 = .ok (.aload_n 0, 1) := by decide +kernel
theorem dX9_takeLetter_14 : decode cX9_takeLetter 14 = .ok (.getfield 9, 3) := by decide +kernel
theorem dX9_takeLetter_17 : decode cX9_takeLetter 17 = .ok (.bipush 6, 2) := by decide +kernel
theorem dX9_takeLetter_19 : decode cX9_takeLetter 19 = .ok (.invokevirtual 63, 3) := by decide +kernel
theorem dX9_takeLetter_22 : decode cX9_takeLetter 22 = .ok (.ireturn, 1) := by decide +kernel
theorem dX9_takeLetter_23 : decode cX9_takeLetter 23 = .ok (.aload_n 0, 1) := by decide +kernel
theorem dX9_takeLetter_24 : decode cX9_takeLetter 24 = .ok (.getfield 9, 3) := by decide +kernel
theorem dX9_takeLetter_27 : decode cX9_takeLetter 27 = .ok (.invokevirtual 86, 3) := by decide +kernel
theorem dX9_takeLetter_30 : decode cX9_takeLetter 30 = .ok (.aload_n 0, 1) := by decide +kernel
theorem dX9_takeLetter_31 : decode cX9_takeLetter 31 = .ok (.getfield 9, 3) := by decide +kernel
theorem dX9_takeLetter_34 : decode cX9_takeLetter 34 = .ok (.aload_n 0, 1) := by decide +kernel
theorem dX9_takeLetter_35 : decode cX9_takeLetter 35 = .ok (.getfield 15, 3) := by decide +kernel
theorem dX9_takeLetter_38 : decode cX9_takeLetter 38 = .ok (.iconst 2, 1) := by decide +kernel
theorem dX9_takeLetter_39 : decode cX9_takeLetter 39 = .ok (.iconst (-1), 1) := by decide +kernel
theorem dX9_takeLetter_40 : decode cX9_takeLetter 40 = .ok (.invokevirtual 115, 3) := by decide +kernel
theorem dX9_takeLetter_43 : decode cX9_takeLetter 43 = .ok (.istore_n 1, 1) := by decide +kernel
theorem dX9_takeLetter_44 : decode cX9_takeLetter 44 = .ok (.iload_n 1, 1) := by decide +kernel
theorem dX9_takeLetter_45 : decode cX9_takeLetter 45 = .ok (.iconst (-1), 1) := by decide +kernel
theorem dX9_takeLetter_46 : decode cX9_takeLetter 46 = .ok (.if_icmp .ne 5, 3) := by decide +kernel
theorem dX9_takeLetter_49 : decode cX9_takeLetter 49 = .ok (.iconst 0, 1) := by decide +kernel
theorem dX9_takeLetter_50 : decode cX9_takeLetter 50 = .ok (.ireturn, 1) := by decide +kernel
theorem dX9_takeLetter_51 : decode cX9_takeLetter 51 = .ok (.aload_n 0, 1) := by decide +kernel
theorem dX9_takeLetter_52 : decode cX9_takeLetter 52 = .ok (.getfield 9, 3) := by decide +kernel
theorem dX9_takeLetter_55 : decode cX9_takeLetter 55 = .ok (.aload_n 0, 1) := by decide +kernel
theorem dX9_takeLetter_56 : decode cX9_takeLetter 56 = .ok (.getfield 15, 3) := by decide +kernel
theorem dX9_takeLetter_59 : decode cX9_takeLetter 59 = .ok (.iconst 2, 1) := by decide +kernel
theorem dX9_takeLetter_60 : decode cX9_takeLetter 60 = .ok (.iload_n 1, 1) := by decide +kernel
theorem dX9_takeLetter_61 : decode cX9_takeLetter 61 = .ok (.invokevirtual 115, 3) := by decide +kernel
theorem dX9_takeLetter_64 : decode cX9_takeLetter 64 = .ok (.istore_n 2, 1) := by decide +kernel
theorem dX9_takeLetter_65 : decode cX9_takeLetter 65 = .ok (.iload_n 2, 1) := by decide +kernel
theorem dX9_takeLetter_66 : decode cX9_takeLetter 66 = .ok (.iconst (-1), 1) := by decide +kernel
theorem dX9_takeLetter_67 : decode cX9_takeLetter 67 = .ok (.if_icmp .eq 15, 3) := by decide +kernel
theorem dX9_takeLetter_70 : decode cX9_takeLetter 70 = .ok (.aload_n 0, 1) := by decide +kernel
theorem dX9_takeLetter_71 : decode cX9_takeLetter 71 = .ok (.getfield 9, 3) := by decide +kernel
theorem dX9_takeLetter_74 : decode cX9_takeLetter 74 = .ok (.bipush 12, 2) := by decide +kernel
theorem dX9_takeLetter_76 : decode cX9_takeLetter 76 = .ok (.invokevirtual 112, 3) := by decide +kernel
theorem dX9_takeLetter_79 : decode cX9_takeLetter 79 = .ok (.ifCond .ne 5, 3) := by decide +kernel
theorem dX9_takeLetter_82 : decode cX9_takeLetter 82 = .ok (.iconst 0, 1) := by decide +kernel
theorem dX9_takeLetter_83 : decode cX9_takeLetter 83 = .ok (.ireturn, 1) := by decide +kernel
theorem dX9_takeLetter_84 : decode cX9_takeLetter 84 = .ok (.aload_n 0, 1) := by decide +kernel
theorem dX9_takeLetter_85 : decode cX9_takeLetter 85 = .ok (.getfield 9, 3) := by decide +kernel
theorem dX9_takeLetter_88 : decode cX9_takeLetter 88 = .ok (.iconst 1, 1) := by decide +kernel
theorem dX9_takeLetter_89 : decode cX9_takeLetter 89 = .ok (.bipush 99, 2) := by decide +kernel
theorem dX9_takeLetter_91 : decode cX9_takeLetter 91 = .ok (.invokevirtual 95, 3) := by decide +kernel
theorem dX9_takeLetter_94 : decode cX9_takeLetter 94 = .ok (.istore_n 3, 1) := by decide +kernel
theorem dX9_takeLetter_95 : decode cX9_takeLetter 95 = .ok (.iload_n 3, 1) := by decide +kernel
theorem dX9_takeLetter_96 : decode cX9_takeLetter 96 = .ok (.iconst (-1), 1) := by decide +kernel
theorem dX9_takeLetter_97 : decode cX9_takeLetter 97 = .ok (.if_icmp .ne 5, 3) := by decide +kernel
theorem dX9_takeLetter_100 : decode cX9_takeLetter 100 = .ok (.iconst 0, 1) := by decide +kernel
theorem dX9_takeLetter_101 : decode cX9_takeLetter 101 = .ok (.ireturn, 1) := by decide +kernel
theorem dX9_takeLetter_102 : decode cX9_takeLetter 102 = .ok (.aload_n 0, 1) := by decide +kernel
theorem dX9_takeLetter_103 : decode cX9_takeLetter 103 = .ok (.getfield 15, 3) := by decide +kernel
theorem dX9_takeLetter_106 : decode cX9_takeLetter 106 = .ok (.getfield 119, 3) := by decide +kernel
theorem dX9_takeLetter_109 : decode cX9_takeLetter 109 = .ok (.iload_n 1, 1) := by decide +kernel
theorem dX9_takeLetter_110 : decode cX9_takeLetter 110 = .ok (.iaload, 1) := by decide +kernel
theorem dX9_takeLetter_111 : decode cX9_takeLetter 111 = .ok (.istore 4, 2) := by decide +kernel
theorem dX9_takeLetter_113 : decode cX9_takeLetter 113 = .ok (.aload_n 0, 1) := by decide +kernel
theorem dX9_takeLetter_114 : decode cX9_takeLetter 114 = .ok (.getfield 9, 3) := by decide +kernel
theorem dX9_takeLetter_117 : decode cX9_takeLetter 117 = .ok (.getfield 38, 3) := by decide +kernel
theorem dX9_takeLetter_120 : decode cX9_takeLetter 120 = .ok (.bipush 7, 2) := by decide +kernel
theorem dX9_takeLetter_122 : decode cX9_takeLetter 122 = .ok (.if_icmp .ne 33, 3) := by decide +kernel
theorem dX9_takeLetter_125 : decode cX9_takeLetter 125 = .ok (.aload_n 0, 1) := by decide +kernel
theorem dX9_takeLetter_126 : decode cX9_takeLetter 126 = .ok (.getfield 9, 3) := by decide +kernel
theorem dX9_takeLetter_129 : decode cX9_takeLetter 129 = .ok (.invokevirtual 86, 3) := by decide +kernel
theorem dX9_takeLetter_132 : decode cX9_takeLetter 132 = .ok (.aload_n 0, 1) := by decide +kernel
theorem dX9_takeLetter_133 : decode cX9_takeLetter 133 = .ok (.getfield 9, 3) := by decide +kernel
theorem dX9_takeLetter_136 : decode cX9_takeLetter 136 = .ok (.aload_n 0, 1) := by decide +kernel
theorem dX9_takeLetter_137 : decode cX9_takeLetter 137 = .ok (.getfield 15, 3) := by decide +kernel
theorem dX9_takeLetter_140 : decode cX9_takeLetter 140 = .ok (.iconst 1, 1) := by decide +kernel
theorem dX9_takeLetter_141 : decode cX9_takeLetter 141 = .ok (.iconst (-1), 1) := by decide +kernel
theorem dX9_takeLetter_142 : decode cX9_takeLetter 142 = .ok (.invokevirtual 115, 3) := by decide +kernel
theorem dX9_takeLetter_145 : decode cX9_takeLetter 145 = .ok (.istore 4, 2) := by decide +kernel
theorem dX9_takeLetter_147 : decode cX9_takeLetter 147 = .ok (.iload 4, 2) := by decide +kernel
theorem dX9_takeLetter_149 : decode cX9_takeLetter 149 = .ok (.iconst (-1), 1) := by decide +kernel
theorem dX9_takeLetter_150 : decode cX9_takeLetter 150 = .ok (.if_icmp .ne 5, 3) := by decide +kernel
theorem dX9_takeLetter_153 : decode cX9_takeLetter 153 = .ok (.iconst 0, 1) := by decide +kernel
theorem dX9_takeLetter_154 : decode cX9_takeLetter 154 = .ok (.ireturn, 1) := by decide +kernel
theorem dX9_takeLetter_155 : decode cX9_takeLetter 155 = .ok (.aload_n 0, 1) := by decide +kernel
theorem dX9_takeLetter_156 : decode cX9_takeLetter 156 = .ok (.getfield 15, 3) := by decide +kernel
theorem dX9_takeLetter_159 : decode cX9_takeLetter 159 = .ok (.getfield 139, 3) := by decide +kernel
theorem dX9_takeLetter_162 : decode cX9_takeLetter 162 = .ok (.iload_n 1, 1) := by decide +kernel
theorem dX9_takeLetter_163 : decode cX9_takeLetter 163 = .ok (.iload_n 2, 1) := by decide +kernel
theorem dX9_takeLetter_164 : decode cX9_takeLetter 164 = .ok (.iload_n 3, 1) := by decide +kernel
theorem dX9_takeLetter_165 : decode cX9_takeLetter 165 = .ok (.iload 4, 2) := by decide +kernel
theorem dX9_takeLetter_167 : decode cX9_takeLetter 167 = .ok (.iconst (-1), 1) := by decide +kernel
theorem dX9_takeLetter_168 : decode cX9_takeLetter 168 = .ok (.invokevirtual 148, 3) := by decide +kernel
theorem dX9_takeLetter_171 : decode cX9_takeLetter 171 = .ok (.aload_n 0, 1) := by decide +kernel
theorem dX9_takeLetter_172 : decode cX9_takeLetter 172 = .ok (.getfield 9, 3) := by decide +kernel
theorem dX9_takeLetter_175 : decode cX9_takeLetter 175 = .ok (.invokevirtual 103, 3) := by decide +kernel
theorem dX9_takeLetter_178 : decode cX9_takeLetter 178 = .ok (.ireturn, 1) := by decide +kernel
noncomputable def fX9_takeLetter_j155 (rf : Nat → Nat → Nat) (a0 : Nat) (x1 : Int32) (x2 : Int32) (x3 : Int32) (x4 : Int32) (μ0 : o_Mem) : Option (Int32 × o_Mem) :=
  o_bd (fX1_add rf (rf (rf a0 1) 15) x1 x2 x3 x4 (-1) μ0) fun _u μ1 =>
  o_bd (fX4_wantClose rf (rf a0 0) μ1) fun r1 μ2 =>
  some (r1, μ2)
noncomputable def fX9_takeLetter (rf : Nat → Nat → Nat) (a0 : Nat) (μ0 : o_Mem) : Option (Int32 × o_Mem) :=
  o_bd (fX1_isFull rf (rf (rf a0 1) 15) μ0) fun r1 μ1 =>
  if r1 = 0 then (
    o_bd (fX4_next rf (rf a0 0) μ1) fun _u μ2 =>
    o_bd (fX4_wantKnown rf (rf a0 0) (rf a0 1) 2 (-1) μ2) fun r2 μ3 =>
    if r2 = (-1) then (
      some (0, μ3))
    else (
      o_bd (fX4_wantKnown rf (rf a0 0) (rf a0 1) 2 r2 μ3) fun r3 μ4 =>
      if r3 = (-1) then (
        some (0, μ4))
      else (
        o_bd (fX4_wantWord rf (rf a0 0) 12 μ4) fun r4 μ5 =>
        if r4 = 0 then (
          some (0, μ5))
        else (
          o_bd (fX4_wantNumber rf (rf a0 0) 1 99 μ5) fun r5 μ6 =>
          if r5 = (-1) then (
            some (0, μ6))
          else (
            o_ck (0 ≤ (r2).toInt ∧ (r2).toInt < 6) <|
            if (μ6.1 (rf a0 0) 8) = 7 then (
              o_bd (fX4_next rf (rf a0 0) μ6) fun _u μ7 =>
              o_bd (fX4_wantKnown rf (rf a0 0) (rf a0 1) 1 (-1) μ7) fun r6 μ8 =>
              if r6 = (-1) then (
                some (0, μ8))
              else (
                fX9_takeLetter_j155 rf a0 r2 r3 r5 r6 μ8))
            else (
              fX9_takeLetter_j155 rf a0 r2 r3 r5 (μ6.1 (rf (rf a0 1) 11) r2.toNatClampNeg) μ6))))))
  else (
    o_bd (fX4_fail rf (rf a0 0) 6 μ1) fun r7 μ9 =>
    some (r7, μ9))
set_option maxRecDepth 20000 in
theorem dnX9_takeLetter_j155 {X : o_Cx} (hX : o_ok X) {d : Nat} {a0 : Nat} {x1 : Int32} {x2 : Int32} {x3 : Int32} {x4 : Int32} {μ0 : o_Mem} {q : Int32 → o_Mem → Prop} (h0 : o_is X a0 (.inl 9)) (h : o_Post (fX9_takeLetter_j155 (o_rf X) a0 x1 x2 x3 x4 μ0) q) : o_Ev X (d + 7) mX9_takeLetter 155 [some (.ref (o_ad X a0)), some (.int x1), some (.int x2), some (.int x3), some (.int x4)] [] μ0 (o_QZ q) := by
  unfold fX9_takeLetter_j155 at h
  refine s_aload_n (i := 0) dX9_takeLetter_155 rfl rfl ?_
  refine s_getR hX h0 flX9_15 rfl dX9_takeLetter_156 (fun (g1 : o_is X (o_rf X a0 1) (.inl 8)) => ?_)
  refine s_getR hX g1 flX9_139 rfl dX9_takeLetter_159 (fun (g2 : o_is X (o_rf X (o_rf X a0 1) 15) (.inl 1)) => ?_)
  refine s_iload_n (i := 1) dX9_takeLetter_162 rfl rfl ?_
  refine s_iload_n (i := 2) dX9_takeLetter_163 rfl rfl ?_
  refine s_iload_n (i := 3) dX9_takeLetter_164 rfl rfl ?_
  refine s_iload dX9_takeLetter_165 rfl ?_
  refine s_iconst dX9_takeLetter_167 kI_m1 ?_
  refine s_callVu (C := mX1_add) (As := [.int x1, .int x2, .int x3, .int x4, .int (-1)]) (rest := []) (L0 := [some (.ref (o_ad X (o_rf X (o_rf X a0 1) 15))), some (.int x1), some (.int x2), some (.int x3), some (.int x4), some (.int (-1))]) hX g2 clX9_148 dX9_takeLetter_168 rfl rfl (Nat.le_of_ble_eq_true rfl) (Nat.le_of_ble_eq_true rfl) (dnX1_add hX g2 (o_bdp h)) (fun _u μ1 h => ?_)
  refine s_aload_n (i := 0) dX9_takeLetter_171 rfl rfl ?_
  refine s_getR hX h0 flX9_9 rfl dX9_takeLetter_172 (fun (g3 : o_is X (o_rf X a0 0) (.inl 4)) => ?_)
  refine s_callVz (C := mX4_wantClose) (As := []) (rest := []) (L0 := [some (.ref (o_ad X (o_rf X a0 0)))]) hX g3 clX9_103 dX9_takeLetter_175 rfl rfl (Nat.le_of_ble_eq_true rfl) (Nat.le_of_ble_eq_true rfl) (dnX4_wantClose hX g3 (o_bdp h)) (fun r1 μ2 zr1 h => ?_)
  exact s_zreturn rfl zr1 dX9_takeLetter_178 ⟨_, rfl, zr1, o_ret h⟩
set_option maxRecDepth 20000 in
theorem dnX9_takeLetter {X : o_Cx} (hX : o_ok X) {d : Nat} {a0 : Nat} {μ0 : o_Mem} {q : Int32 → o_Mem → Prop} (h0 : o_is X a0 (.inl 9)) (h : o_Post (fX9_takeLetter (o_rf X) a0 μ0) q) : o_Ev X (d + 7) mX9_takeLetter 0 [some (.ref (o_ad X a0)), none, none, none, none] [] μ0 (o_QZ q) := by
  unfold fX9_takeLetter at h
  refine s_aload_n (i := 0) dX9_takeLetter_0 rfl rfl ?_
  refine s_getR hX h0 flX9_15 rfl dX9_takeLetter_1 (fun (g1 : o_is X (o_rf X a0 1) (.inl 8)) => ?_)
  refine s_getR hX g1 flX9_139 rfl dX9_takeLetter_4 (fun (g2 : o_is X (o_rf X (o_rf X a0 1) 15) (.inl 1)) => ?_)
  refine s_callVz (C := mX1_isFull) (As := []) (rest := []) (L0 := [some (.ref (o_ad X (o_rf X (o_rf X a0 1) 15)))]) hX g2 clX9_143 dX9_takeLetter_7 rfl rfl (Nat.le_of_ble_eq_true rfl) (Nat.le_of_ble_eq_true rfl) (dnX1_isFull hX g2 (o_bdp h)) (fun r1 μ1 zr1 h => ?_)
  refine s_if_eq (tgt := 23) dX9_takeLetter_10 rfl (fun c1 => ?_) (fun c1 => ?_)
  · have h := o_if_t c1 h
    refine s_aload_n (i := 0) dX9_takeLetter_23 rfl rfl ?_
    refine s_getR hX h0 flX9_9 rfl dX9_takeLetter_24 (fun (g3 : o_is X (o_rf X a0 0) (.inl 4)) => ?_)
    refine s_callVu (C := mX4_next) (As := []) (rest := []) (L0 := [some (.ref (o_ad X (o_rf X a0 0)))]) hX g3 clX9_86 dX9_takeLetter_27 rfl rfl (Nat.le_of_ble_eq_true rfl) (Nat.le_of_ble_eq_true rfl) (dnX4_next hX g3 (o_bdp h)) (fun _u μ2 h => ?_)
    refine s_aload_n (i := 0) dX9_takeLetter_30 rfl rfl ?_
    refine s_getR hX h0 flX9_9 rfl dX9_takeLetter_31 (fun (g4 : o_is X (o_rf X a0 0) (.inl 4)) => ?_)
    refine s_aload_n (i := 0) dX9_takeLetter_34 rfl rfl ?_
    refine s_getR hX h0 flX9_15 rfl dX9_takeLetter_35 (fun (g5 : o_is X (o_rf X a0 1) (.inl 8)) => ?_)
    refine s_iconst dX9_takeLetter_38 kI_2 ?_
    refine s_iconst dX9_takeLetter_39 kI_m1 ?_
    refine s_callVi (C := mX4_wantKnown) (As := [.ref (o_ad X (o_rf X a0 1)), .int 2, .int (-1)]) (rest := []) (L0 := [some (.ref (o_ad X (o_rf X a0 0))), some (.ref (o_ad X (o_rf X a0 1))), some (.int 2), some (.int (-1)), none]) hX g4 clX9_115 dX9_takeLetter_40 rfl rfl (Nat.le_of_ble_eq_true rfl) (Nat.le_of_ble_eq_true rfl) (dnX4_wantKnown hX g4 g5 (o_bdp h)) (fun r2 μ3 h => ?_)
    refine s_istore_n (i := 1) dX9_takeLetter_43 rfl (Nat.le_of_ble_eq_true rfl) rfl ?_
    refine s_iload_n (i := 1) dX9_takeLetter_44 rfl rfl ?_
    refine s_iconst dX9_takeLetter_45 kI_m1 ?_
    refine s_icmp_ne (tgt := 51) dX9_takeLetter_46 rfl (fun c1 => ?_) (fun c1 => ?_)
    · have h := o_if_f c1 h
      refine s_aload_n (i := 0) dX9_takeLetter_51 rfl rfl ?_
      refine s_getR hX h0 flX9_9 rfl dX9_takeLetter_52 (fun (g6 : o_is X (o_rf X a0 0) (.inl 4)) => ?_)
      refine s_aload_n (i := 0) dX9_takeLetter_55 rfl rfl ?_
      refine s_getR hX h0 flX9_15 rfl dX9_takeLetter_56 (fun (g7 : o_is X (o_rf X a0 1) (.inl 8)) => ?_)
      refine s_iconst dX9_takeLetter_59 kI_2 ?_
      refine s_iload_n (i := 1) dX9_takeLetter_60 rfl rfl ?_
      refine s_callVi (C := mX4_wantKnown) (As := [.ref (o_ad X (o_rf X a0 1)), .int 2, .int r2]) (rest := []) (L0 := [some (.ref (o_ad X (o_rf X a0 0))), some (.ref (o_ad X (o_rf X a0 1))), some (.int 2), some (.int r2), none]) hX g6 clX9_115 dX9_takeLetter_61 rfl rfl (Nat.le_of_ble_eq_true rfl) (Nat.le_of_ble_eq_true rfl) (dnX4_wantKnown hX g6 g7 (o_bdp h)) (fun r3 μ4 h => ?_)
      refine s_istore_n (i := 2) dX9_takeLetter_64 rfl (Nat.le_of_ble_eq_true rfl) rfl ?_
      refine s_iload_n (i := 2) dX9_takeLetter_65 rfl rfl ?_
      refine s_iconst dX9_takeLetter_66 kI_m1 ?_
      refine s_icmp_eq (tgt := 82) dX9_takeLetter_67 rfl (fun c1 => ?_) (fun c1 => ?_)
      · have h := o_if_t c1 h
        refine s_iconst dX9_takeLetter_82 kI_0 ?_
        exact s_zreturn rfl (Or.inl rfl) dX9_takeLetter_83 ⟨_, rfl, (Or.inl rfl), o_ret h⟩
      · have h := o_if_f c1 h
        refine s_aload_n (i := 0) dX9_takeLetter_70 rfl rfl ?_
        refine s_getR hX h0 flX9_9 rfl dX9_takeLetter_71 (fun (g8 : o_is X (o_rf X a0 0) (.inl 4)) => ?_)
        refine s_bipush dX9_takeLetter_74 kB_12 ?_
        refine s_callVz (C := mX4_wantWord) (As := [.int 12]) (rest := []) (L0 := [some (.ref (o_ad X (o_rf X a0 0))), some (.int 12)]) hX g8 clX9_112 dX9_takeLetter_76 rfl rfl (Nat.le_of_ble_eq_true rfl) (Nat.le_of_ble_eq_true rfl) (dnX4_wantWord hX g8 (o_bdp h)) (fun r4 μ5 zr4 h => ?_)
        refine s_if_ne (tgt := 84) dX9_takeLetter_79 rfl (fun c1 => ?_) (fun c1 => ?_)
        · have h := o_if_f c1 h
          refine s_aload_n (i := 0) dX9_takeLetter_84 rfl rfl ?_
          refine s_getR hX h0 flX9_9 rfl dX9_takeLetter_85 (fun (g9 : o_is X (o_rf X a0 0) (.inl 4)) => ?_)
          refine s_iconst dX9_takeLetter_88 kI_1 ?_
          refine s_bipush dX9_takeLetter_89 kB_99 ?_
          refine s_callVi (C := mX4_wantNumber) (As := [.int 1, .int 99]) (rest := []) (L0 := [some (.ref (o_ad X (o_rf X a0 0))), some (.int 1), some (.int 99), none]) hX g9 clX9_95 dX9_takeLetter_91 rfl rfl (Nat.le_of_ble_eq_true rfl) (Nat.le_of_ble_eq_true rfl) (dnX4_wantNumber hX g9 (o_bdp h)) (fun r5 μ6 h => ?_)
          refine s_istore_n (i := 3) dX9_takeLetter_94 rfl (Nat.le_of_ble_eq_true rfl) rfl ?_
          refine s_iload_n (i := 3) dX9_takeLetter_95 rfl rfl ?_
          refine s_iconst dX9_takeLetter_96 kI_m1 ?_
          refine s_icmp_ne (tgt := 102) dX9_takeLetter_97 rfl (fun c1 => ?_) (fun c1 => ?_)
          · have h := o_if_f c1 h
            refine s_aload_n (i := 0) dX9_takeLetter_102 rfl rfl ?_
            refine s_getR hX h0 flX9_15 rfl dX9_takeLetter_103 (fun (g10 : o_is X (o_rf X a0 1) (.inl 8)) => ?_)
            refine s_getR hX g10 flX9_119 rfl dX9_takeLetter_106 (fun (g11 : o_is X (o_rf X (o_rf X a0 1) 11) (.inr (0, 6))) => ?_)
            refine s_iload_n (i := 1) dX9_takeLetter_109 rfl rfl ?_
            have hc := o_ck_c h
            have h := o_ck_k h
            refine s_ialdK g11 hc rfl dX9_takeLetter_110 ?_
            refine s_istore dX9_takeLetter_111 (Nat.le_of_ble_eq_true rfl) rfl ?_
            refine s_aload_n (i := 0) dX9_takeLetter_113 rfl rfl ?_
            refine s_getR hX h0 flX9_9 rfl dX9_takeLetter_114 (fun (g12 : o_is X (o_rf X a0 0) (.inl 4)) => ?_)
            refine s_getI g12 flX9_38 rfl dX9_takeLetter_117 ?_
            refine s_bipush dX9_takeLetter_120 kB_7 ?_
            refine s_icmp_ne (tgt := 155) dX9_takeLetter_122 rfl (fun c1 => ?_) (fun c1 => ?_)
            · have h := o_if_f c1 h
              refine s_mask [true, true, true, true, true] (L' := [some (.ref (o_ad X a0)), some (.int r2), some (.int r3), some (.int r5), some (.int (μ6.1 (o_rf X (o_rf X a0 1) 11) r2.toNatClampNeg))]) rfl ?_
              exact dnX9_takeLetter_j155 hX h0 h
            · have h := o_if_t c1 h
              refine s_aload_n (i := 0) dX9_takeLetter_125 rfl rfl ?_
              refine s_getR hX h0 flX9_9 rfl dX9_takeLetter_126 (fun (g13 : o_is X (o_rf X a0 0) (.inl 4)) => ?_)
              refine s_callVu (C := mX4_next) (As := []) (rest := []) (L0 := [some (.ref (o_ad X (o_rf X a0 0)))]) hX g13 clX9_86 dX9_takeLetter_129 rfl rfl (Nat.le_of_ble_eq_true rfl) (Nat.le_of_ble_eq_true rfl) (dnX4_next hX g13 (o_bdp h)) (fun _u μ7 h => ?_)
              refine s_aload_n (i := 0) dX9_takeLetter_132 rfl rfl ?_
              refine s_getR hX h0 flX9_9 rfl dX9_takeLetter_133 (fun (g14 : o_is X (o_rf X a0 0) (.inl 4)) => ?_)
              refine s_aload_n (i := 0) dX9_takeLetter_136 rfl rfl ?_
              refine s_getR hX h0 flX9_15 rfl dX9_takeLetter_137 (fun (g15 : o_is X (o_rf X a0 1) (.inl 8)) => ?_)
              refine s_iconst dX9_takeLetter_140 kI_1 ?_
              refine s_iconst dX9_takeLetter_141 kI_m1 ?_
              refine s_callVi (C := mX4_wantKnown) (As := [.ref (o_ad X (o_rf X a0 1)), .int 1, .int (-1)]) (rest := []) (L0 := [some (.ref (o_ad X (o_rf X a0 0))), some (.ref (o_ad X (o_rf X a0 1))), some (.int 1), some (.int (-1)), none]) hX g14 clX9_115 dX9_takeLetter_142 rfl rfl (Nat.le_of_ble_eq_true rfl) (Nat.le_of_ble_eq_true rfl) (dnX4_wantKnown hX g14 g15 (o_bdp h)) (fun r6 μ8 h => ?_)
              refine s_istore dX9_takeLetter_145 (Nat.le_of_ble_eq_true rfl) rfl ?_
              refine s_iload dX9_takeLetter_147 rfl ?_
              refine s_iconst dX9_takeLetter_149 kI_m1 ?_
              refine s_icmp_ne (tgt := 155) dX9_takeLetter_150 rfl (fun c1 => ?_) (fun c1 => ?_)
              · have h := o_if_f c1 h
                refine s_mask [true, true, true, true, true] (L' := [some (.ref (o_ad X a0)), some (.int r2), some (.int r3), some (.int r5), some (.int r6)]) rfl ?_
                exact dnX9_takeLetter_j155 hX h0 h
              · have h := o_if_t c1 h
                refine s_iconst dX9_takeLetter_153 kI_0 ?_
                exact s_zreturn rfl (Or.inl rfl) dX9_takeLetter_154 ⟨_, rfl, (Or.inl rfl), o_ret h⟩
          · have h := o_if_t c1 h
            refine s_iconst dX9_takeLetter_100 kI_0 ?_
            exact s_zreturn rfl (Or.inl rfl) dX9_takeLetter_101 ⟨_, rfl, (Or.inl rfl), o_ret h⟩
        · have h := o_if_t c1 h
          refine s_iconst dX9_takeLetter_82 kI_0 ?_
          exact s_zreturn rfl (Or.inl rfl) dX9_takeLetter_83 ⟨_, rfl, (Or.inl rfl), o_ret h⟩
    · have h := o_if_t c1 h
      refine s_iconst dX9_takeLetter_49 kI_0 ?_
      exact s_zreturn rfl (Or.inl rfl) dX9_takeLetter_50 ⟨_, rfl, (Or.inl rfl), o_ret h⟩
  · have h := o_if_f c1 h
    refine s_aload_n (i := 0) dX9_takeLetter_13 rfl rfl ?_
    refine s_getR hX h0 flX9_9 rfl dX9_takeLetter_14 (fun (g16 : o_is X (o_rf X a0 0) (.inl 4)) => ?_)
    refine s_bipush dX9_takeLetter_17 kB_6 ?_
    refine s_callVz (C := mX4_fail) (As := [.int 6]) (rest := []) (L0 := [some (.ref (o_ad X (o_rf X a0 0))), some (.int 6)]) hX g16 clX9_63 dX9_takeLetter_19 rfl rfl (Nat.le_of_ble_eq_true rfl) (Nat.le_of_ble_eq_true rfl) (dnX4_fail hX g16 (o_bdp h)) (fun r7 μ9 zr7 h => ?_)
    exact s_zreturn rfl zr7 dX9_takeLetter_22 ⟨_, rfl, zr7, o_ret h⟩
