theorem dX11_spells_0 : decode cX11_spells 0 = .ok (.aload_n 0, 1) := by decide +kernel
theorem dX11_spells_1 : decode cX11_spells 1 = .ok (.iload_n 1, 1) := by decide +kernel
theorem dX11_spells_2 : decode cX11_spells 2 = .ok (.iload_n 2, 1) := by decide +kernel
theorem dX11_spells_3 : decode cX11_spells 3 = .ok (.invokevirtual 374, 3) := by decide +kernel
theorem dX11_spells_6 : decode cX11_spells 6 = .ok (.istore_n 3, 1) := by decide +kernel
theorem dX11_spells_7 : decode cX11_spells 7 = .ok (.iload_n 3, 1) := by decide +kernel
theorem dX11_spells_8 : decode cX11_spells 8 = .ok (.ifCond .eq 9, 3) := by decide +kernel
theorem dX11_spells_11 : decode cX11_spells 11 = .ok (.aload_n 0, 1) := by decide +kernel
theorem dX11_spells_12 : decode cX11_spells 12 = .ok (.iload_n 3, 1) := by decide +kernel
theorem dX11_spells_13 : decode cX11_spells 13 = .ok (.invokevirtual 139, 3) := by decide +kernel
theorem dX11_spells_16 : decode cX11_spells 16 = .ok (.ireturn, 1) := by decide +kernel
theorem dX11_spells_17 : decode cX11_spells 17 = .ok (.aload_n 0, 1) := by decide +kernel
theorem dX11_spells_18 : decode cX11_spells 18 = .ok (.aload_n 0, 1) := by decide +kernel
theorem dX11_spells_19 : decode cX11_spells 19 = .ok (.getfield 94, 3) := by decide +kernel
theorem dX11_spells_22 : decode cX11_spells 22 = .ok (.aload_n 0, 1) := by decide +kernel
theorem dX11_spells_23 : decode cX11_spells 23 = .ok (.getfield 23, 3) := by decide +kernel
theorem dX11_spells_26 : decode cX11_spells 26 = .ok (.aload_n 0, 1) := by decide +kernel
theorem dX11_spells_27 : decode cX11_spells 27 = .ok (.getfield 15, 3) := by decide +kernel
theorem dX11_spells_30 : decode cX11_spells 30 = .ok (.iload_n 1, 1) := by decide +kernel
theorem dX11_spells_31 : decode cX11_spells 31 = .ok (.aaload, 1) := by decide +kernel
theorem dX11_spells_32 : decode cX11_spells 32 = .ok (.iload_n 2, 1) := by decide +kernel
theorem dX11_spells_33 : decode cX11_spells 33 = .ok (.invokevirtual 391, 3) := by decide +kernel
theorem dX11_spells_36 : decode cX11_spells 36 = .ok (.ifCond .eq 7, 3) := by decide +kernel
theorem dX11_spells_39 : decode cX11_spells 39 = .ok (.iconst 1, 1) := by decide +kernel
theorem dX11_spells_40 : decode cX11_spells 40 = .ok (.goto 4, 3) := by decide +kernel
theorem dX11_spells_43 : decode cX11_spells 43 = .ok (.iconst 0, 1) := by decide +kernel
theorem dX11_spells_44 : decode cX11_spells 44 = .ok (.invokevirtual 187, 3) := by decide +kernel
theorem dX11_spells_47 : decode cX11_spells 47 = .ok (.ireturn, 1) := by decide +kernel
noncomputable def fX11_spells_j44 (rf : Nat → Nat → Nat) (b0 : Nat) (y1 : Int32) (μ0 : o_Mem) : Option (Int32 × o_Mem) :=
  o_bd (fX11_gives rf b0 y1 μ0) fun r1 μ1 =>
  some (r1, μ1)
noncomputable def fX11_spells (rf : Nat → Nat → Nat) (a0 : Nat) (x1 : Int32) (x2 : Int32) (μ0 : o_Mem) : Option (Int32 × o_Mem) :=
  o_bd (fX11_strikeRowStatus rf a0 x1 x2 μ0) fun r1 μ1 =>
  if r1 = 0 then (
    o_ck (0 ≤ (x1).toInt ∧ (x1).toInt < 4) <|
    o_bd (fX5_spell rf (rf a0 17) (rf a0 4) (rf (rf a0 3) x1.toNatClampNeg) x2 μ1) fun r2 μ2 =>
    if r2 = 0 then (
      fX11_spells_j44 rf a0 0 μ2)
    else (
      fX11_spells_j44 rf a0 1 μ2))
  else (
    o_bd (fX11_refuses rf a0 r1 μ1) fun r3 μ3 =>
    some (r3, μ3))
set_option maxRecDepth 20000 in
theorem dnX11_spells_j44 {X : o_Cx} (hX : o_ok X) {d : Nat} {b0 : Nat} {y1 : Int32} {μ0 : o_Mem} {q : Int32 → o_Mem → Prop} (hb0 : o_is X b0 (.inl 11)) (h : o_Post (fX11_spells_j44 (o_rf X) b0 y1 μ0) q) : o_Ev X (d + 6) mX11_spells 44 [none, none, none, none] [.int y1, .ref (o_ad X b0)] μ0 (o_QI q) := by
  unfold fX11_spells_j44 at h
  refine s_callVi (C := mX11_gives) (As := [.int y1]) (rest := []) (L0 := [some (.ref (o_ad X b0)), some (.int y1)]) hX hb0 clX11_187 dX11_spells_44 rfl rfl (Nat.le_of_ble_eq_true rfl) (Nat.le_of_ble_eq_true rfl) (dnX11_gives hX hb0 (o_bdp h)) (fun r1 μ1 h => ?_)
  exact s_ireturn rfl dX11_spells_47 ⟨_, rfl, o_ret h⟩
set_option maxRecDepth 20000 in
theorem dnX11_spells {X : o_Cx} (hX : o_ok X) {d : Nat} {a0 : Nat} {x1 : Int32} {x2 : Int32} {μ0 : o_Mem} {q : Int32 → o_Mem → Prop} (h0 : o_is X a0 (.inl 11)) (h : o_Post (fX11_spells (o_rf X) a0 x1 x2 μ0) q) : o_Ev X (d + 6) mX11_spells 0 [some (.ref (o_ad X a0)), some (.int x1), some (.int x2), none] [] μ0 (o_QI q) := by
  unfold fX11_spells at h
  refine s_aload_n (i := 0) dX11_spells_0 rfl rfl ?_
  refine s_iload_n (i := 1) dX11_spells_1 rfl rfl ?_
  refine s_iload_n (i := 2) dX11_spells_2 rfl rfl ?_
  refine s_callVi (C := mX11_strikeRowStatus) (As := [.int x1, .int x2]) (rest := []) (L0 := [some (.ref (o_ad X a0)), some (.int x1), some (.int x2), none, none]) hX h0 clX11_374 dX11_spells_3 rfl rfl (Nat.le_of_ble_eq_true rfl) (Nat.le_of_ble_eq_true rfl) (dnX11_strikeRowStatus hX h0 (o_bdp h)) (fun r1 μ1 h => ?_)
  refine s_istore_n (i := 3) dX11_spells_6 rfl (Nat.le_of_ble_eq_true rfl) rfl ?_
  refine s_iload_n (i := 3) dX11_spells_7 rfl rfl ?_
  refine s_if_eq (tgt := 17) dX11_spells_8 rfl (fun c1 => ?_) (fun c1 => ?_)
  · have h := o_if_t c1 h
    refine s_aload_n (i := 0) dX11_spells_17 rfl rfl ?_
    refine s_aload_n (i := 0) dX11_spells_18 rfl rfl ?_
    refine s_getR hX h0 flX11_94 rfl dX11_spells_19 (fun (g1 : o_is X (o_rf X a0 17) (.inl 5)) => ?_)
    refine s_aload_n (i := 0) dX11_spells_22 rfl rfl ?_
    refine s_getR hX h0 flX11_23 rfl dX11_spells_23 (fun (g2 : o_is X (o_rf X a0 4) (.inl 8)) => ?_)
    refine s_aload_n (i := 0) dX11_spells_26 rfl rfl ?_
    refine s_getR hX h0 flX11_15 rfl dX11_spells_27 (fun (g3 : o_is X (o_rf X a0 3) (.inr (3, 4))) => ?_)
    refine s_iload_n (i := 1) dX11_spells_30 rfl rfl ?_
    have hc := o_ck_c h
    have h := o_ck_k h
    refine s_aaldK hX g3 (by decide) rfl hc rfl dX11_spells_31 (fun (g4 : o_is X (o_rf X (o_rf X a0 3) x1.toNatClampNeg) (.inl 7)) => ?_)
    refine s_iload_n (i := 2) dX11_spells_32 rfl rfl ?_
    refine s_callVz (C := mX5_spell) (As := [.ref (o_ad X (o_rf X a0 4)), .ref (o_ad X (o_rf X (o_rf X a0 3) x1.toNatClampNeg)), .int x2]) (rest := [.ref (o_ad X a0)]) (L0 := [some (.ref (o_ad X (o_rf X a0 17))), some (.ref (o_ad X (o_rf X a0 4))), some (.ref (o_ad X (o_rf X (o_rf X a0 3) x1.toNatClampNeg))), some (.int x2), none, none]) hX g1 clX11_391 dX11_spells_33 rfl rfl (Nat.le_of_ble_eq_true rfl) (Nat.le_of_ble_eq_true rfl) (dnX5_spell hX g1 g2 g4 (o_bdp h)) (fun r2 μ2 zr2 h => ?_)
    refine s_if_eq (tgt := 43) dX11_spells_36 rfl (fun c1 => ?_) (fun c1 => ?_)
    · have h := o_if_t c1 h
      refine s_iconst dX11_spells_43 kI_0 ?_
      refine s_mask [false, false, false, false] (L' := [none, none, none, none]) rfl ?_
      exact dnX11_spells_j44 hX h0 h
    · have h := o_if_f c1 h
      refine s_iconst dX11_spells_39 kI_1 ?_
      refine s_goto (tgt := 44) dX11_spells_40 rfl ?_
      refine s_mask [false, false, false, false] (L' := [none, none, none, none]) rfl ?_
      exact dnX11_spells_j44 hX h0 h
  · have h := o_if_f c1 h
    refine s_aload_n (i := 0) dX11_spells_11 rfl rfl ?_
    refine s_iload_n (i := 3) dX11_spells_12 rfl rfl ?_
    refine s_callVi (C := mX11_refuses) (As := [.int r1]) (rest := []) (L0 := [some (.ref (o_ad X a0)), some (.int r1)]) hX h0 clX11_139 dX11_spells_13 rfl rfl (Nat.le_of_ble_eq_true rfl) (Nat.le_of_ble_eq_true rfl) (dnX11_refuses hX h0 (o_bdp h)) (fun r3 μ3 h => ?_)
    exact s_ireturn rfl dX11_spells_16 ⟨_, rfl, o_ret h⟩
theorem dX11_spellAt_0 : decode cX11_spellAt 0 = .ok (.iload_n 3, 1) := by decide +kernel
theorem dX11_spellAt_1 : decode cX11_spellAt 1 = .ok (.i2l, 1) := by decide +kernel
theorem dX11_spellAt_2 : decode cX11_spellAt 2 = .ok (.lconst 0, 1) := by decide +kernel
theorem dX11_spellAt_3 : decode cX11_spellAt 3 = .ok (.iload_n 2, 1) := by decide +kernel
theorem dX11_spellAt_4 : decode cX11_spellAt 4 = .ok (.i2l, 1) := by decide +kernel
theorem dX11_spellAt_5 : decode cX11_spellAt 5 = .ok (.lconst 1, 1) := by decide +kernel
theorem dX11_spellAt_6 : decode cX11_spellAt 6 = .ok (.lsub, 1) := by decide +kernel
theorem dX11_spellAt_7 : decode cX11_spellAt 7 = .ok (.invokestatic 118, 3) := by decide +kernel
theorem dX11_spellAt_10 : decode cX11_spellAt 10 = .ok (.ifCond .eq 16, 3) := by decide +kernel
theorem dX11_spellAt_13 : decode cX11_spellAt 13 = .ok (.iload 4, 2) := by decide +kernel
theorem dX11_spellAt_15 : decode cX11_spellAt 15 = .ok (.i2l, 1) := by decide +kernel
theorem dX11_spellAt_16 : decode cX11_spellAt 16 = .ok (.lconst 0, 1) := by decide +kernel
theorem dX11_spellAt_17 : decode cX11_spellAt 17 = .ok (.ldc2_w 395, 3) := by decide +kernel
theorem dX11_spellAt_20 : decode cX11_spellAt 20 = .ok (.invokestatic 118, 3) := by decide +kernel
theorem dX11_spellAt_23 : decode cX11_spellAt 23 = .ok (.ifCond .ne 9, 3) := by decide +kernel
theorem dX11_spellAt_26 : decode cX11_spellAt 26 = .ok (.aload_n 0, 1) := by decide +kernel
theorem dX11_spellAt_27 : decode cX11_spellAt 27 = .ok (.iconst 1, 1) := by decide +kernel
theorem dX11_spellAt_28 : decode cX11_spellAt 28 = .ok (.invokevirtual 139, 3) := by decide +kernel
theorem dX11_spellAt_31 : decode cX11_spellAt 31 = .ok (.ireturn, 1) := by decide +kernel
theorem dX11_spellAt_32 : decode cX11_spellAt 32 = .ok (.aload_n 0, 1) := by decide +kernel
theorem dX11_spellAt_33 : decode cX11_spellAt 33 = .ok (.iload_n 1, 1) := by decide +kernel
theorem dX11_spellAt_34 : decode cX11_spellAt 34 = .ok (.iload_n 2, 1) := by decide +kernel
theorem dX11_spellAt_35 : decode cX11_spellAt 35 = .ok (.invokevirtual 374, 3) := by decide +kernel
theorem dX11_spellAt_38 : decode cX11_spellAt 38 = .ok (.istore 5, 2) := by decide +kernel
theorem dX11_spellAt_40 : decode cX11_spellAt 40 = .ok (.iload 5, 2) := by decide +kernel
theorem dX11_spellAt_42 : decode cX11_spellAt 42 = .ok (.ifCond .eq 10, 3) := by decide +kernel
theorem dX11_spellAt_45 : decode cX11_spellAt 45 = .ok (.aload_n 0, 1) := by decide +kernel
theorem dX11_spellAt_46 : decode cX11_spellAt 46 = .ok (.iload 5, 2) := by decide +kernel
theorem dX11_spellAt_48 : decode cX11_spellAt 48 = .ok (.invokevirtual 139, 3) := by decide +kernel
theorem dX11_spellAt_51 : decode cX11_spellAt 51 = .ok (.ireturn, 1) := by decide +kernel
theorem dX11_spellAt_52 : decode cX11_spellAt 52 = .ok (.aload_n 0, 1) := by decide +kernel
theorem dX11_spellAt_53 : decode cX11_spellAt 53 = .ok (.getfield 94, 3) := by decide +kernel
theorem dX11_spellAt_56 : decode cX11_spellAt 56 = .ok (.aload_n 0, 1) := by decide +kernel
theorem dX11_spellAt_57 : decode cX11_spellAt 57 = .ok (.getfield 23, 3) := by decide +kernel
theorem dX11_spellAt_60 : decode cX11_spellAt 60 = .ok (.aload_n 0, 1) := by decide +kernel
theorem dX11_spellAt_61 : decode cX11_spellAt 61 = .ok (.getfield 15, 3) := by decide +kernel
theorem dX11_spellAt_64 : decode cX11_spellAt 64 = .ok (.iload_n 1, 1) := by decide +kernel
theorem dX11_spellAt_65 : decode cX11_spellAt 65 = .ok (.aaload, 1) := by decide +kernel
theorem dX11_spellAt_66 : decode cX11_spellAt 66 = .ok (.iload_n 2, 1) := by decide +kernel
theorem dX11_spellAt_67 : decode cX11_spellAt 67 = .ok (.invokevirtual 391, 3) := by decide +kernel
theorem dX11_spellAt_70 : decode cX11_spellAt 70 = .ok (.ifCond .ne 10, 3) := by decide +kernel
theorem dX11_spellAt_73 : decode cX11_spellAt 73 = .ok (.aload_n 0, 1) := by decide +kernel
theorem dX11_spellAt_74 : decode cX11_spellAt 74 = .ok (.bipush 6, 2) := by decide +kernel
theorem dX11_spellAt_76 : decode cX11_spellAt 76 = .ok (.invokevirtual 139, 3) := by decide +kernel
theorem dX11_spellAt_79 : decode cX11_spellAt 79 = .ok (.ireturn, 1) := by decide +kernel
theorem dX11_spellAt_80 : decode cX11_spellAt 80 = .ok (.aload_n 0, 1) := by decide +kernel
theorem dX11_spellAt_81 : decode cX11_spellAt 81 = .ok (.aload_n 0, 1) := by decide +kernel
theorem dX11_spellAt_82 : decode cX11_spellAt 82 = .ok (.getfield 94, 3) := by decide +kernel
theorem dX11_spellAt_85 : decode cX11_spellAt 85 = .ok (.getfield 397, 3) := by decide +kernel
theorem dX11_spellAt_88 : decode cX11_spellAt 88 = .ok (.iload_n 3, 1) := by decide +kernel
theorem dX11_spellAt_89 : decode cX11_spellAt 89 = .ok (.iload 4, 2) := by decide +kernel
theorem dX11_spellAt_91 : decode cX11_spellAt 91 = .ok (.invokevirtual 272, 3) := by decide +kernel
theorem dX11_spellAt_94 : decode cX11_spellAt 94 = .ok (.invokevirtual 187, 3) := by decide +kernel
theorem dX11_spellAt_97 : decode cX11_spellAt 97 = .ok (.ireturn, 1) := by decide +kernel
noncomputable def fX11_spellAt_j26 (rf : Nat → Nat → Nat) (a0 : Nat) (μ0 : o_Mem) : Option (Int32 × o_Mem) :=
  o_bd (fX11_refuses rf a0 1 μ0) fun r1 μ1 =>
  some (r1, μ1)
noncomputable def fX11_spellAt (rf : Nat → Nat → Nat) (a0 : Nat) (x1 : Int32) (x2 : Int32) (x3 : Int32) (x4 : Int32) (μ0 : o_Mem) : Option (Int32 × o_Mem) :=
  o_bd (fX11_within rf x3.toInt64 (0 : Int64) (x2.toInt64 - (1 : Int64)) μ0) fun r1 μ1 =>
  if r1 = 0 then (
    fX11_spellAt_j26 rf a0 μ1)
  else (
    o_bd (fX11_within rf x4.toInt64 (0 : Int64) (2 : Int64) μ1) fun r2 μ2 =>
    if r2 = 0 then (
      fX11_spellAt_j26 rf a0 μ2)
    else (
      o_bd (fX11_strikeRowStatus rf a0 x1 x2 μ2) fun r3 μ3 =>
      if r3 = 0 then (
        o_ck (0 ≤ (x1).toInt ∧ (x1).toInt < 4) <|
        o_bd (fX5_spell rf (rf a0 17) (rf a0 4) (rf (rf a0 3) x1.toNatClampNeg) x2 μ3) fun r4 μ4 =>
        if r4 = 0 then (
          o_bd (fX11_refuses rf a0 6 μ4) fun r7 μ7 =>
          some (r7, μ7))
        else (
          o_bd (fX1_tell rf (rf (rf a0 17) 0) x3 x4 μ4) fun r5 μ5 =>
          o_bd (fX11_gives rf a0 r5 μ5) fun r6 μ6 =>
          some (r6, μ6)))
      else (
        o_bd (fX11_refuses rf a0 r3 μ3) fun r8 μ8 =>
        some (r8, μ8))))
set_option maxRecDepth 20000 in
theorem dnX11_spellAt_j26 {X : o_Cx} (hX : o_ok X) {d : Nat} {a0 : Nat} {μ0 : o_Mem} {q : Int32 → o_Mem → Prop} (h0 : o_is X a0 (.inl 11)) (h : o_Post (fX11_spellAt_j26 (o_rf X) a0 μ0) q) : o_Ev X (d + 6) mX11_spellAt 26 [some (.ref (o_ad X a0)), none, none, none, none, none] [] μ0 (o_QI q) := by
  unfold fX11_spellAt_j26 at h
  refine s_aload_n (i := 0) dX11_spellAt_26 rfl rfl ?_
  refine s_iconst dX11_spellAt_27 kI_1 ?_
  refine s_callVi (C := mX11_refuses) (As := [.int 1]) (rest := []) (L0 := [some (.ref (o_ad X a0)), some (.int 1)]) hX h0 clX11_139 dX11_spellAt_28 rfl rfl (Nat.le_of_ble_eq_true rfl) (Nat.le_of_ble_eq_true rfl) (dnX11_refuses hX h0 (o_bdp h)) (fun r1 μ1 h => ?_)
  exact s_ireturn rfl dX11_spellAt_31 ⟨_, rfl, o_ret h⟩
set_option maxRecDepth 20000 in
theorem dnX11_spellAt {X : o_Cx} (hX : o_ok X) {d : Nat} {a0 : Nat} {x1 : Int32} {x2 : Int32} {x3 : Int32} {x4 : Int32} {μ0 : o_Mem} {q : Int32 → o_Mem → Prop} (h0 : o_is X a0 (.inl 11)) (h : o_Post (fX11_spellAt (o_rf X) a0 x1 x2 x3 x4 μ0) q) : o_Ev X (d + 6) mX11_spellAt 0 [some (.ref (o_ad X a0)), some (.int x1), some (.int x2), some (.int x3), some (.int x4), none] [] μ0 (o_QI q) := by
  unfold fX11_spellAt at h
  refine s_iload_n (i := 3) dX11_spellAt_0 rfl rfl ?_
  refine s_i2l dX11_spellAt_1 ?_
  refine s_lconst (v := 0) dX11_spellAt_2 rfl ?_
  refine s_iload_n (i := 2) dX11_spellAt_3 rfl rfl ?_
  refine s_i2l dX11_spellAt_4 ?_
  refine s_lconst (v := 1) dX11_spellAt_5 rfl ?_
  refine s_lsub dX11_spellAt_6 ?_
  refine s_callSz (C := mX11_within) (As := [.long x3.toInt64, .long (0 : Int64), .long (x2.toInt64 - (1 : Int64))]) (rest := []) (L0 := [some (.long x3.toInt64), none, some (.long (0 : Int64)), none, some (.long (x2.toInt64 - (1 : Int64))), none]) clX11_118 dX11_spellAt_7 rfl rfl (Nat.le_of_ble_eq_true rfl) (Nat.le_of_ble_eq_true rfl) (dnX11_within hX  (o_bdp h)) (fun r1 μ1 zr1 h => ?_)
  refine s_if_eq (tgt := 26) dX11_spellAt_10 rfl (fun c1 => ?_) (fun c1 => ?_)
  · have h := o_if_t c1 h
    refine s_mask [true, false, false, false, false, false] (L' := [some (.ref (o_ad X a0)), none, none, none, none, none]) rfl ?_
    exact dnX11_spellAt_j26 hX h0 h
  · have h := o_if_f c1 h
    refine s_iload dX11_spellAt_13 rfl ?_
    refine s_i2l dX11_spellAt_15 ?_
    refine s_lconst (v := 0) dX11_spellAt_16 rfl ?_
    refine s_ldc2 (v := 2) w_5_203 dX11_spellAt_17 ?_
    refine s_callSz (C := mX11_within) (As := [.long x4.toInt64, .long (0 : Int64), .long (2 : Int64)]) (rest := []) (L0 := [some (.long x4.toInt64), none, some (.long (0 : Int64)), none, some (.long (2 : Int64)), none]) clX11_118 dX11_spellAt_20 rfl rfl (Nat.le_of_ble_eq_true rfl) (Nat.le_of_ble_eq_true rfl) (dnX11_within hX  (o_bdp h)) (fun r2 μ2 zr2 h => ?_)
    refine s_if_ne (tgt := 32) dX11_spellAt_23 rfl (fun c1 => ?_) (fun c1 => ?_)
    · have h := o_if_f c1 h
      refine s_aload_n (i := 0) dX11_spellAt_32 rfl rfl ?_
      refine s_iload_n (i := 1) dX11_spellAt_33 rfl rfl ?_
      refine s_iload_n (i := 2) dX11_spellAt_34 rfl rfl ?_
      refine s_callVi (C := mX11_strikeRowStatus) (As := [.int x1, .int x2]) (rest := []) (L0 := [some (.ref (o_ad X a0)), some (.int x1), some (.int x2), none, none]) hX h0 clX11_374 dX11_spellAt_35 rfl rfl (Nat.le_of_ble_eq_true rfl) (Nat.le_of_ble_eq_true rfl) (dnX11_strikeRowStatus hX h0 (o_bdp h)) (fun r3 μ3 h => ?_)
      refine s_istore dX11_spellAt_38 (Nat.le_of_ble_eq_true rfl) rfl ?_
      refine s_iload dX11_spellAt_40 rfl ?_
      refine s_if_eq (tgt := 52) dX11_spellAt_42 rfl (fun c1 => ?_) (fun c1 => ?_)
      · have h := o_if_t c1 h
        refine s_aload_n (i := 0) dX11_spellAt_52 rfl rfl ?_
        refine s_getR hX h0 flX11_94 rfl dX11_spellAt_53 (fun (g1 : o_is X (o_rf X a0 17) (.inl 5)) => ?_)
        refine s_aload_n (i := 0) dX11_spellAt_56 rfl rfl ?_
        refine s_getR hX h0 flX11_23 rfl dX11_spellAt_57 (fun (g2 : o_is X (o_rf X a0 4) (.inl 8)) => ?_)
        refine s_aload_n (i := 0) dX11_spellAt_60 rfl rfl ?_
        refine s_getR hX h0 flX11_15 rfl dX11_spellAt_61 (fun (g3 : o_is X (o_rf X a0 3) (.inr (3, 4))) => ?_)
        refine s_iload_n (i := 1) dX11_spellAt_64 rfl rfl ?_
        have hc := o_ck_c h
        have h := o_ck_k h
        refine s_aaldK hX g3 (by decide) rfl hc rfl dX11_spellAt_65 (fun (g4 : o_is X (o_rf X (o_rf X a0 3) x1.toNatClampNeg) (.inl 7)) => ?_)
        refine s_iload_n (i := 2) dX11_spellAt_66 rfl rfl ?_
        refine s_callVz (C := mX5_spell) (As := [.ref (o_ad X (o_rf X a0 4)), .ref (o_ad X (o_rf X (o_rf X a0 3) x1.toNatClampNeg)), .int x2]) (rest := []) (L0 := [some (.ref (o_ad X (o_rf X a0 17))), some (.ref (o_ad X (o_rf X a0 4))), some (.ref (o_ad X (o_rf X (o_rf X a0 3) x1.toNatClampNeg))), some (.int x2), none, none]) hX g1 clX11_391 dX11_spellAt_67 rfl rfl (Nat.le_of_ble_eq_true rfl) (Nat.le_of_ble_eq_true rfl) (dnX5_spell hX g1 g2 g4 (o_bdp h)) (fun r4 μ4 zr4 h => ?_)
        refine s_if_ne (tgt := 80) dX11_spellAt_70 rfl (fun c1 => ?_) (fun c1 => ?_)
        · have h := o_if_f c1 h
          refine s_aload_n (i := 0) dX11_spellAt_80 rfl rfl ?_
          refine s_aload_n (i := 0) dX11_spellAt_81 rfl rfl ?_
          refine s_getR hX h0 flX11_94 rfl dX11_spellAt_82 (fun (g5 : o_is X (o_rf X a0 17) (.inl 5)) => ?_)
          refine s_getR hX g5 flX11_397 rfl dX11_spellAt_85 (fun (g6 : o_is X (o_rf X (o_rf X a0 17) 0) (.inl 1)) => ?_)
          refine s_iload_n (i := 3) dX11_spellAt_88 rfl rfl ?_
          refine s_iload dX11_spellAt_89 rfl ?_
          refine s_callVi (C := mX1_tell) (As := [.int x3, .int x4]) (rest := [.ref (o_ad X a0)]) (L0 := [some (.ref (o_ad X (o_rf X (o_rf X a0 17) 0))), some (.int x3), some (.int x4)]) hX g6 clX11_272 dX11_spellAt_91 rfl rfl (Nat.le_of_ble_eq_true rfl) (Nat.le_of_ble_eq_true rfl) (dnX1_tell hX g6 (o_bdp h)) (fun r5 μ5 h => ?_)
          refine s_callVi (C := mX11_gives) (As := [.int r5]) (rest := []) (L0 := [some (.ref (o_ad X a0)), some (.int r5)]) hX h0 clX11_187 dX11_spellAt_94 rfl rfl (Nat.le_of_ble_eq_true rfl) (Nat.le_of_ble_eq_true rfl) (dnX11_gives hX h0 (o_bdp h)) (fun r6 μ6 h => ?_)
          exact s_ireturn rfl dX11_spellAt_97 ⟨_, rfl, o_ret h⟩
        · have h := o_if_t c1 h
          refine s_aload_n (i := 0) dX11_spellAt_73 rfl rfl ?_
          refine s_bipush dX11_spellAt_74 kB_6 ?_
          refine s_callVi (C := mX11_refuses) (As := [.int 6]) (rest := []) (L0 := [some (.ref (o_ad X a0)), some (.int 6)]) hX h0 clX11_139 dX11_spellAt_76 rfl rfl (Nat.le_of_ble_eq_true rfl) (Nat.le_of_ble_eq_true rfl) (dnX11_refuses hX h0 (o_bdp h)) (fun r7 μ7 h => ?_)
          exact s_ireturn rfl dX11_spellAt_79 ⟨_, rfl, o_ret h⟩
      · have h := o_if_f c1 h
        refine s_aload_n (i := 0) dX11_spellAt_45 rfl rfl ?_
        refine s_iload dX11_spellAt_46 rfl ?_
        refine s_callVi (C := mX11_refuses) (As := [.int r3]) (rest := []) (L0 := [some (.ref (o_ad X a0)), some (.int r3)]) hX h0 clX11_139 dX11_spellAt_48 rfl rfl (Nat.le_of_ble_eq_true rfl) (Nat.le_of_ble_eq_true rfl) (dnX11_refuses hX h0 (o_bdp h)) (fun r8 μ8 h => ?_)
        exact s_ireturn rfl dX11_spellAt_51 ⟨_, rfl, o_ret h⟩
    · have h := o_if_t c1 h
      refine s_mask [true, false, false, false, false, false] (L' := [some (.ref (o_ad X a0)), none, none, none, none, none]) rfl ?_
      exact dnX11_spellAt_j26 hX h0 h
theorem dX11_splitStatus_0 : decode cX11_splitStatus 0 = .ok (.iload_n 2, 1) := by decide +kernel
theorem dX11_splitStatus_1 : decode cX11_splitStatus 1 = .ok (.i2l, 1) := by decide +kernel
theorem dX11_splitStatus_2 : decode cX11_splitStatus 2 = .ok (.lconst 0, 1) := by decide +kernel
theorem dX11_splitStatus_3 : decode cX11_splitStatus 3 = .ok (.ldc2_w 478, 3) := by decide +kernel
theorem dX11_splitStatus_6 : decode cX11_splitStatus 6 = .ok (.invokestatic 118, 3) := by decide +kernel
theorem dX11_splitStatus_9 : decode cX11_splitStatus 9 = .ok (.ifCond .eq 34, 3) := by decide +kernel
theorem dX11_splitStatus_12 : decode cX11_splitStatus 12 = .ok (.aload_n 0, 1) := by decide +kernel
theorem dX11_splitStatus_13 : decode cX11_splitStatus 13 = .ok (.getfield 23, 3) := by decide +kernel
theorem dX11_splitStatus_16 : decode cX11_splitStatus 16 = .ok (.iload_n 3, 1) := by decide +kernel
theorem dX11_splitStatus_17 : decode cX11_splitStatus 17 = .ok (.i2l, 1) := by decide +kernel
theorem dX11_splitStatus_18 : decode cX11_splitStatus 18 = .ok (.invokevirtual 241, 3) := by decide +kernel
theorem dX11_splitStatus_21 : decode cX11_splitStatus 21 = .ok (.ifCond .eq 22, 3) := by decide +kernel
theorem dX11_splitStatus_24 : decode cX11_splitStatus 24 = .ok (.aload_n 0, 1) := by decide +kernel
theorem dX11_splitStatus_25 : decode cX11_splitStatus 25 = .ok (.getfield 23, 3) := by decide +kernel
theorem dX11_splitStatus_28 : decode cX11_splitStatus 28 = .ok (.iload 4, 2) := by decide +kernel
theorem dX11_splitStatus_30 : decode cX11_splitStatus 30 = .ok (.i2l, 1) := by decide +kernel
theorem dX11_splitStatus_31 : decode cX11_splitStatus 31 = .ok (.invokevirtual 241, 3) := by decide +kernel
theorem dX11_splitStatus_34 : decode cX11_splitStatus 34 = .ok (.ifCond .eq 9, 3) := by decide +kernel
theorem dX11_splitStatus_37 : decode cX11_splitStatus 37 = .ok (.iload_n 3, 1) := by decide +kernel
theorem dX11_splitStatus_38 : decode cX11_splitStatus 38 = .ok (.iload 4, 2) := by decide +kernel
theorem dX11_splitStatus_40 : decode cX11_splitStatus 40 = .ok (.if_icmp .ne 5, 3) := by decide +kernel
theorem dX11_splitStatus_43 : decode cX11_splitStatus 43 = .ok (.iconst 1, 1) := by decide +kernel
theorem dX11_splitStatus_44 : decode cX11_splitStatus 44 = .ok (.ireturn, 1) := by decide +kernel
theorem dX11_splitStatus_45 : decode cX11_splitStatus 45 = .ok (.aload_n 0, 1) := by decide +kernel
theorem dX11_splitStatus_46 : decode cX11_splitStatus 46 = .ok (.iload_n 1, 1) := by decide +kernel
theorem dX11_splitStatus_47 : decode cX11_splitStatus 47 = .ok (.iconst 2, 1) := by decide +kernel
theorem dX11_splitStatus_48 : decode cX11_splitStatus 48 = .ok (.iload_n 2, 1) := by decide +kernel
theorem dX11_splitStatus_49 : decode cX11_splitStatus 49 = .ok (.imul, 1) := by decide +kernel
theorem dX11_splitStatus_50 : decode cX11_splitStatus 50 = .ok (.invokevirtual 385, 3) := by decide +kernel
theorem dX11_splitStatus_53 : decode cX11_splitStatus 53 = .ok (.istore 5, 2) := by decide +kernel
theorem dX11_splitStatus_55 : decode cX11_splitStatus 55 = .ok (.iload 5, 2) := by decide +kernel
theorem dX11_splitStatus_57 : decode cX11_splitStatus 57 = .ok (.ifCond .eq 6, 3) := by decide +kernel
theorem dX11_splitStatus_60 : decode cX11_splitStatus 60 = .ok (.iload 5, 2) := by decide +kernel
theorem dX11_splitStatus_62 : decode cX11_splitStatus 62 = .ok (.ireturn, 1) := by decide +kernel
theorem dX11_splitStatus_63 : decode cX11_splitStatus 63 = .ok (.aload_n 0, 1) := by decide +kernel
theorem dX11_splitStatus_64 : decode cX11_splitStatus 64 = .ok (.getfield 15, 3) := by decide +kernel
theorem dX11_splitStatus_67 : decode cX11_splitStatus 67 = .ok (.iload_n 1, 1) := by decide +kernel
theorem dX11_splitStatus_68 : decode cX11_splitStatus 68 = .ok (.aaload, 1) := by decide +kernel
theorem dX11_splitStatus_69 : decode cX11_splitStatus 69 = .ok (.getfield 143, 3) := by decide +kernel
theorem dX11_splitStatus_72 : decode cX11_splitStatus 72 = .ok (.astore 6, 2) := by decide +kernel
theorem dX11_splitStatus_74 : decode cX11_splitStatus 74 = .ok (.iconst 0, 1) := by decide +kernel
theorem dX11_splitStatus_75 : decode cX11_splitStatus 75 = .ok (.istore 7, 2) := by decide +kernel
theorem dX11_splitStatus_77 : decode cX11_splitStatus 77 = .ok (.iload 7, 2) := by decide +kernel
theorem dX11_splitStatus_79 : decode cX11_splitStatus 79 = .ok (.iload_n 2, 1) := by decide +kernel
theorem dX11_splitStatus_80 : decode cX11_splitStatus 80 = .ok (.if_icmp .ge 56, 3) := by decide +kernel
theorem dX11_splitStatus_83 : decode cX11_splitStatus 83 = .ok (.aload 6, 2) := by decide +kernel
theorem dX11_splitStatus_85 : decode cX11_splitStatus 85 = .ok (.iconst 2, 1) := by decide +kernel
theorem dX11_splitStatus_86 : decode cX11_splitStatus 86 = .ok (.iload 7, 2) := by decide +kernel
theorem dX11_splitStatus_88 : decode cX11_splitStatus 88 = .ok (.imul, 1) := by decide +kernel
theorem dX11_splitStatus_89 : decode cX11_splitStatus 89 = .ok (.iconst 1, 1) := by decide +kernel
theorem dX11_splitStatus_90 : decode cX11_splitStatus 90 = .ok (.iadd, 1) := by decide +kernel
theorem dX11_splitStatus_91 : decode cX11_splitStatus 91 = .ok (.laload, 1) := by decide +kernel
theorem dX11_splitStatus_92 : decode cX11_splitStatus 92 = .ok (.lstore 8, 2) := by decide +kernel
theorem dX11_splitStatus_94 : decode cX11_splitStatus 94 = .ok (.aload 6, 2) := by decide +kernel
theorem dX11_splitStatus_96 : decode cX11_splitStatus 96 = .ok (.iconst 2, 1) := by decide +kernel
theorem dX11_splitStatus_97 : decode cX11_splitStatus 97 = .ok (.iload 7, 2) := by decide +kernel
theorem dX11_splitStatus_99 : decode cX11_splitStatus 99 = .ok (.imul, 1) := by decide +kernel
theorem dX11_splitStatus_100 : decode cX11_splitStatus 100 = .ok (.laload, 1) := by decide +kernel
theorem dX11_splitStatus_101 : decode cX11_splitStatus 101 = .ok (.lconst 1, 1) := by decide +kernel
theorem dX11_splitStatus_102 : decode cX11_splitStatus 102 = .ok (.ldc2_w 291, 3) := by decide +kernel
theorem dX11_splitStatus_105 : decode cX11_splitStatus 105 = .ok (.invokestatic 118, 3) := by decide +kernel
theorem dX11_splitStatus_108 : decode cX11_splitStatus 108 = .ok (.ifCond .eq 20, 3) := by decide +kernel
theorem dX11_splitStatus_111 : decode cX11_splitStatus 111 = .ok (.lload 8, 2) := by decide +kernel
theorem dX11_splitStatus_113 : decode cX11_splitStatus 113 = .ok (.iload_n 3, 1) := by decide +kernel
theorem dX11_splitStatus_114 : decode cX11_splitStatus 114 = .ok (.i2l, 1) := by decide +kernel
theorem dX11_splitStatus_115 : decode cX11_splitStatus 115 = .ok (.lcmp, 1) := by decide +kernel
theorem dX11_splitStatus_116 : decode cX11_splitStatus 116 = .ok (.ifCond .eq 14, 3) := by decide +kernel
theorem dX11_splitStatus_119 : decode cX11_splitStatus 119 = .ok (.lload 8, 2) := by decide +kernel
theorem dX11_splitStatus_121 : decode cX11_splitStatus 121 = .ok (.iload 4, 2) := by decide +kernel
theorem dX11_splitStatus_123 : decode cX11_splitStatus 123 = .ok (.i2l, 1) := by decide +kernel
theorem dX11_splitStatus_124 : decode cX11_splitStatus 124 = .ok (.lcmp, 1) := by decide +kernel
theorem dX11_splitStatus_125 : decode cX11_splitStatus 125 = .ok (.ifCond .eq 5, 3) := by decide +kernel
theorem dX11_splitStatus_128 : decode cX11_splitStatus 128 = .ok (.iconst 5, 1) := by decide +kernel
theorem dX11_splitStatus_129 : decode cX11_splitStatus 129 = .ok (.ireturn, 1) := by decide +kernel
theorem dX11_splitStatus_130 : decode cX11_splitStatus 130 = .ok (.iinc 7 1, 3) := by decide +kernel
theorem dX11_splitStatus_133 : decode cX11_splitStatus 133 = .ok (.goto (-56), 3) := by decide +kernel
theorem dX11_splitStatus_136 : decode cX11_splitStatus 136 = .ok (.iconst 0, 1) := by decide +kernel
theorem dX11_splitStatus_137 : decode cX11_splitStatus 137 = .ok (.ireturn, 1) := by decide +kernel
noncomputable def fX11_splitStatus_s77 (rf : Nat → Nat → Nat) (x2 : Int32) (x3 : Int32) (x4 : Int32) (a6 : Nat) (τ77 : Int32) (μ0 : o_Mem) : Option ((Nat × (Int32)) × o_Mem) :=
  if x2 ≤ τ77 then (
    some ((136, 0), μ0))
  else (
    o_ck (0 ≤ (((2 * τ77) + 1)).toInt ∧ (((2 * τ77) + 1)).toInt < 60) <|
    o_ck (0 ≤ ((2 * τ77)).toInt ∧ ((2 * τ77)).toInt < 60) <|
    o_bd (fX11_within rf (μ0.2 a6 ((2 * τ77)).toNatClampNeg) (1 : Int64) (99 : Int64) μ0) fun r1 μ1 =>
    if r1 = 0 then (
      some ((128, 0), μ1))
    else (
      if (μ0.2 a6 (((2 * τ77) + 1)).toNatClampNeg) = x3.toInt64 then (
        some ((77, (τ77 + 1)), μ1))
      else (
        if (μ0.2 a6 (((2 * τ77) + 1)).toNatClampNeg) = x4.toInt64 then (
          some ((77, (τ77 + 1)), μ1))
        else (
          some ((128, 0), μ1)))))
noncomputable def fX11_splitStatus (rf : Nat → Nat → Nat) (a0 : Nat) (x1 : Int32) (x2 : Int32) (x3 : Int32) (x4 : Int32) (μ0 : o_Mem) : Option (Int32 × o_Mem) :=
  o_bd (fX11_within rf x2.toInt64 (0 : Int64) (30 : Int64) μ0) fun r1 μ1 =>
  if r1 = 0 then (
    some (1, μ1))
  else (
    o_bd (fX8_isStrike rf (rf a0 4) x3.toInt64 μ1) fun r2 μ2 =>
    if r2 = 0 then (
      some (1, μ2))
    else (
      o_bd (fX8_isStrike rf (rf a0 4) x4.toInt64 μ2) fun r3 μ3 =>
      if r3 = 0 then (
        some (1, μ3))
      else (
        if x3 = x4 then (
          some (1, μ3))
        else (
          o_bd (fX11_rowStatus rf a0 x1 (2 * x2) μ3) fun r4 μ4 =>
          if r4 = 0 then (
            o_ck (0 ≤ (x1).toInt ∧ (x1).toInt < 4) <|
            o_bd (o_lp 77 (fX11_splitStatus_s77 rf x2 x3 x4 (rf (rf (rf a0 3) x1.toNatClampNeg) 3)) o_fuel (0 : Int32) μ4) fun ex5 μ5 =>
            if ex5.1 = 128 then (
              some (5, μ5))
            else
            if ex5.1 = 136 then (
              some (0, μ5))
            else
              none)
          else (
            some (r4, μ4))))))
set_option maxRecDepth 20000 in
theorem dnX11_splitStatus_s77 {X : o_Cx} (hX : o_ok X) {d : Nat} {x2 : Int32} {x3 : Int32} {x4 : Int32} {a6 : Nat} {τ77 : Int32} {μ0 : o_Mem} {K : (Nat × (Int32)) → o_Mem → Prop} {Q : Option Value → o_Mem → Prop} (h6 : o_is X a6 (.inr (2, 60))) (h : o_Post (fX11_splitStatus_s77 (o_rf X) x2 x3 x4 a6 τ77 μ0) K) (kh : ∀ (τ77 : Int32) (μ : o_Mem), K (77, τ77) μ → o_Ev X (d + 3) mX11_splitStatus 77 [none, none, some (.int x2), some (.int x3), some (.int x4), none, some (.ref (o_ad X a6)), some (.int τ77), none, none] [] μ Q) (k128 : ∀ (τ77 : Int32) (μ : o_Mem), K (128, τ77) μ → o_Ev X (d + 3) mX11_splitStatus 128 [none, none, none, none, none, none, none, none, none, none] [] μ Q) (k136 : ∀ (τ77 : Int32) (μ : o_Mem), K (136, τ77) μ → o_Ev X (d + 3) mX11_splitStatus 136 [none, none, none, none, none, none, none, none, none, none] [] μ Q) : o_Ev X (d + 3) mX11_splitStatus 77 [none, none, some (.int x2), some (.int x3), some (.int x4), none, some (.ref (o_ad X a6)), some (.int τ77), none, none] [] μ0 Q := by
  unfold fX11_splitStatus_s77 at h
  refine s_iload dX11_splitStatus_77 rfl ?_
  refine s_iload_n (i := 2) dX11_splitStatus_79 rfl rfl ?_
  refine s_icmp_ge (tgt := 136) dX11_splitStatus_80 rfl (fun c1 => ?_) (fun c1 => ?_)
  · have h := o_if_t c1 h
    refine s_mask [false, false, false, false, false, false, false, false, false, false] (L' := [none, none, none, none, none, none, none, none, none, none]) rfl ?_
    exact k136 0 _ (o_ret h)
  · have h := o_if_f c1 h
    refine s_aload dX11_splitStatus_83 rfl ?_
    refine s_iconst dX11_splitStatus_85 kI_2 ?_
    refine s_iload dX11_splitStatus_86 rfl ?_
    refine s_imul dX11_splitStatus_88 ?_
    refine s_iconst dX11_splitStatus_89 kI_1 ?_
    refine s_iadd dX11_splitStatus_90 ?_
    have hc := o_ck_c h
    have h := o_ck_k h
    refine s_laldK h6 hc rfl dX11_splitStatus_91 ?_
    refine s_lstore dX11_splitStatus_92 (Nat.le_of_ble_eq_true rfl) rfl ?_
    refine s_aload dX11_splitStatus_94 rfl ?_
    refine s_iconst dX11_splitStatus_96 kI_2 ?_
    refine s_iload dX11_splitStatus_97 rfl ?_
    refine s_imul dX11_splitStatus_99 ?_
    have hc := o_ck_c h
    have h := o_ck_k h
    refine s_laldK h6 hc rfl dX11_splitStatus_100 ?_
    refine s_lconst (v := 1) dX11_splitStatus_101 rfl ?_
    refine s_ldc2 (v := 99) w_4_186 dX11_splitStatus_102 ?_
    refine s_callSz (C := mX11_within) (As := [.long (μ0.2 a6 ((2 * τ77)).toNatClampNeg), .long (1 : Int64), .long (99 : Int64)]) (rest := []) (L0 := [some (.long (μ0.2 a6 ((2 * τ77)).toNatClampNeg)), none, some (.long (1 : Int64)), none, some (.long (99 : Int64)), none]) clX11_118 dX11_splitStatus_105 rfl rfl (Nat.le_of_ble_eq_true rfl) (Nat.le_of_ble_eq_true rfl) (dnX11_within hX  (o_bdp h)) (fun r1 μ1 zr1 h => ?_)
    refine s_if_eq (tgt := 128) dX11_splitStatus_108 rfl (fun c1 => ?_) (fun c1 => ?_)
    · have h := o_if_t c1 h
      refine s_mask [false, false, false, false, false, false, false, false, false, false] (L' := [none, none, none, none, none, none, none, none, none, none]) rfl ?_
      exact k128 0 _ (o_ret h)
    · have h := o_if_f c1 h
      refine s_lload dX11_splitStatus_111 rfl ?_
      refine s_iload_n (i := 3) dX11_splitStatus_113 rfl rfl ?_
      refine s_i2l dX11_splitStatus_114 ?_
      refine s_lif_eq (tgt := 130) dX11_splitStatus_115 dX11_splitStatus_116 rfl (fun c1 => ?_) (fun c1 => ?_)
      · have h := o_if_t c1 h
        refine s_iinc (v := (τ77 + 1)) dX11_splitStatus_130 rfl rfl (Nat.le_of_ble_eq_true rfl) rfl ?_
        refine s_goto (tgt := 77) dX11_splitStatus_133 rfl ?_
        refine s_mask [false, false, true, true, true, false, true, true, false, false] (L' := [none, none, some (.int x2), some (.int x3), some (.int x4), none, some (.ref (o_ad X a6)), some (.int (τ77 + 1)), none, none]) rfl ?_
        exact kh (τ77 + 1) _ (o_ret h)
      · have h := o_if_f c1 h
        refine s_lload dX11_splitStatus_119 rfl ?_
        refine s_iload dX11_splitStatus_121 rfl ?_
        refine s_i2l dX11_splitStatus_123 ?_
        refine s_lif_eq (tgt := 130) dX11_splitStatus_124 dX11_splitStatus_125 rfl (fun c1 => ?_) (fun c1 => ?_)
        · have h := o_if_t c1 h
          refine s_iinc (v := (τ77 + 1)) dX11_splitStatus_130 rfl rfl (Nat.le_of_ble_eq_true rfl) rfl ?_
          refine s_goto (tgt := 77) dX11_splitStatus_133 rfl ?_
          refine s_mask [false, false, true, true, true, false, true, true, false, false] (L' := [none, none, some (.int x2), some (.int x3), some (.int x4), none, some (.ref (o_ad X a6)), some (.int (τ77 + 1)), none, none]) rfl ?_
          exact kh (τ77 + 1) _ (o_ret h)
        · have h := o_if_f c1 h
          refine s_mask [false, false, false, false, false, false, false, false, false, false] (L' := [none, none, none, none, none, none, none, none, none, none]) rfl ?_
          exact k128 0 _ (o_ret h)
set_option maxRecDepth 20000 in
theorem dnX11_splitStatus {X : o_Cx} (hX : o_ok X) {d : Nat} {a0 : Nat} {x1 : Int32} {x2 : Int32} {x3 : Int32} {x4 : Int32} {μ0 : o_Mem} {q : Int32 → o_Mem → Prop} (h0 : o_is X a0 (.inl 11)) (h : o_Post (fX11_splitStatus (o_rf X) a0 x1 x2 x3 x4 μ0) q) : o_Ev X (d + 3) mX11_splitStatus 0 [some (.ref (o_ad X a0)), some (.int x1), some (.int x2), some (.int x3), some (.int x4), none, none, none, none, none] [] μ0 (o_QI q) := by
  unfold fX11_splitStatus at h
  refine s_iload_n (i := 2) dX11_splitStatus_0 rfl rfl ?_
  refine s_i2l dX11_splitStatus_1 ?_
  refine s_lconst (v := 0) dX11_splitStatus_2 rfl ?_
  refine s_ldc2 (v := 30) w_5_212 dX11_splitStatus_3 ?_
  refine s_callSz (C := mX11_within) (As := [.long x2.toInt64, .long (0 : Int64), .long (30 : Int64)]) (rest := []) (L0 := [some (.long x2.toInt64), none, some (.long (0 : Int64)), none, some (.long (30 : Int64)), none]) clX11_118 dX11_splitStatus_6 rfl rfl (Nat.le_of_ble_eq_true rfl) (Nat.le_of_ble_eq_true rfl) (dnX11_within hX  (o_bdp h)) (fun r1 μ1 zr1 h => ?_)
  refine s_if_eq (tgt := 43) dX11_splitStatus_9 rfl (fun c1 => ?_) (fun c1 => ?_)
  · have h := o_if_t c1 h
    refine s_iconst dX11_splitStatus_43 kI_1 ?_
    exact s_ireturn rfl dX11_splitStatus_44 ⟨_, rfl, o_ret h⟩
  · have h := o_if_f c1 h
    refine s_aload_n (i := 0) dX11_splitStatus_12 rfl rfl ?_
    refine s_getR hX h0 flX11_23 rfl dX11_splitStatus_13 (fun (g1 : o_is X (o_rf X a0 4) (.inl 8)) => ?_)
    refine s_iload_n (i := 3) dX11_splitStatus_16 rfl rfl ?_
    refine s_i2l dX11_splitStatus_17 ?_
    refine s_callVz (C := mX8_isStrike) (As := [.long x3.toInt64]) (rest := []) (L0 := [some (.ref (o_ad X (o_rf X a0 4))), some (.long x3.toInt64), none]) hX g1 clX11_241 dX11_splitStatus_18 rfl rfl (Nat.le_of_ble_eq_true rfl) (Nat.le_of_ble_eq_true rfl) (dnX8_isStrike hX g1 (o_bdp h)) (fun r2 μ2 zr2 h => ?_)
    refine s_if_eq (tgt := 43) dX11_splitStatus_21 rfl (fun c1 => ?_) (fun c1 => ?_)
    · have h := o_if_t c1 h
      refine s_iconst dX11_splitStatus_43 kI_1 ?_
      exact s_ireturn rfl dX11_splitStatus_44 ⟨_, rfl, o_ret h⟩
    · have h := o_if_f c1 h
      refine s_aload_n (i := 0) dX11_splitStatus_24 rfl rfl ?_
      refine s_getR hX h0 flX11_23 rfl dX11_splitStatus_25 (fun (g2 : o_is X (o_rf X a0 4) (.inl 8)) => ?_)
      refine s_iload dX11_splitStatus_28 rfl ?_
      refine s_i2l dX11_splitStatus_30 ?_
      refine s_callVz (C := mX8_isStrike) (As := [.long x4.toInt64]) (rest := []) (L0 := [some (.ref (o_ad X (o_rf X a0 4))), some (.long x4.toInt64), none]) hX g2 clX11_241 dX11_splitStatus_31 rfl rfl (Nat.le_of_ble_eq_true rfl) (Nat.le_of_ble_eq_true rfl) (dnX8_isStrike hX g2 (o_bdp h)) (fun r3 μ3 zr3 h => ?_)
      refine s_if_eq (tgt := 43) dX11_splitStatus_34 rfl (fun c1 => ?_) (fun c1 => ?_)
      · have h := o_if_t c1 h
        refine s_iconst dX11_splitStatus_43 kI_1 ?_
        exact s_ireturn rfl dX11_splitStatus_44 ⟨_, rfl, o_ret h⟩
      · have h := o_if_f c1 h
        refine s_iload_n (i := 3) dX11_splitStatus_37 rfl rfl ?_
        refine s_iload dX11_splitStatus_38 rfl ?_
        refine s_icmp_ne (tgt := 45) dX11_splitStatus_40 rfl (fun c1 => ?_) (fun c1 => ?_)
        · have h := o_if_f c1 h
          refine s_aload_n (i := 0) dX11_splitStatus_45 rfl rfl ?_
          refine s_iload_n (i := 1) dX11_splitStatus_46 rfl rfl ?_
          refine s_iconst dX11_splitStatus_47 kI_2 ?_
          refine s_iload_n (i := 2) dX11_splitStatus_48 rfl rfl ?_
          refine s_imul dX11_splitStatus_49 ?_
          refine s_callVi (C := mX11_rowStatus) (As := [.int x1, .int (2 * x2)]) (rest := []) (L0 := [some (.ref (o_ad X a0)), some (.int x1), some (.int (2 * x2))]) hX h0 clX11_385 dX11_splitStatus_50 rfl rfl (Nat.le_of_ble_eq_true rfl) (Nat.le_of_ble_eq_true rfl) (dnX11_rowStatus hX h0 (o_bdp h)) (fun r4 μ4 h => ?_)
          refine s_istore dX11_splitStatus_53 (Nat.le_of_ble_eq_true rfl) rfl ?_
          refine s_iload dX11_splitStatus_55 rfl ?_
          refine s_if_eq (tgt := 63) dX11_splitStatus_57 rfl (fun c1 => ?_) (fun c1 => ?_)
          · have h := o_if_t c1 h
            refine s_aload_n (i := 0) dX11_splitStatus_63 rfl rfl ?_
            refine s_getR hX h0 flX11_15 rfl dX11_splitStatus_64 (fun (g3 : o_is X (o_rf X a0 3) (.inr (3, 4))) => ?_)
            refine s_iload_n (i := 1) dX11_splitStatus_67 rfl rfl ?_
            have hc := o_ck_c h
            have h := o_ck_k h
            refine s_aaldK hX g3 (by decide) rfl hc rfl dX11_splitStatus_68 (fun (g4 : o_is X (o_rf X (o_rf X a0 3) x1.toNatClampNeg) (.inl 7)) => ?_)
            refine s_getR hX g4 flX11_143 rfl dX11_splitStatus_69 (fun (g5 : o_is X (o_rf X (o_rf X (o_rf X a0 3) x1.toNatClampNeg) 3) (.inr (2, 60))) => ?_)
            refine s_astore dX11_splitStatus_72 (Nat.le_of_ble_eq_true rfl) rfl ?_
            refine s_iconst dX11_splitStatus_74 kI_0 ?_
            refine s_istore dX11_splitStatus_75 (Nat.le_of_ble_eq_true rfl) rfl ?_
            refine s_mask [false, false, true, true, true, false, true, true, false, false] (L' := [none, none, some (.int x2), some (.int x3), some (.int x4), none, some (.ref (o_ad X (o_rf X (o_rf X (o_rf X a0 3) x1.toNatClampNeg) 3))), some (.int 0), none, none]) rfl ?_
            refine o_lp_ev (fun τ77 => [none, none, some (.int x2), some (.int x3), some (.int x4), none, some (.ref (o_ad X (o_rf X (o_rf X (o_rf X a0 3) x1.toNatClampNeg) 3))), some (.int τ77), none, none]) (fun τ77 μ _K h kv ke77 => dnX11_splitStatus_s77 hX g5 h kv (fun τ77 μ5 h => ?_) (fun τ77 μ5 h => ?_)) o_fuel 0 μ4 (o_bdp h)
            · have h := o_if_t rfl (ke77 (128, τ77) μ5 (o_ne rfl) h)
              refine s_iconst dX11_splitStatus_128 kI_5 ?_
              exact s_ireturn rfl dX11_splitStatus_129 ⟨_, rfl, o_ret h⟩
            · have h := o_if_t rfl (o_if_f (o_ne rfl) (ke77 (136, τ77) μ5 (o_ne rfl) h))
              refine s_iconst dX11_splitStatus_136 kI_0 ?_
              exact s_ireturn rfl dX11_splitStatus_137 ⟨_, rfl, o_ret h⟩
          · have h := o_if_f c1 h
            refine s_iload dX11_splitStatus_60 rfl ?_
            exact s_ireturn rfl dX11_splitStatus_62 ⟨_, rfl, o_ret h⟩
        · have h := o_if_t c1 h
          refine s_iconst dX11_splitStatus_43 kI_1 ?_
          exact s_ireturn rfl dX11_splitStatus_44 ⟨_, rfl, o_ret h⟩
theorem dX11_split_0 : decode cX11_split 0 = .ok (.aload_n 0, 1) := by decide +kernel
theorem dX11_split_1 : decode cX11_split 1 = .ok (.iload_n 1, 1) := by decide +kernel
theorem dX11_split_2 : decode cX11_split 2 = .ok (.iload_n 2, 1) := by decide +kernel
theorem dX11_split_3 : decode cX11_split 3 = .ok (.iload_n 3, 1) := by decide +kernel
theorem dX11_split_4 : decode cX11_split 4 = .ok (.iload 4, 2) := by decide +kernel
theorem dX11_split_6 : decode cX11_split 6 = .ok (.invokevirtual 400, 3) := by decide +kernel
theorem dX11_split_9 : decode cX11_split 9 = .ok (.istore 5, 2) := by decide +kernel
theorem dX11_split_11 : decode cX11_split 11 = .ok (.iload 5, 2) := by decide +kernel
theorem dX11_split_13 : decode cX11_split 13 = .ok (.ifCond .eq 10, 3) := by decide +kernel
theorem dX11_split_16 : decode cX11_split 16 = .ok (.aload_n 0, 1) := by decide +kernel
theorem dX11_split_17 : decode cX11_split 17 = .ok (.iload 5, 2) := by decide +kernel
theorem dX11_split_19 : decode cX11_split 19 = .ok (.invokevirtual 139, 3) := by decide +kernel
theorem dX11_split_22 : decode cX11_split 22 = .ok (.ireturn, 1) := by decide +kernel
theorem dX11_split_23 : decode cX11_split 23 = .ok (.aload_n 0, 1) := by decide +kernel
theorem dX11_split_24 : decode cX11_split 24 = .ok (.getfield 94, 3) := by decide +kernel
theorem dX11_split_27 : decode cX11_split 27 = .ok (.aload_n 0, 1) := by decide +kernel
theorem dX11_split_28 : decode cX11_split 28 = .ok (.getfield 15, 3) := by decide +kernel
theorem dX11_split_31 : decode cX11_split 31 = .ok (.iload_n 1, 1) := by decide +kernel
theorem dX11_split_32 : decode cX11_split 32 = .ok (.aaload, 1) := by decide +kernel
theorem dX11_split_33 : decode cX11_split 33 = .ok (.iload_n 2, 1) := by decide +kernel
theorem dX11_split_34 : decode cX11_split 34 = .ok (.iload_n 3, 1) := by decide +kernel
theorem dX11_split_35 : decode cX11_split 35 = .ok (.invokevirtual 403, 3) := by decide +kernel
theorem dX11_split_38 : decode cX11_split 38 = .ok (.aload_n 0, 1) := by decide +kernel
theorem dX11_split_39 : decode cX11_split 39 = .ok (.aload_n 0, 1) := by decide +kernel
theorem dX11_split_40 : decode cX11_split 40 = .ok (.getfield 94, 3) := by decide +kernel
theorem dX11_split_43 : decode cX11_split 43 = .ok (.invokevirtual 407, 3) := by decide +kernel
theorem dX11_split_46 : decode cX11_split 46 = .ok (.invokevirtual 187, 3) := by decide +kernel
theorem dX11_split_49 : decode cX11_split 49 = .ok (.ireturn, 1) := by decide +kernel
noncomputable def fX11_split (rf : Nat → Nat → Nat) (a0 : Nat) (x1 : Int32) (x2 : Int32) (x3 : Int32) (x4 : Int32) (μ0 : o_Mem) : Option (Int32 × o_Mem) :=
  o_bd (fX11_splitStatus rf a0 x1 x2 x3 x4 μ0) fun r1 μ1 =>
  if r1 = 0 then (
    o_ck (0 ≤ (x1).toInt ∧ (x1).toInt < 4) <|
    o_bd (fX5_splitBy rf (rf a0 17) (rf (rf a0 3) x1.toNatClampNeg) x2 x3 μ1) fun _u μ2 =>
    o_bd (fX5_splits rf (rf a0 17) μ2) fun r2 μ3 =>
    o_bd (fX11_gives rf a0 r2 μ3) fun r3 μ4 =>
    some (r3, μ4))
  else (
    o_bd (fX11_refuses rf a0 r1 μ1) fun r4 μ5 =>
    some (r4, μ5))
set_option maxRecDepth 20000 in
theorem dnX11_split {X : o_Cx} (hX : o_ok X) {d : Nat} {a0 : Nat} {x1 : Int32} {x2 : Int32} {x3 : Int32} {x4 : Int32} {μ0 : o_Mem} {q : Int32 → o_Mem → Prop} (h0 : o_is X a0 (.inl 11)) (h : o_Post (fX11_split (o_rf X) a0 x1 x2 x3 x4 μ0) q) : o_Ev X (d + 4) mX11_split 0 [some (.ref (o_ad X a0)), some (.int x1), some (.int x2), some (.int x3), some (.int x4), none] [] μ0 (o_QI q) := by
  unfold fX11_split at h
  refine s_aload_n (i := 0) dX11_split_0 rfl rfl ?_
  refine s_iload_n (i := 1) dX11_split_1 rfl rfl ?_
  refine s_iload_n (i := 2) dX11_split_2 rfl rfl ?_
  refine s_iload_n (i := 3) dX11_split_3 rfl rfl ?_
  refine s_iload dX11_split_4 rfl ?_
  refine s_callVi (C := mX11_splitStatus) (As := [.int x1, .int x2, .int x3, .int x4]) (rest := []) (L0 := [some (.ref (o_ad X a0)), some (.int x1), some (.int x2), some (.int x3), some (.int x4), none, none, none, none, none]) hX h0 clX11_400 dX11_split_6 rfl rfl (Nat.le_of_ble_eq_true rfl) (Nat.le_of_ble_eq_true rfl) (dnX11_splitStatus hX h0 (o_bdp h)) (fun r1 μ1 h => ?_)
  refine s_istore dX11_split_9 (Nat.le_of_ble_eq_true rfl) rfl ?_
  refine s_iload dX11_split_11 rfl ?_
  refine s_if_eq (tgt := 23) dX11_split_13 rfl (fun c1 => ?_) (fun c1 => ?_)
  · have h := o_if_t c1 h
    refine s_aload_n (i := 0) dX11_split_23 rfl rfl ?_
    refine s_getR hX h0 flX11_94 rfl dX11_split_24 (fun (g1 : o_is X (o_rf X a0 17) (.inl 5)) => ?_)
    refine s_aload_n (i := 0) dX11_split_27 rfl rfl ?_
    refine s_getR hX h0 flX11_15 rfl dX11_split_28 (fun (g2 : o_is X (o_rf X a0 3) (.inr (3, 4))) => ?_)
    refine s_iload_n (i := 1) dX11_split_31 rfl rfl ?_
    have hc := o_ck_c h
    have h := o_ck_k h
    refine s_aaldK hX g2 (by decide) rfl hc rfl dX11_split_32 (fun (g3 : o_is X (o_rf X (o_rf X a0 3) x1.toNatClampNeg) (.inl 7)) => ?_)
    refine s_iload_n (i := 2) dX11_split_33 rfl rfl ?_
    refine s_iload_n (i := 3) dX11_split_34 rfl rfl ?_
    refine s_callVu (C := mX5_splitBy) (As := [.ref (o_ad X (o_rf X (o_rf X a0 3) x1.toNatClampNeg)), .int x2, .int x3]) (rest := []) (L0 := [some (.ref (o_ad X (o_rf X a0 17))), some (.ref (o_ad X (o_rf X (o_rf X a0 3) x1.toNatClampNeg))), some (.int x2), some (.int x3), none, none]) hX g1 clX11_403 dX11_split_35 rfl rfl (Nat.le_of_ble_eq_true rfl) (Nat.le_of_ble_eq_true rfl) (dnX5_splitBy hX g1 g3 (o_bdp h)) (fun _u μ2 h => ?_)
    refine s_aload_n (i := 0) dX11_split_38 rfl rfl ?_
    refine s_aload_n (i := 0) dX11_split_39 rfl rfl ?_
    refine s_getR hX h0 flX11_94 rfl dX11_split_40 (fun (g4 : o_is X (o_rf X a0 17) (.inl 5)) => ?_)
    refine s_callVi (C := mX5_splits) (As := []) (rest := [.ref (o_ad X a0)]) (L0 := [some (.ref (o_ad X (o_rf X a0 17)))]) hX g4 clX11_407 dX11_split_43 rfl rfl (Nat.le_of_ble_eq_true rfl) (Nat.le_of_ble_eq_true rfl) (dnX5_splits hX g4 (o_bdp h)) (fun r2 μ3 h => ?_)
    refine s_callVi (C := mX11_gives) (As := [.int r2]) (rest := []) (L0 := [some (.ref (o_ad X a0)), some (.int r2)]) hX h0 clX11_187 dX11_split_46 rfl rfl (Nat.le_of_ble_eq_true rfl) (Nat.le_of_ble_eq_true rfl) (dnX11_gives hX h0 (o_bdp h)) (fun r3 μ4 h => ?_)
    exact s_ireturn rfl dX11_split_49 ⟨_, rfl, o_ret h⟩
  · have h := o_if_f c1 h
    refine s_aload_n (i := 0) dX11_split_16 rfl rfl ?_
    refine s_iload dX11_split_17 rfl ?_
    refine s_callVi (C := mX11_refuses) (As := [.int r1]) (rest := []) (L0 := [some (.ref (o_ad X a0)), some (.int r1)]) hX h0 clX11_139 dX11_split_19 rfl rfl (Nat.le_of_ble_eq_true rfl) (Nat.le_of_ble_eq_true rfl) (dnX11_refuses hX h0 (o_bdp h)) (fun r4 μ5 h => ?_)
    exact s_ireturn rfl dX11_split_22 ⟨_, rfl, o_ret h⟩
theorem dX11_splitNext_0 : decode cX11_splitNext 0 = .ok (.aload_n 0, 1) := by decide +kernel
theorem dX11_splitNext_1 : decode cX11_splitNext 1 = .ok (.iload_n 1, 1) := by decide +kernel
theorem dX11_splitNext_2 : decode cX11_splitNext 2 = .ok (.iload_n 2, 1) := by decide +kernel
theorem dX11_splitNext_3 : decode cX11_splitNext 3 = .ok (.iload_n 3, 1) := by decide +kernel
theorem dX11_splitNext_4 : decode cX11_splitNext 4 = .ok (.iload 4, 2) := by decide +kernel
theorem dX11_splitNext_6 : decode cX11_splitNext 6 = .ok (.invokevirtual 400, 3) := by decide +kernel
theorem dX11_splitNext_9 : decode cX11_splitNext 9 = .ok (.istore 5, 2) := by decide +kernel
theorem dX11_splitNext_11 : decode cX11_splitNext 11 = .ok (.iload 5, 2) := by decide +kernel
theorem dX11_splitNext_13 : decode cX11_splitNext 13 = .ok (.ifCond .eq 10, 3) := by decide +kernel
theorem dX11_splitNext_16 : decode cX11_splitNext 16 = .ok (.aload_n 0, 1) := by decide +kernel
theorem dX11_splitNext_17 : decode cX11_splitNext 17 = .ok (.iload 5, 2) := by decide +kernel
theorem dX11_splitNext_19 : decode cX11_splitNext 19 = .ok (.invokevirtual 139, 3) := by decide +kernel
theorem dX11_splitNext_22 : decode cX11_splitNext 22 = .ok (.ireturn, 1) := by decide +kernel
theorem dX11_splitNext_23 : decode cX11_splitNext 23 = .ok (.aload_n 0, 1) := by decide +kernel
theorem dX11_splitNext_24 : decode cX11_splitNext 24 = .ok (.getfield 94, 3) := by decide +kernel
theorem dX11_splitNext_27 : decode cX11_splitNext 27 = .ok (.aload_n 0, 1) := by decide +kernel
theorem dX11_splitNext_28 : decode cX11_splitNext 28 = .ok (.getfield 15, 3) := by decide +kernel
theorem dX11_splitNext_31 : decode cX11_splitNext 31 = .ok (.iload_n 1, 1) := by decide +kernel
theorem dX11_splitNext_32 : decode cX11_splitNext 32 = .ok (.aaload, 1) := by decide +kernel
theorem dX11_splitNext_33 : decode cX11_splitNext 33 = .ok (.iload_n 2, 1) := by decide +kernel
theorem dX11_splitNext_34 : decode cX11_splitNext 34 = .ok (.iload_n 3, 1) := by decide +kernel
theorem dX11_splitNext_35 : decode cX11_splitNext 35 = .ok (.invokevirtual 403, 3) := by decide +kernel
theorem dX11_splitNext_38 : decode cX11_splitNext 38 = .ok (.aload_n 0, 1) := by decide +kernel
theorem dX11_splitNext_39 : decode cX11_splitNext 39 = .ok (.getfield 94, 3) := by decide +kernel
theorem dX11_splitNext_42 : decode cX11_splitNext 42 = .ok (.invokevirtual 407, 3) := by decide +kernel
theorem dX11_splitNext_45 : decode cX11_splitNext 45 = .ok (.iconst 2, 1) := by decide +kernel
theorem dX11_splitNext_46 : decode cX11_splitNext 46 = .ok (.if_icmp .ge 12, 3) := by decide +kernel
theorem dX11_splitNext_49 : decode cX11_splitNext 49 = .ok (.aload_n 0, 1) := by decide +kernel
theorem dX11_splitNext_50 : decode cX11_splitNext 50 = .ok (.bipush 6, 2) := by decide +kernel
theorem dX11_splitNext_52 : decode cX11_splitNext 52 = .ok (.invokevirtual 139, 3) := by decide +kernel
theorem dX11_splitNext_55 : decode cX11_splitNext 55 = .ok (.goto 14, 3) := by decide +kernel
theorem dX11_splitNext_58 : decode cX11_splitNext 58 = .ok (.aload_n 0, 1) := by decide +kernel
theorem dX11_splitNext_59 : decode cX11_splitNext 59 = .ok (.aload_n 0, 1) := by decide +kernel
theorem dX11_splitNext_60 : decode cX11_splitNext 60 = .ok (.getfield 94, 3) := by decide +kernel
theorem dX11_splitNext_63 : decode cX11_splitNext 63 = .ok (.invokevirtual 410, 3) := by decide +kernel
theorem dX11_splitNext_66 : decode cX11_splitNext 66 = .ok (.invokevirtual 187, 3) := by decide +kernel
theorem dX11_splitNext_69 : decode cX11_splitNext 69 = .ok (.ireturn, 1) := by decide +kernel
noncomputable def fX11_splitNext (rf : Nat → Nat → Nat) (a0 : Nat) (x1 : Int32) (x2 : Int32) (x3 : Int32) (x4 : Int32) (μ0 : o_Mem) : Option (Int32 × o_Mem) :=
  o_bd (fX11_splitStatus rf a0 x1 x2 x3 x4 μ0) fun r1 μ1 =>
  if r1 = 0 then (
    o_ck (0 ≤ (x1).toInt ∧ (x1).toInt < 4) <|
    o_bd (fX5_splitBy rf (rf a0 17) (rf (rf a0 3) x1.toNatClampNeg) x2 x3 μ1) fun _u μ2 =>
    o_bd (fX5_splits rf (rf a0 17) μ2) fun r2 μ3 =>
    if 2 ≤ r2 then (
      o_bd (fX5_bestSplit rf (rf a0 17) μ3) fun r3 μ4 =>
      o_bd (fX11_gives rf a0 r3 μ4) fun r4 μ5 =>
      some (r4, μ5))
    else (
      o_bd (fX11_refuses rf a0 6 μ3) fun r5 μ6 =>
      some (r5, μ6)))
  else (
    o_bd (fX11_refuses rf a0 r1 μ1) fun r6 μ7 =>
    some (r6, μ7))
set_option maxRecDepth 20000 in
theorem dnX11_splitNext {X : o_Cx} (hX : o_ok X) {d : Nat} {a0 : Nat} {x1 : Int32} {x2 : Int32} {x3 : Int32} {x4 : Int32} {μ0 : o_Mem} {q : Int32 → o_Mem → Prop} (h0 : o_is X a0 (.inl 11)) (h : o_Post (fX11_splitNext (o_rf X) a0 x1 x2 x3 x4 μ0) q) : o_Ev X (d + 4) mX11_splitNext 0 [some (.ref (o_ad X a0)), some (.int x1), some (.int x2), some (.int x3), some (.int x4), none] [] μ0 (o_QI q) := by
  unfold fX11_splitNext at h
  refine s_aload_n (i := 0) dX11_splitNext_0 rfl rfl ?_
  refine s_iload_n (i := 1) dX11_splitNext_1 rfl rfl ?_
  refine s_iload_n (i := 2) dX11_splitNext_2 rfl rfl ?_
  refine s_iload_n (i := 3) dX11_splitNext_3 rfl rfl ?_
  refine s_iload dX11_splitNext_4 rfl ?_
  refine s_callVi (C := mX11_splitStatus) (As := [.int x1, .int x2, .int x3, .int x4]) (rest := []) (L0 := [some (.ref (o_ad X a0)), some (.int x1), some (.int x2), some (.int x3), some (.int x4), none, none, none, none, none]) hX h0 clX11_400 dX11_splitNext_6 rfl rfl (Nat.le_of_ble_eq_true rfl) (Nat.le_of_ble_eq_true rfl) (dnX11_splitStatus hX h0 (o_bdp h)) (fun r1 μ1 h => ?_)
  refine s_istore dX11_splitNext_9 (Nat.le_of_ble_eq_true rfl) rfl ?_
  refine s_iload dX11_splitNext_11 rfl ?_
  refine s_if_eq (tgt := 23) dX11_splitNext_13 rfl (fun c1 => ?_) (fun c1 => ?_)
  · have h := o_if_t c1 h
    refine s_aload_n (i := 0) dX11_splitNext_23 rfl rfl ?_
    refine s_getR hX h0 flX11_94 rfl dX11_splitNext_24 (fun (g1 : o_is X (o_rf X a0 17) (.inl 5)) => ?_)
    refine s_aload_n (i := 0) dX11_splitNext_27 rfl rfl ?_
    refine s_getR hX h0 flX11_15 rfl dX11_splitNext_28 (fun (g2 : o_is X (o_rf X a0 3) (.inr (3, 4))) => ?_)
    refine s_iload_n (i := 1) dX11_splitNext_31 rfl rfl ?_
    have hc := o_ck_c h
    have h := o_ck_k h
    refine s_aaldK hX g2 (by decide) rfl hc rfl dX11_splitNext_32 (fun (g3 : o_is X (o_rf X (o_rf X a0 3) x1.toNatClampNeg) (.inl 7)) => ?_)
    refine s_iload_n (i := 2) dX11_splitNext_33 rfl rfl ?_
    refine s_iload_n (i := 3) dX11_splitNext_34 rfl rfl ?_
    refine s_callVu (C := mX5_splitBy) (As := [.ref (o_ad X (o_rf X (o_rf X a0 3) x1.toNatClampNeg)), .int x2, .int x3]) (rest := []) (L0 := [some (.ref (o_ad X (o_rf X a0 17))), some (.ref (o_ad X (o_rf X (o_rf X a0 3) x1.toNatClampNeg))), some (.int x2), some (.int x3), none, none]) hX g1 clX11_403 dX11_splitNext_35 rfl rfl (Nat.le_of_ble_eq_true rfl) (Nat.le_of_ble_eq_true rfl) (dnX5_splitBy hX g1 g3 (o_bdp h)) (fun _u μ2 h => ?_)
    refine s_aload_n (i := 0) dX11_splitNext_38 rfl rfl ?_
    refine s_getR hX h0 flX11_94 rfl dX11_splitNext_39 (fun (g4 : o_is X (o_rf X a0 17) (.inl 5)) => ?_)
    refine s_callVi (C := mX5_splits) (As := []) (rest := []) (L0 := [some (.ref (o_ad X (o_rf X a0 17)))]) hX g4 clX11_407 dX11_splitNext_42 rfl rfl (Nat.le_of_ble_eq_true rfl) (Nat.le_of_ble_eq_true rfl) (dnX5_splits hX g4 (o_bdp h)) (fun r2 μ3 h => ?_)
    refine s_iconst dX11_splitNext_45 kI_2 ?_
    refine s_icmp_ge (tgt := 58) dX11_splitNext_46 rfl (fun c1 => ?_) (fun c1 => ?_)
    · have h := o_if_t c1 h
      refine s_aload_n (i := 0) dX11_splitNext_58 rfl rfl ?_
      refine s_aload_n (i := 0) dX11_splitNext_59 rfl rfl ?_
      refine s_getR hX h0 flX11_94 rfl dX11_splitNext_60 (fun (g5 : o_is X (o_rf X a0 17) (.inl 5)) => ?_)
      refine s_callVi (C := mX5_bestSplit) (As := []) (rest := [.ref (o_ad X a0)]) (L0 := [some (.ref (o_ad X (o_rf X a0 17))), none, none, none, none, none]) hX g5 clX11_410 dX11_splitNext_63 rfl rfl (Nat.le_of_ble_eq_true rfl) (Nat.le_of_ble_eq_true rfl) (dnX5_bestSplit hX g5 (o_bdp h)) (fun r3 μ4 h => ?_)
      refine s_callVi (C := mX11_gives) (As := [.int r3]) (rest := []) (L0 := [some (.ref (o_ad X a0)), some (.int r3)]) hX h0 clX11_187 dX11_splitNext_66 rfl rfl (Nat.le_of_ble_eq_true rfl) (Nat.le_of_ble_eq_true rfl) (dnX11_gives hX h0 (o_bdp h)) (fun r4 μ5 h => ?_)
      exact s_ireturn rfl dX11_splitNext_69 ⟨_, rfl, o_ret h⟩
    · have h := o_if_f c1 h
      refine s_aload_n (i := 0) dX11_splitNext_49 rfl rfl ?_
      refine s_bipush dX11_splitNext_50 kB_6 ?_
      refine s_callVi (C := mX11_refuses) (As := [.int 6]) (rest := []) (L0 := [some (.ref (o_ad X a0)), some (.int 6)]) hX h0 clX11_139 dX11_splitNext_52 rfl rfl (Nat.le_of_ble_eq_true rfl) (Nat.le_of_ble_eq_true rfl) (dnX11_refuses hX h0 (o_bdp h)) (fun r5 μ6 h => ?_)
      refine s_goto (tgt := 69) dX11_splitNext_55 rfl ?_
      exact s_ireturn rfl dX11_splitNext_69 ⟨_, rfl, o_ret h⟩
  · have h := o_if_f c1 h
    refine s_aload_n (i := 0) dX11_splitNext_16 rfl rfl ?_
    refine s_iload dX11_splitNext_17 rfl ?_
    refine s_callVi (C := mX11_refuses) (As := [.int r1]) (rest := []) (L0 := [some (.ref (o_ad X a0)), some (.int r1)]) hX h0 clX11_139 dX11_splitNext_19 rfl rfl (Nat.le_of_ble_eq_true rfl) (Nat.le_of_ble_eq_true rfl) (dnX11_refuses hX h0 (o_bdp h)) (fun r6 μ7 h => ?_)
    exact s_ireturn rfl dX11_splitNext_22 ⟨_, rfl, o_ret h⟩
theorem dJ6_bitCount_0f7a4_0 : decode cJ6_bitCount_0f7a4 0 = .ok (.iload_n 0, 1) := by decide +kernel
theorem dJ6_bitCount_0f7a4_1 : decode cJ6_bitCount_0f7a4 1 = .ok (.iload_n 0, 1) := by decide +kernel
theorem dJ6_bitCount_0f7a4_2 : decode cJ6_bitCount_0f7a4 2 = .ok (.iconst 1, 1) := by decide +kernel
theorem dJ6_bitCount_0f7a4_3 : decode cJ6_bitCount_0f7a4 3 = .ok (.iushr, 1) := by decide +kernel
theorem dJ6_bitCount_0f7a4_4 : decode cJ6_bitCount_0f7a4 4 = .ok (.ldc_w 265, 3) := by decide +kernel
theorem dJ6_bitCount_0f7a4_7 : decode cJ6_bitCount_0f7a4 7 = .ok (.iand, 1) := by decide +kernel
theorem dJ6_bitCount_0f7a4_8 : decode cJ6_bitCount_0f7a4 8 = .ok (.isub, 1) := by decide +kernel
theorem dJ6_bitCount_0f7a4_9 : decode cJ6_bitCount_0f7a4 9 = .ok (.istore_n 0, 1) := by decide +kernel
theorem dJ6_bitCount_0f7a4_10 : decode cJ6_bitCount_0f7a4 10 = .ok (.iload_n 0, 1) := by decide +kernel
theorem dJ6_bitCount_0f7a4_11 : decode cJ6_bitCount_0f7a4 11 = .ok (.ldc_w 266, 3) := by decide +kernel
theorem dJ6_bitCount_0f7a4_14 : decode cJ6_bitCount_0f7a4 14 = .ok (.iand, 1) := by decide +kernel
theorem dJ6_bitCount_0f7a4_15 : decode cJ6_bitCount_0f7a4 15 = .ok (.iload_n 0, 1) := by decide +kernel
theorem dJ6_bitCount_0f7a4_16 : decode cJ6_bitCount_0f7a4 16 = .ok (.iconst 2, 1) := by decide +kernel
theorem dJ6_bitCount_0f7a4_17 : decode cJ6_bitCount_0f7a4 17 = .ok (.iushr, 1) := by decide +kernel
theorem dJ6_bitCount_0f7a4_18 : decode cJ6_bitCount_0f7a4 18 = .ok (.ldc_w 266, 3) := by decide +kernel
theorem dJ6_bitCount_0f7a4_21 : decode cJ6_bitCount_0f7a4 21 = .ok (.iand, 1) := by decide +kernel
theorem dJ6_bitCount_0f7a4_22 : decode cJ6_bitCount_0f7a4 22 = .ok (.iadd, 1) := by decide +kernel
theorem dJ6_bitCount_0f7a4_23 : decode cJ6_bitCount_0f7a4 23 = .ok (.istore_n 0, 1) := by decide +kernel
theorem dJ6_bitCount_0f7a4_24 : decode cJ6_bitCount_0f7a4 24 = .ok (.iload_n 0, 1) := by decide +kernel
theorem dJ6_bitCount_0f7a4_25 : decode cJ6_bitCount_0f7a4 25 = .ok (.iload_n 0, 1) := by decide +kernel
theorem dJ6_bitCount_0f7a4_26 : decode cJ6_bitCount_0f7a4 26 = .ok (.iconst 4, 1) := by decide +kernel
theorem dJ6_bitCount_0f7a4_27 : decode cJ6_bitCount_0f7a4 27 = .ok (.iushr, 1) := by decide +kernel
theorem dJ6_bitCount_0f7a4_28 : decode cJ6_bitCount_0f7a4 28 = .ok (.iadd, 1) := by decide +kernel
theorem dJ6_bitCount_0f7a4_29 : decode cJ6_bitCount_0f7a4 29 = .ok (.ldc_w 267, 3) := by decide +kernel
theorem dJ6_bitCount_0f7a4_32 : decode cJ6_bitCount_0f7a4 32 = .ok (.iand, 1) := by decide +kernel
theorem dJ6_bitCount_0f7a4_33 : decode cJ6_bitCount_0f7a4 33 = .ok (.istore_n 0, 1) := by decide +kernel
theorem dJ6_bitCount_0f7a4_34 : decode cJ6_bitCount_0f7a4 34 = .ok (.iload_n 0, 1) := by decide +kernel
theorem dJ6_bitCount_0f7a4_35 : decode cJ6_bitCount_0f7a4 35 = .ok (.iload_n 0, 1) := by decide +kernel
theorem dJ6_bitCount_0f7a4_36 : decode cJ6_bitCount_0f7a4 36 = .ok (.bipush 8, 2) := by decide +kernel
theorem dJ6_bitCount_0f7a4_38 : decode cJ6_bitCount_0f7a4 38 = .ok (.iushr, 1) := by decide +kernel
theorem dJ6_bitCount_0f7a4_39 : decode cJ6_bitCount_0f7a4 39 = .ok (.iadd, 1) := by decide +kernel
theorem dJ6_bitCount_0f7a4_40 : decode cJ6_bitCount_0f7a4 40 = .ok (.istore_n 0, 1) := by decide +kernel
theorem dJ6_bitCount_0f7a4_41 : decode cJ6_bitCount_0f7a4 41 = .ok (.iload_n 0, 1) := by decide +kernel
theorem dJ6_bitCount_0f7a4_42 : decode cJ6_bitCount_0f7a4 42 = .ok (.iload_n 0, 1) := by decide +kernel
theorem dJ6_bitCount_0f7a4_43 : decode cJ6_bitCount_0f7a4 43 = .ok (.bipush 16, 2) := by decide +kernel
theorem dJ6_bitCount_0f7a4_45 : decode cJ6_bitCount_0f7a4 45 = .ok (.iushr, 1) := by decide +kernel
theorem dJ6_bitCount_0f7a4_46 : decode cJ6_bitCount_0f7a4 46 = .ok (.iadd, 1) := by decide +kernel
theorem dJ6_bitCount_0f7a4_47 : decode cJ6_bitCount_0f7a4 47 = .ok (.istore_n 0, 1) := by decide +kernel
theorem dJ6_bitCount_0f7a4_48 : decode cJ6_bitCount_0f7a4 48 = .ok (.iload_n 0, 1) := by decide +kernel
theorem dJ6_bitCount_0f7a4_49 : decode cJ6_bitCount_0f7a4 49 = .ok (.bipush 63, 2) := by decide +kernel
theorem dJ6_bitCount_0f7a4_51 : decode cJ6_bitCount_0f7a4 51 = .ok (.iand, 1) := by decide +kernel
theorem dJ6_bitCount_0f7a4_52 : decode cJ6_bitCount_0f7a4 52 = .ok (.ireturn, 1) := by decide +kernel
noncomputable def fJ6_bitCount_0f7a4 (rf : Nat → Nat → Nat) (x0 : Int32) (μ0 : o_Mem) : Option (Int32 × o_Mem) :=
  some (((((((((x0 - (((x0 : Int32).toUInt32 >>> ((1 : Int32).toUInt32 &&& Int32.toUInt32 31)).toInt32 &&& 1431655765)) &&& 858993459) + ((((x0 - (((x0 : Int32).toUInt32 >>> ((1 : Int32).toUInt32 &&& Int32.toUInt32 31)).toInt32 &&& 1431655765)) : Int32).toUInt32 >>> ((2 : Int32).toUInt32 &&& Int32.toUInt32 31)).toInt32 &&& 858993459)) + (((((x0 - (((x0 : Int32).toUInt32 >>> ((1 : Int32).toUInt32 &&& Int32.toUInt32 31)).toInt32 &&& 1431655765)) &&& 858993459) + ((((x0 - (((x0 : Int32).toUInt32 >>> ((1 : Int32).toUInt32 &&& Int32.toUInt32 31)).toInt32 &&& 1431655765)) : Int32).toUInt32 >>> ((2 : Int32).toUInt32 &&& Int32.toUInt32 31)).toInt32 &&& 858993459)) : Int32).toUInt32 >>> ((4 : Int32).toUInt32 &&& Int32.toUInt32 31)).toInt32) &&& 252645135) + (((((((x0 - (((x0 : Int32).toUInt32 >>> ((1 : Int32).toUInt32 &&& Int32.toUInt32 31)).toInt32 &&& 1431655765)) &&& 858993459) + ((((x0 - (((x0 : Int32).toUInt32 >>> ((1 : Int32).toUInt32 &&& Int32.toUInt32 31)).toInt32 &&& 1431655765)) : Int32).toUInt32 >>> ((2 : Int32).toUInt32 &&& Int32.toUInt32 31)).toInt32 &&& 858993459)) + (((((x0 - (((x0 : Int32).toUInt32 >>> ((1 : Int32).toUInt32 &&& Int32.toUInt32 31)).toInt32 &&& 1431655765)) &&& 858993459) + ((((x0 - (((x0 : Int32).toUInt32 >>> ((1 : Int32).toUInt32 &&& Int32.toUInt32 31)).toInt32 &&& 1431655765)) : Int32).toUInt32 >>> ((2 : Int32).toUInt32 &&& Int32.toUInt32 31)).toInt32 &&& 858993459)) : Int32).toUInt32 >>> ((4 : Int32).toUInt32 &&& Int32.toUInt32 31)).toInt32) &&& 252645135) : Int32).toUInt32 >>> ((8 : Int32).toUInt32 &&& Int32.toUInt32 31)).toInt32) + ((((((((x0 - (((x0 : Int32).toUInt32 >>> ((1 : Int32).toUInt32 &&& Int32.toUInt32 31)).toInt32 &&& 1431655765)) &&& 858993459) + ((((x0 - (((x0 : Int32).toUInt32 >>> ((1 : Int32).toUInt32 &&& Int32.toUInt32 31)).toInt32 &&& 1431655765)) : Int32).toUInt32 >>> ((2 : Int32).toUInt32 &&& Int32.toUInt32 31)).toInt32 &&& 858993459)) + (((((x0 - (((x0 : Int32).toUInt32 >>> ((1 : Int32).toUInt32 &&& Int32.toUInt32 31)).toInt32 &&& 1431655765)) &&& 858993459) + ((((x0 - (((x0 : Int32).toUInt32 >>> ((1 : Int32).toUInt32 &&& Int32.toUInt32 31)).toInt32 &&& 1431655765)) : Int32).toUInt32 >>> ((2 : Int32).toUInt32 &&& Int32.toUInt32 31)).toInt32 &&& 858993459)) : Int32).toUInt32 >>> ((4 : Int32).toUInt32 &&& Int32.toUInt32 31)).toInt32) &&& 252645135) + (((((((x0 - (((x0 : Int32).toUInt32 >>> ((1 : Int32).toUInt32 &&& Int32.toUInt32 31)).toInt32 &&& 1431655765)) &&& 858993459) + ((((x0 - (((x0 : Int32).toUInt32 >>> ((1 : Int32).toUInt32 &&& Int32.toUInt32 31)).toInt32 &&& 1431655765)) : Int32).toUInt32 >>> ((2 : Int32).toUInt32 &&& Int32.toUInt32 31)).toInt32 &&& 858993459)) + (((((x0 - (((x0 : Int32).toUInt32 >>> ((1 : Int32).toUInt32 &&& Int32.toUInt32 31)).toInt32 &&& 1431655765)) &&& 858993459) + ((((x0 - (((x0 : Int32).toUInt32 >>> ((1 : Int32).toUInt32 &&& Int32.toUInt32 31)).toInt32 &&& 1431655765)) : Int32).toUInt32 >>> ((2 : Int32).toUInt32 &&& Int32.toUInt32 31)).toInt32 &&& 858993459)) : Int32).toUInt32 >>> ((4 : Int32).toUInt32 &&& Int32.toUInt32 31)).toInt32) &&& 252645135) : Int32).toUInt32 >>> ((8 : Int32).toUInt32 &&& Int32.toUInt32 31)).toInt32) : Int32).toUInt32 >>> ((16 : Int32).toUInt32 &&& Int32.toUInt32 31)).toInt32) &&& 63), μ0)
set_option maxRecDepth 20000 in
theorem dnJ6_bitCount_0f7a4 {X : o_Cx} (hX : o_ok X) {d : Nat} {x0 : Int32} {μ0 : o_Mem} {q : Int32 → o_Mem → Prop}  (h : o_Post (fJ6_bitCount_0f7a4 (o_rf X) x0 μ0) q) : o_Ev X (d + 0) mJ6_bitCount_0f7a4 0 [some (.int x0)] [] μ0 (o_QI q) := by
  unfold fJ6_bitCount_0f7a4 at h
  refine s_iload_n (i := 0) dJ6_bitCount_0f7a4_0 rfl rfl ?_
  refine s_iload_n (i := 0) dJ6_bitCount_0f7a4_1 rfl rfl ?_
  refine s_iconst dJ6_bitCount_0f7a4_2 kI_1 ?_
  refine s_iushr dJ6_bitCount_0f7a4_3 ?_
  refine s_ldcw (v := 1431655765) w_6_1 dJ6_bitCount_0f7a4_4 ?_
  refine s_iand dJ6_bitCount_0f7a4_7 ?_
  refine s_isub dJ6_bitCount_0f7a4_8 ?_
  refine s_istore_n (i := 0) dJ6_bitCount_0f7a4_9 rfl (Nat.le_of_ble_eq_true rfl) rfl ?_
  refine s_iload_n (i := 0) dJ6_bitCount_0f7a4_10 rfl rfl ?_
  refine s_ldcw (v := 858993459) w_6_2 dJ6_bitCount_0f7a4_11 ?_
  refine s_iand dJ6_bitCount_0f7a4_14 ?_
  refine s_iload_n (i := 0) dJ6_bitCount_0f7a4_15 rfl rfl ?_
  refine s_iconst dJ6_bitCount_0f7a4_16 kI_2 ?_
  refine s_iushr dJ6_bitCount_0f7a4_17 ?_
  refine s_ldcw (v := 858993459) w_6_2 dJ6_bitCount_0f7a4_18 ?_
  refine s_iand dJ6_bitCount_0f7a4_21 ?_
  refine s_iadd dJ6_bitCount_0f7a4_22 ?_
  refine s_istore_n (i := 0) dJ6_bitCount_0f7a4_23 rfl (Nat.le_of_ble_eq_true rfl) rfl ?_
  refine s_iload_n (i := 0) dJ6_bitCount_0f7a4_24 rfl rfl ?_
  refine s_iload_n (i := 0) dJ6_bitCount_0f7a4_25 rfl rfl ?_
  refine s_iconst dJ6_bitCount_0f7a4_26 kI_4 ?_
  refine s_iushr dJ6_bitCount_0f7a4_27 ?_
  refine s_iadd dJ6_bitCount_0f7a4_28 ?_
  refine s_ldcw (v := 252645135) w_6_3 dJ6_bitCount_0f7a4_29 ?_
  refine s_iand dJ6_bitCount_0f7a4_32 ?_
  refine s_istore_n (i := 0) dJ6_bitCount_0f7a4_33 rfl (Nat.le_of_ble_eq_true rfl) rfl ?_
  refine s_iload_n (i := 0) dJ6_bitCount_0f7a4_34 rfl rfl ?_
  refine s_iload_n (i := 0) dJ6_bitCount_0f7a4_35 rfl rfl ?_
  refine s_bipush dJ6_bitCount_0f7a4_36 kB_8 ?_
  refine s_iushr dJ6_bitCount_0f7a4_38 ?_
  refine s_iadd dJ6_bitCount_0f7a4_39 ?_
  refine s_istore_n (i := 0) dJ6_bitCount_0f7a4_40 rfl (Nat.le_of_ble_eq_true rfl) rfl ?_
  refine s_iload_n (i := 0) dJ6_bitCount_0f7a4_41 rfl rfl ?_
  refine s_iload_n (i := 0) dJ6_bitCount_0f7a4_42 rfl rfl ?_
  refine s_bipush dJ6_bitCount_0f7a4_43 kB_16 ?_
  refine s_iushr dJ6_bitCount_0f7a4_45 ?_
  refine s_iadd dJ6_bitCount_0f7a4_46 ?_
  refine s_istore_n (i := 0) dJ6_bitCount_0f7a4_47 rfl (Nat.le_of_ble_eq_true rfl) rfl ?_
  refine s_iload_n (i := 0) dJ6_bitCount_0f7a4_48 rfl rfl ?_
  refine s_bipush dJ6_bitCount_0f7a4_49 kB_63 ?_
  refine s_iand dJ6_bitCount_0f7a4_51 ?_
  exact s_ireturn rfl dJ6_bitCount_0f7a4_52 ⟨_, rfl, o_ret h⟩
theorem dX11_lawsUsed_0 : decode cX11_lawsUsed 0 = .ok (.iconst 0, 1) := by decide +kernel
theorem dX11_lawsUsed_1 : decode cX11_lawsUsed 1 = .ok (.istore_n 1, 1) := by decide +kernel
theorem dX11_lawsUsed_2 : decode cX11_lawsUsed 2 = .ok (.iconst 0, 1) := by decide +kernel
theorem dX11_lawsUsed_3 : decode cX11_lawsUsed 3 = .ok (.istore_n 2, 1) := by decide +kernel
theorem dX11_lawsUsed_4 : decode cX11_lawsUsed 4 = .ok (.iload_n 2, 1) := by decide +kernel
theorem dX11_lawsUsed_5 : decode cX11_lawsUsed 5 = .ok (.aload_n 0, 1) := by decide +kernel
theorem dX11_lawsUsed_6 : decode cX11_lawsUsed 6 = .ok (.getfield 23, 3) := by decide +kernel
theorem dX11_lawsUsed_9 : decode cX11_lawsUsed 9 = .ok (.getfield 219, 3) := by decide +kernel
theorem dX11_lawsUsed_12 : decode cX11_lawsUsed 12 = .ok (.getfield 216, 3) := by decide +kernel
theorem dX11_lawsUsed_15 : decode cX11_lawsUsed 15 = .ok (.if_icmp .ge 76, 3) := by decide +kernel
theorem dX11_lawsUsed_18 : decode cX11_lawsUsed 18 = .ok (.aload_n 0, 1) := by decide +kernel
theorem dX11_lawsUsed_19 : decode cX11_lawsUsed 19 = .ok (.getfield 23, 3) := by decide +kernel
theorem dX11_lawsUsed_22 : decode cX11_lawsUsed 22 = .ok (.aload_n 0, 1) := by decide +kernel
theorem dX11_lawsUsed_23 : decode cX11_lawsUsed 23 = .ok (.getfield 23, 3) := by decide +kernel
theorem dX11_lawsUsed_26 : decode cX11_lawsUsed 26 = .ok (.getfield 219, 3) := by decide +kernel
theorem dX11_lawsUsed_29 : decode cX11_lawsUsed 29 = .ok (.getfield 413, 3) := by decide +kernel
theorem dX11_lawsUsed_32 : decode cX11_lawsUsed 32 = .ok (.iload_n 2, 1) := by decide +kernel
theorem dX11_lawsUsed_33 : decode cX11_lawsUsed 33 = .ok (.iaload, 1) := by decide +kernel
theorem dX11_lawsUsed_34 : decode cX11_lawsUsed 34 = .ok (.aload_n 0, 1) := by decide +kernel
theorem dX11_lawsUsed_35 : decode cX11_lawsUsed 35 = .ok (.getfield 23, 3) := by decide +kernel
theorem dX11_lawsUsed_38 : decode cX11_lawsUsed 38 = .ok (.getfield 219, 3) := by decide +kernel
theorem dX11_lawsUsed_41 : decode cX11_lawsUsed 41 = .ok (.getfield 416, 3) := by decide +kernel
theorem dX11_lawsUsed_44 : decode cX11_lawsUsed 44 = .ok (.iload_n 2, 1) := by decide +kernel
theorem dX11_lawsUsed_45 : decode cX11_lawsUsed 45 = .ok (.iaload, 1) := by decide +kernel
theorem dX11_lawsUsed_46 : decode cX11_lawsUsed 46 = .ok (.aload_n 0, 1) := by decide +kernel
theorem dX11_lawsUsed_47 : decode cX11_lawsUsed 47 = .ok (.getfield 23, 3) := by decide +kernel
theorem dX11_lawsUsed_50 : decode cX11_lawsUsed 50 = .ok (.getfield 219, 3) := by decide +kernel
theorem dX11_lawsUsed_53 : decode cX11_lawsUsed 53 = .ok (.getfield 304, 3) := by decide +kernel
theorem dX11_lawsUsed_56 : decode cX11_lawsUsed 56 = .ok (.iload_n 2, 1) := by decide +kernel
theorem dX11_lawsUsed_57 : decode cX11_lawsUsed 57 = .ok (.iaload, 1) := by decide +kernel
theorem dX11_lawsUsed_58 : decode cX11_lawsUsed 58 = .ok (.aload_n 0, 1) := by decide +kernel
theorem dX11_lawsUsed_59 : decode cX11_lawsUsed 59 = .ok (.getfield 23, 3) := by decide +kernel
theorem dX11_lawsUsed_62 : decode cX11_lawsUsed 62 = .ok (.getfield 219, 3) := by decide +kernel
theorem dX11_lawsUsed_65 : decode cX11_lawsUsed 65 = .ok (.getfield 419, 3) := by decide +kernel
theorem dX11_lawsUsed_68 : decode cX11_lawsUsed 68 = .ok (.iload_n 2, 1) := by decide +kernel
theorem dX11_lawsUsed_69 : decode cX11_lawsUsed 69 = .ok (.iaload, 1) := by decide +kernel
theorem dX11_lawsUsed_70 : decode cX11_lawsUsed 70 = .ok (.invokevirtual 319, 3) := by decide +kernel
theorem dX11_lawsUsed_73 : decode cX11_lawsUsed 73 = .ok (.istore_n 3, 1) := by decide +kernel
theorem dX11_lawsUsed_74 : decode cX11_lawsUsed 74 = .ok (.iload_n 3, 1) := by decide +kernel
theorem dX11_lawsUsed_75 : decode cX11_lawsUsed 75 = .ok (.iconst (-1), 1) := by decide +kernel
theorem dX11_lawsUsed_76 : decode cX11_lawsUsed 76 = .ok (.if_icmp .eq 9, 3) := by decide +kernel
theorem dX11_lawsUsed_79 : decode cX11_lawsUsed 79 = .ok (.iload_n 1, 1) := by decide +kernel
theorem dX11_lawsUsed_80 : decode cX11_lawsUsed 80 = .ok (.iconst 1, 1) := by decide +kernel
theorem dX11_lawsUsed_81 : decode cX11_lawsUsed 81 = .ok (.iload_n 3, 1) := by decide +kernel
theorem dX11_lawsUsed_82 : decode cX11_lawsUsed 82 = .ok (.ishl, 1) := by decide +kernel
theorem dX11_lawsUsed_83 : decode cX11_lawsUsed 83 = .ok (.ior, 1) := by decide +kernel
theorem dX11_lawsUsed_84 : decode cX11_lawsUsed 84 = .ok (.istore_n 1, 1) := by decide +kernel
theorem dX11_lawsUsed_85 : decode cX11_lawsUsed 85 = .ok (.iinc 2 1, 3) := by decide +kernel
theorem dX11_lawsUsed_88 : decode cX11_lawsUsed 88 = .ok (.goto (-84), 3) := by decide +kernel
theorem dX11_lawsUsed_91 : decode cX11_lawsUsed 91 = .ok (.aload_n 0, 1) := by decide +kernel
theorem dX11_lawsUsed_92 : decode cX11_lawsUsed 92 = .ok (.iload_n 1, 1) := by decide +kernel
theorem dX11_lawsUsed_93 : decode cX11_lawsUsed 93 = .ok (.invokestatic 422, 3) := by decide +kernel
theorem dX11_lawsUsed_96 : decode cX11_lawsUsed 96 = .ok (.invokevirtual 187, 3) := by decide +kernel
theorem dX11_lawsUsed_99 : decode cX11_lawsUsed 99 = .ok (.ireturn, 1) := by decide +kernel
noncomputable def fX11_lawsUsed_s4 (rf : Nat → Nat → Nat) (a0 : Nat) (τ4 : Int32 × Int32) (μ0 : o_Mem) : Option ((Nat × (Int32 × Int32)) × o_Mem) :=
  if (μ0.1 (rf (rf a0 4) 16) 0) ≤ τ4.2 then (
    some ((91, (τ4.1, 0)), μ0))
  else (
    o_ck (0 ≤ (τ4.2).toInt ∧ (τ4.2).toInt < 12) <|
    o_ck (0 ≤ (τ4.2).toInt ∧ (τ4.2).toInt < 12) <|
    o_ck (0 ≤ (τ4.2).toInt ∧ (τ4.2).toInt < 12) <|
    o_ck (0 ≤ (τ4.2).toInt ∧ (τ4.2).toInt < 12) <|
    o_bd (fX8_firstFit rf (rf a0 4) (μ0.1 (rf (rf (rf a0 4) 16) 1) (τ4.2).toNatClampNeg) (μ0.1 (rf (rf (rf a0 4) 16) 2) (τ4.2).toNatClampNeg) (μ0.1 (rf (rf (rf a0 4) 16) 3) (τ4.2).toNatClampNeg) (μ0.1 (rf (rf (rf a0 4) 16) 4) (τ4.2).toNatClampNeg) μ0) fun r1 μ1 =>
    if r1 = (-1) then (
      some ((4, (τ4.1, (τ4.2 + 1))), μ1))
    else (
      some ((4, ((τ4.1 ||| (1 <<< (r1 &&& 31))), (τ4.2 + 1))), μ1)))
noncomputable def fX11_lawsUsed (rf : Nat → Nat → Nat) (a0 : Nat) (μ0 : o_Mem) : Option (Int32 × o_Mem) :=
  o_bd (o_lp 4 (fX11_lawsUsed_s4 rf a0) o_fuel (0, 0) μ0) fun ex1 μ1 =>
  if ex1.1 = 91 then (
    o_bd (fJ6_bitCount_0f7a4 rf ex1.2.1 μ1) fun r1 μ2 =>
    o_bd (fX11_gives rf a0 r1 μ2) fun r2 μ3 =>
    some (r2, μ3))
  else
    none
set_option maxRecDepth 20000 in
theorem dnX11_lawsUsed_s4 {X : o_Cx} (hX : o_ok X) {d : Nat} {a0 : Nat} {τ4 : Int32 × Int32} {μ0 : o_Mem} {K : (Nat × (Int32 × Int32)) → o_Mem → Prop} {Q : Option Value → o_Mem → Prop} (h0 : o_is X a0 (.inl 11)) (h : o_Post (fX11_lawsUsed_s4 (o_rf X) a0 τ4 μ0) K) (kh : ∀ (τ4 : Int32 × Int32) (μ : o_Mem), K (4, τ4) μ → o_Ev X (d + 2) mX11_lawsUsed 4 [some (.ref (o_ad X a0)), some (.int τ4.1), some (.int τ4.2), none] [] μ Q) (k91 : ∀ (τ4 : Int32 × Int32) (μ : o_Mem), K (91, τ4) μ → o_Ev X (d + 2) mX11_lawsUsed 91 [some (.ref (o_ad X a0)), some (.int τ4.1), none, none] [] μ Q) : o_Ev X (d + 2) mX11_lawsUsed 4 [some (.ref (o_ad X a0)), some (.int τ4.1), some (.int τ4.2), none] [] μ0 Q := by
  unfold fX11_lawsUsed_s4 at h
  refine s_iload_n (i := 2) dX11_lawsUsed_4 rfl rfl ?_
  refine s_aload_n (i := 0) dX11_lawsUsed_5 rfl rfl ?_
  refine s_getR hX h0 flX11_23 rfl dX11_lawsUsed_6 (fun (g1 : o_is X (o_rf X a0 4) (.inl 8)) => ?_)
  refine s_getR hX g1 flX11_219 rfl dX11_lawsUsed_9 (fun (g2 : o_is X (o_rf X (o_rf X a0 4) 16) (.inl 1)) => ?_)
  refine s_getI g2 flX11_216 rfl dX11_lawsUsed_12 ?_
  refine s_icmp_ge (tgt := 91) dX11_lawsUsed_15 rfl (fun c1 => ?_) (fun c1 => ?_)
  · have h := o_if_t c1 h
    refine s_mask [true, true, false, false] (L' := [some (.ref (o_ad X a0)), some (.int τ4.1), none, none]) rfl ?_
    exact k91 (τ4.1, 0) _ (o_ret h)
  · have h := o_if_f c1 h
    refine s_aload_n (i := 0) dX11_lawsUsed_18 rfl rfl ?_
    refine s_getR hX h0 flX11_23 rfl dX11_lawsUsed_19 (fun (g3 : o_is X (o_rf X a0 4) (.inl 8)) => ?_)
    refine s_aload_n (i := 0) dX11_lawsUsed_22 rfl rfl ?_
    refine s_getR hX h0 flX11_23 rfl dX11_lawsUsed_23 (fun (g4 : o_is X (o_rf X a0 4) (.inl 8)) => ?_)
    refine s_getR hX g4 flX11_219 rfl dX11_lawsUsed_26 (fun (g5 : o_is X (o_rf X (o_rf X a0 4) 16) (.inl 1)) => ?_)
    refine s_getR hX g5 flX11_413 rfl dX11_lawsUsed_29 (fun (g6 : o_is X (o_rf X (o_rf X (o_rf X a0 4) 16) 1) (.inr (0, 12))) => ?_)
    refine s_iload_n (i := 2) dX11_lawsUsed_32 rfl rfl ?_
    have hc := o_ck_c h
    have h := o_ck_k h
    refine s_ialdK g6 hc rfl dX11_lawsUsed_33 ?_
    refine s_aload_n (i := 0) dX11_lawsUsed_34 rfl rfl ?_
    refine s_getR hX h0 flX11_23 rfl dX11_lawsUsed_35 (fun (g7 : o_is X (o_rf X a0 4) (.inl 8)) => ?_)
    refine s_getR hX g7 flX11_219 rfl dX11_lawsUsed_38 (fun (g8 : o_is X (o_rf X (o_rf X a0 4) 16) (.inl 1)) => ?_)
    refine s_getR hX g8 flX11_416 rfl dX11_lawsUsed_41 (fun (g9 : o_is X (o_rf X (o_rf X (o_rf X a0 4) 16) 2) (.inr (0, 12))) => ?_)
    refine s_iload_n (i := 2) dX11_lawsUsed_44 rfl rfl ?_
    have hc := o_ck_c h
    have h := o_ck_k h
    refine s_ialdK g9 hc rfl dX11_lawsUsed_45 ?_
    refine s_aload_n (i := 0) dX11_lawsUsed_46 rfl rfl ?_
    refine s_getR hX h0 flX11_23 rfl dX11_lawsUsed_47 (fun (g10 : o_is X (o_rf X a0 4) (.inl 8)) => ?_)
    refine s_getR hX g10 flX11_219 rfl dX11_lawsUsed_50 (fun (g11 : o_is X (o_rf X (o_rf X a0 4) 16) (.inl 1)) => ?_)
    refine s_getR hX g11 flX11_304 rfl dX11_lawsUsed_53 (fun (g12 : o_is X (o_rf X (o_rf X (o_rf X a0 4) 16) 3) (.inr (0, 12))) => ?_)
    refine s_iload_n (i := 2) dX11_lawsUsed_56 rfl rfl ?_
    have hc := o_ck_c h
    have h := o_ck_k h
    refine s_ialdK g12 hc rfl dX11_lawsUsed_57 ?_
    refine s_aload_n (i := 0) dX11_lawsUsed_58 rfl rfl ?_
    refine s_getR hX h0 flX11_23 rfl dX11_lawsUsed_59 (fun (g13 : o_is X (o_rf X a0 4) (.inl 8)) => ?_)
    refine s_getR hX g13 flX11_219 rfl dX11_lawsUsed_62 (fun (g14 : o_is X (o_rf X (o_rf X a0 4) 16) (.inl 1)) => ?_)
    refine s_getR hX g14 flX11_419 rfl dX11_lawsUsed_65 (fun (g15 : o_is X (o_rf X (o_rf X (o_rf X a0 4) 16) 4) (.inr (0, 12))) => ?_)
    refine s_iload_n (i := 2) dX11_lawsUsed_68 rfl rfl ?_
    have hc := o_ck_c h
    have h := o_ck_k h
    refine s_ialdK g15 hc rfl dX11_lawsUsed_69 ?_
    refine s_callVi (C := mX8_firstFit) (As := [.int (μ0.1 (o_rf X (o_rf X (o_rf X a0 4) 16) 1) (τ4.2).toNatClampNeg), .int (μ0.1 (o_rf X (o_rf X (o_rf X a0 4) 16) 2) (τ4.2).toNatClampNeg), .int (μ0.1 (o_rf X (o_rf X (o_rf X a0 4) 16) 3) (τ4.2).toNatClampNeg), .int (μ0.1 (o_rf X (o_rf X (o_rf X a0 4) 16) 4) (τ4.2).toNatClampNeg)]) (rest := []) (L0 := [some (.ref (o_ad X (o_rf X a0 4))), some (.int (μ0.1 (o_rf X (o_rf X (o_rf X a0 4) 16) 1) (τ4.2).toNatClampNeg)), some (.int (μ0.1 (o_rf X (o_rf X (o_rf X a0 4) 16) 2) (τ4.2).toNatClampNeg)), some (.int (μ0.1 (o_rf X (o_rf X (o_rf X a0 4) 16) 3) (τ4.2).toNatClampNeg)), some (.int (μ0.1 (o_rf X (o_rf X (o_rf X a0 4) 16) 4) (τ4.2).toNatClampNeg)), none]) hX g3 clX11_319 dX11_lawsUsed_70 rfl rfl (Nat.le_of_ble_eq_true rfl) (Nat.le_of_ble_eq_true rfl) (dnX8_firstFit hX g3 (o_bdp h)) (fun r1 μ1 h => ?_)
    refine s_istore_n (i := 3) dX11_lawsUsed_73 rfl (Nat.le_of_ble_eq_true rfl) rfl ?_
    refine s_iload_n (i := 3) dX11_lawsUsed_74 rfl rfl ?_
    refine s_iconst dX11_lawsUsed_75 kI_m1 ?_
    refine s_icmp_eq (tgt := 85) dX11_lawsUsed_76 rfl (fun c1 => ?_) (fun c1 => ?_)
    · have h := o_if_t c1 h
      refine s_iinc (v := (τ4.2 + 1)) dX11_lawsUsed_85 rfl rfl (Nat.le_of_ble_eq_true rfl) rfl ?_
      refine s_goto (tgt := 4) dX11_lawsUsed_88 rfl ?_
      refine s_mask [true, true, true, false] (L' := [some (.ref (o_ad X a0)), some (.int τ4.1), some (.int (τ4.2 + 1)), none]) rfl ?_
      exact kh (τ4.1, (τ4.2 + 1)) _ (o_ret h)
    · have h := o_if_f c1 h
      refine s_iload_n (i := 1) dX11_lawsUsed_79 rfl rfl ?_
      refine s_iconst dX11_lawsUsed_80 kI_1 ?_
      refine s_iload_n (i := 3) dX11_lawsUsed_81 rfl rfl ?_
      refine s_ishl dX11_lawsUsed_82 ?_
      refine s_ior dX11_lawsUsed_83 ?_
      refine s_istore_n (i := 1) dX11_lawsUsed_84 rfl (Nat.le_of_ble_eq_true rfl) rfl ?_
      refine s_iinc (v := (τ4.2 + 1)) dX11_lawsUsed_85 rfl rfl (Nat.le_of_ble_eq_true rfl) rfl ?_
      refine s_goto (tgt := 4) dX11_lawsUsed_88 rfl ?_
      refine s_mask [true, true, true, false] (L' := [some (.ref (o_ad X a0)), some (.int (τ4.1 ||| (1 <<< (r1 &&& 31)))), some (.int (τ4.2 + 1)), none]) rfl ?_
      exact kh ((τ4.1 ||| (1 <<< (r1 &&& 31))), (τ4.2 + 1)) _ (o_ret h)
set_option maxRecDepth 20000 in
theorem dnX11_lawsUsed {X : o_Cx} (hX : o_ok X) {d : Nat} {a0 : Nat} {μ0 : o_Mem} {q : Int32 → o_Mem → Prop} (h0 : o_is X a0 (.inl 11)) (h : o_Post (fX11_lawsUsed (o_rf X) a0 μ0) q) : o_Ev X (d + 2) mX11_lawsUsed 0 [some (.ref (o_ad X a0)), none, none, none] [] μ0 (o_QI q) := by
  unfold fX11_lawsUsed at h
  refine s_iconst dX11_lawsUsed_0 kI_0 ?_
  refine s_istore_n (i := 1) dX11_lawsUsed_1 rfl (Nat.le_of_ble_eq_true rfl) rfl ?_
  refine s_iconst dX11_lawsUsed_2 kI_0 ?_
  refine s_istore_n (i := 2) dX11_lawsUsed_3 rfl (Nat.le_of_ble_eq_true rfl) rfl ?_
  refine s_mask [true, true, true, false] (L' := [some (.ref (o_ad X a0)), some (.int 0), some (.int 0), none]) rfl ?_
  refine o_lp_ev (fun τ4 => [some (.ref (o_ad X a0)), some (.int τ4.1), some (.int τ4.2), none]) (fun τ4 μ _K h kv ke4 => dnX11_lawsUsed_s4 hX h0 h kv (fun τ4 μ1 h => ?_)) o_fuel (0, 0) μ0 (o_bdp h)
  · have h := o_if_t rfl (ke4 (91, τ4) μ1 (o_ne rfl) h)
    refine s_aload_n (i := 0) dX11_lawsUsed_91 rfl rfl ?_
    refine s_iload_n (i := 1) dX11_lawsUsed_92 rfl rfl ?_
    refine s_callSi (C := mJ6_bitCount_0f7a4) (As := [.int τ4.1]) (rest := [.ref (o_ad X a0)]) (L0 := [some (.int τ4.1)]) clX11_422 dX11_lawsUsed_93 rfl rfl (Nat.le_of_ble_eq_true rfl) (Nat.le_of_ble_eq_true rfl) (dnJ6_bitCount_0f7a4 hX  (o_bdp h)) (fun r1 μ2 h => ?_)
    refine s_callVi (C := mX11_gives) (As := [.int r1]) (rest := []) (L0 := [some (.ref (o_ad X a0)), some (.int r1)]) hX h0 clX11_187 dX11_lawsUsed_96 rfl rfl (Nat.le_of_ble_eq_true rfl) (Nat.le_of_ble_eq_true rfl) (dnX11_gives hX h0 (o_bdp h)) (fun r2 μ3 h => ?_)
    exact s_ireturn rfl dX11_lawsUsed_99 ⟨_, rfl, o_ret h⟩
theorem dX11_game_0 : decode cX11_game 0 = .ok (.iload_n 1, 1) := by decide +kernel
theorem dX11_game_1 : decode cX11_game 1 = .ok (.i2l, 1) := by decide +kernel
theorem dX11_game_2 : decode cX11_game 2 = .ok (.lconst 1, 1) := by decide +kernel
theorem dX11_game_3 : decode cX11_game 3 = .ok (.ldc2_w 116, 3) := by decide +kernel
theorem dX11_game_6 : decode cX11_game 6 = .ok (.invokestatic 118, 3) := by decide +kernel
theorem dX11_game_9 : decode cX11_game 9 = .ok (.ifCond .ne 9, 3) := by decide +kernel
theorem dX11_game_12 : decode cX11_game 12 = .ok (.aload_n 0, 1) := by decide +kernel
theorem dX11_game_13 : decode cX11_game 13 = .ok (.iconst 1, 1) := by decide +kernel
theorem dX11_game_14 : decode cX11_game 14 = .ok (.invokevirtual 139, 3) := by decide +kernel
theorem dX11_game_17 : decode cX11_game 17 = .ok (.ireturn, 1) := by decide +kernel
theorem dX11_game_18 : decode cX11_game 18 = .ok (.aload_n 0, 1) := by decide +kernel
theorem dX11_game_19 : decode cX11_game 19 = .ok (.getfield 101, 3) := by decide +kernel
theorem dX11_game_22 : decode cX11_game 22 = .ok (.aload_n 0, 1) := by decide +kernel
theorem dX11_game_23 : decode cX11_game 23 = .ok (.getfield 23, 3) := by decide +kernel
theorem dX11_game_26 : decode cX11_game 26 = .ok (.invokevirtual 427, 3) := by decide +kernel
theorem dX11_game_29 : decode cX11_game 29 = .ok (.aload_n 0, 1) := by decide +kernel
theorem dX11_game_30 : decode cX11_game 30 = .ok (.aload_n 0, 1) := by decide +kernel
theorem dX11_game_31 : decode cX11_game 31 = .ok (.getfield 101, 3) := by decide +kernel
theorem dX11_game_34 : decode cX11_game 34 = .ok (.iload_n 1, 1) := by decide +kernel
theorem dX11_game_35 : decode cX11_game 35 = .ok (.invokevirtual 430, 3) := by decide +kernel
theorem dX11_game_38 : decode cX11_game 38 = .ok (.invokevirtual 187, 3) := by decide +kernel
theorem dX11_game_41 : decode cX11_game 41 = .ok (.ireturn, 1) := by decide +kernel
noncomputable def fX11_game (rf : Nat → Nat → Nat) (a0 : Nat) (x1 : Int32) (μ0 : o_Mem) : Option (Int32 × o_Mem) :=
  o_bd (fX11_within rf x1.toInt64 (1 : Int64) (3 : Int64) μ0) fun r1 μ1 =>
  if r1 = 0 then (
    o_bd (fX11_refuses rf a0 1 μ1) fun r4 μ5 =>
    some (r4, μ5))
  else (
    o_bd (fX0_sit rf (rf a0 18) (rf a0 4) μ1) fun _u μ2 =>
    o_bd (fX0_outcome rf (rf a0 18) x1 μ2) fun r2 μ3 =>
    o_bd (fX11_gives rf a0 r2 μ3) fun r3 μ4 =>
    some (r3, μ4))
set_option maxRecDepth 20000 in
theorem dnX11_game {X : o_Cx} (hX : o_ok X) {d : Nat} {a0 : Nat} {x1 : Int32} {μ0 : o_Mem} {q : Int32 → o_Mem → Prop} (h0 : o_is X a0 (.inl 11)) (h : o_Post (fX11_game (o_rf X) a0 x1 μ0) q) : o_Ev X (d + 12) mX11_game 0 [some (.ref (o_ad X a0)), some (.int x1)] [] μ0 (o_QI q) := by
  unfold fX11_game at h
  refine s_iload_n (i := 1) dX11_game_0 rfl rfl ?_
  refine s_i2l dX11_game_1 ?_
  refine s_lconst (v := 1) dX11_game_2 rfl ?_
  refine s_ldc2 (v := 3) w_3_33 dX11_game_3 ?_
  refine s_callSz (C := mX11_within) (As := [.long x1.toInt64, .long (1 : Int64), .long (3 : Int64)]) (rest := []) (L0 := [some (.long x1.toInt64), none, some (.long (1 : Int64)), none, some (.long (3 : Int64)), none]) clX11_118 dX11_game_6 rfl rfl (Nat.le_of_ble_eq_true rfl) (Nat.le_of_ble_eq_true rfl) (dnX11_within hX  (o_bdp h)) (fun r1 μ1 zr1 h => ?_)
  refine s_if_ne (tgt := 18) dX11_game_9 rfl (fun c1 => ?_) (fun c1 => ?_)
  · have h := o_if_f c1 h
    refine s_aload_n (i := 0) dX11_game_18 rfl rfl ?_
    refine s_getR hX h0 flX11_101 rfl dX11_game_19 (fun (g1 : o_is X (o_rf X a0 18) (.inl 0)) => ?_)
    refine s_aload_n (i := 0) dX11_game_22 rfl rfl ?_
    refine s_getR hX h0 flX11_23 rfl dX11_game_23 (fun (g2 : o_is X (o_rf X a0 4) (.inl 8)) => ?_)
    refine s_callVu (C := mX0_sit) (As := [.ref (o_ad X (o_rf X a0 4))]) (rest := []) (L0 := [some (.ref (o_ad X (o_rf X a0 18))), some (.ref (o_ad X (o_rf X a0 4))), none, none]) hX g1 clX11_427 dX11_game_26 rfl rfl (Nat.le_of_ble_eq_true rfl) (Nat.le_of_ble_eq_true rfl) (dnX0_sit hX g1 g2 (o_bdp h)) (fun _u μ2 h => ?_)
    refine s_aload_n (i := 0) dX11_game_29 rfl rfl ?_
    refine s_aload_n (i := 0) dX11_game_30 rfl rfl ?_
    refine s_getR hX h0 flX11_101 rfl dX11_game_31 (fun (g3 : o_is X (o_rf X a0 18) (.inl 0)) => ?_)
    refine s_iload_n (i := 1) dX11_game_34 rfl rfl ?_
    refine s_callVi (C := mX0_outcome) (As := [.int x1]) (rest := [.ref (o_ad X a0)]) (L0 := [some (.ref (o_ad X (o_rf X a0 18))), some (.int x1)]) hX g3 clX11_430 dX11_game_35 rfl rfl (Nat.le_of_ble_eq_true rfl) (Nat.le_of_ble_eq_true rfl) (dnX0_outcome hX g3 (o_bdp h)) (fun r2 μ3 h => ?_)
    refine s_callVi (C := mX11_gives) (As := [.int r2]) (rest := []) (L0 := [some (.ref (o_ad X a0)), some (.int r2)]) hX h0 clX11_187 dX11_game_38 rfl rfl (Nat.le_of_ble_eq_true rfl) (Nat.le_of_ble_eq_true rfl) (dnX11_gives hX h0 (o_bdp h)) (fun r3 μ4 h => ?_)
    exact s_ireturn rfl dX11_game_41 ⟨_, rfl, o_ret h⟩
  · have h := o_if_t c1 h
    refine s_aload_n (i := 0) dX11_game_12 rfl rfl ?_
    refine s_iconst dX11_game_13 kI_1 ?_
    refine s_callVi (C := mX11_refuses) (As := [.int 1]) (rest := []) (L0 := [some (.ref (o_ad X a0)), some (.int 1)]) hX h0 clX11_139 dX11_game_14 rfl rfl (Nat.le_of_ble_eq_true rfl) (Nat.le_of_ble_eq_true rfl) (dnX11_refuses hX h0 (o_bdp h)) (fun r4 μ5 h => ?_)
    exact s_ireturn rfl dX11_game_17 ⟨_, rfl, o_ret h⟩
theorem dX11_gameFirst_0 : decode cX11_gameFirst 0 = .ok (.iload_n 1, 1) := by decide +kernel
theorem dX11_gameFirst_1 : decode cX11_gameFirst 1 = .ok (.i2l, 1) := by decide +kernel
theorem dX11_gameFirst_2 : decode cX11_gameFirst 2 = .ok (.lconst 1, 1) := by decide +kernel
theorem dX11_gameFirst_3 : decode cX11_gameFirst 3 = .ok (.ldc2_w 116, 3) := by decide +kernel
theorem dX11_gameFirst_6 : decode cX11_gameFirst 6 = .ok (.invokestatic 118, 3) := by decide +kernel
theorem dX11_gameFirst_9 : decode cX11_gameFirst 9 = .ok (.ifCond .ne 9, 3) := by decide +kernel
theorem dX11_gameFirst_12 : decode cX11_gameFirst 12 = .ok (.aload_n 0, 1) := by decide +kernel
theorem dX11_gameFirst_13 : decode cX11_gameFirst 13 = .ok (.iconst 1, 1) := by decide +kernel
theorem dX11_gameFirst_14 : decode cX11_gameFirst 14 = .ok (.invokevirtual 139, 3) := by decide +kernel
theorem dX11_gameFirst_17 : decode cX11_gameFirst 17 = .ok (.ireturn, 1) := by decide +kernel
theorem dX11_gameFirst_18 : decode cX11_gameFirst 18 = .ok (.aload_n 0, 1) := by decide +kernel
theorem dX11_gameFirst_19 : decode cX11_gameFirst 19 = .ok (.getfield 101, 3) := by decide +kernel
theorem dX11_gameFirst_22 : decode cX11_gameFirst 22 = .ok (.aload_n 0, 1) := by decide +kernel
theorem dX11_gameFirst_23 : decode cX11_gameFirst 23 = .ok (.getfield 23, 3) := by decide +kernel
theorem dX11_gameFirst_26 : decode cX11_gameFirst 26 = .ok (.invokevirtual 427, 3) := by decide +kernel
theorem dX11_gameFirst_29 : decode cX11_gameFirst 29 = .ok (.aload_n 0, 1) := by decide +kernel
theorem dX11_gameFirst_30 : decode cX11_gameFirst 30 = .ok (.aload_n 0, 1) := by decide +kernel
theorem dX11_gameFirst_31 : decode cX11_gameFirst 31 = .ok (.getfield 101, 3) := by decide +kernel
theorem dX11_gameFirst_34 : decode cX11_gameFirst 34 = .ok (.iload_n 1, 1) := by decide +kernel
theorem dX11_gameFirst_35 : decode cX11_gameFirst 35 = .ok (.invokevirtual 433, 3) := by decide +kernel
theorem dX11_gameFirst_38 : decode cX11_gameFirst 38 = .ok (.invokevirtual 259, 3) := by decide +kernel
theorem dX11_gameFirst_41 : decode cX11_gameFirst 41 = .ok (.ireturn, 1) := by decide +kernel
noncomputable def fX11_gameFirst (rf : Nat → Nat → Nat) (a0 : Nat) (x1 : Int32) (μ0 : o_Mem) : Option (Int32 × o_Mem) :=
  o_bd (fX11_within rf x1.toInt64 (1 : Int64) (3 : Int64) μ0) fun r1 μ1 =>
  if r1 = 0 then (
    o_bd (fX11_refuses rf a0 1 μ1) fun r4 μ5 =>
    some (r4, μ5))
  else (
    o_bd (fX0_sit rf (rf a0 18) (rf a0 4) μ1) fun _u μ2 =>
    o_bd (fX0_firstTaken rf (rf a0 18) x1 μ2) fun r2 μ3 =>
    o_bd (fX11_givesIfAny rf a0 r2 μ3) fun r3 μ4 =>
    some (r3, μ4))
set_option maxRecDepth 20000 in
theorem dnX11_gameFirst {X : o_Cx} (hX : o_ok X) {d : Nat} {a0 : Nat} {x1 : Int32} {μ0 : o_Mem} {q : Int32 → o_Mem → Prop} (h0 : o_is X a0 (.inl 11)) (h : o_Post (fX11_gameFirst (o_rf X) a0 x1 μ0) q) : o_Ev X (d + 13) mX11_gameFirst 0 [some (.ref (o_ad X a0)), some (.int x1)] [] μ0 (o_QI q) := by
  unfold fX11_gameFirst at h
  refine s_iload_n (i := 1) dX11_gameFirst_0 rfl rfl ?_
  refine s_i2l dX11_gameFirst_1 ?_
  refine s_lconst (v := 1) dX11_gameFirst_2 rfl ?_
  refine s_ldc2 (v := 3) w_3_33 dX11_gameFirst_3 ?_
  refine s_callSz (C := mX11_within) (As := [.long x1.toInt64, .long (1 : Int64), .long (3 : Int64)]) (rest := []) (L0 := [some (.long x1.toInt64), none, some (.long (1 : Int64)), none, some (.long (3 : Int64)), none]) clX11_118 dX11_gameFirst_6 rfl rfl (Nat.le_of_ble_eq_true rfl) (Nat.le_of_ble_eq_true rfl) (dnX11_within hX  (o_bdp h)) (fun r1 μ1 zr1 h => ?_)
  refine s_if_ne (tgt := 18) dX11_gameFirst_9 rfl (fun c1 => ?_) (fun c1 => ?_)
  · have h := o_if_f c1 h
    refine s_aload_n (i := 0) dX11_gameFirst_18 rfl rfl ?_
    refine s_getR hX h0 flX11_101 rfl dX11_gameFirst_19 (fun (g1 : o_is X (o_rf X a0 18) (.inl 0)) => ?_)
    refine s_aload_n (i := 0) dX11_gameFirst_22 rfl rfl ?_
    refine s_getR hX h0 flX11_23 rfl dX11_gameFirst_23 (fun (g2 : o_is X (o_rf X a0 4) (.inl 8)) => ?_)
    refine s_callVu (C := mX0_sit) (As := [.ref (o_ad X (o_rf X a0 4))]) (rest := []) (L0 := [some (.ref (o_ad X (o_rf X a0 18))), some (.ref (o_ad X (o_rf X a0 4))), none, none]) hX g1 clX11_427 dX11_gameFirst_26 rfl rfl (Nat.le_of_ble_eq_true rfl) (Nat.le_of_ble_eq_true rfl) (dnX0_sit hX g1 g2 (o_bdp h)) (fun _u μ2 h => ?_)
    refine s_aload_n (i := 0) dX11_gameFirst_29 rfl rfl ?_
    refine s_aload_n (i := 0) dX11_gameFirst_30 rfl rfl ?_
    refine s_getR hX h0 flX11_101 rfl dX11_gameFirst_31 (fun (g3 : o_is X (o_rf X a0 18) (.inl 0)) => ?_)
    refine s_iload_n (i := 1) dX11_gameFirst_34 rfl rfl ?_
    refine s_callVi (C := mX0_firstTaken) (As := [.int x1]) (rest := [.ref (o_ad X a0)]) (L0 := [some (.ref (o_ad X (o_rf X a0 18))), some (.int x1), none, none]) hX g3 clX11_433 dX11_gameFirst_35 rfl rfl (Nat.le_of_ble_eq_true rfl) (Nat.le_of_ble_eq_true rfl) (dnX0_firstTaken hX g3 (o_bdp h)) (fun r2 μ3 h => ?_)
    refine s_callVi (C := mX11_givesIfAny) (As := [.int r2]) (rest := []) (L0 := [some (.ref (o_ad X a0)), some (.int r2)]) hX h0 clX11_259 dX11_gameFirst_38 rfl rfl (Nat.le_of_ble_eq_true rfl) (Nat.le_of_ble_eq_true rfl) (dnX11_givesIfAny hX h0 (o_bdp h)) (fun r3 μ4 h => ?_)
    exact s_ireturn rfl dX11_gameFirst_41 ⟨_, rfl, o_ret h⟩
  · have h := o_if_t c1 h
    refine s_aload_n (i := 0) dX11_gameFirst_12 rfl rfl ?_
    refine s_iconst dX11_gameFirst_13 kI_1 ?_
    refine s_callVi (C := mX11_refuses) (As := [.int 1]) (rest := []) (L0 := [some (.ref (o_ad X a0)), some (.int 1)]) hX h0 clX11_139 dX11_gameFirst_14 rfl rfl (Nat.le_of_ble_eq_true rfl) (Nat.le_of_ble_eq_true rfl) (dnX11_refuses hX h0 (o_bdp h)) (fun r4 μ5 h => ?_)
    exact s_ireturn rfl dX11_gameFirst_17 ⟨_, rfl, o_ret h⟩
