theorem dX11_brother_0 : decode cX11_brother 0 = .ok (.iload_n 1, 1) := by decide +kernel
theorem dX11_brother_1 : decode cX11_brother 1 = .ok (.i2l, 1) := by decide +kernel
theorem dX11_brother_2 : decode cX11_brother 2 = .ok (.lconst 0, 1) := by decide +kernel
theorem dX11_brother_3 : decode cX11_brother 3 = .ok (.aload_n 0, 1) := by decide +kernel
theorem dX11_brother_4 : decode cX11_brother 4 = .ok (.getfield 23, 3) := by decide +kernel
theorem dX11_brother_7 : decode cX11_brother 7 = .ok (.getfield 212, 3) := by decide +kernel
theorem dX11_brother_10 : decode cX11_brother 10 = .ok (.getfield 216, 3) := by decide +kernel
theorem dX11_brother_13 : decode cX11_brother 13 = .ok (.iconst 1, 1) := by decide +kernel
theorem dX11_brother_14 : decode cX11_brother 14 = .ok (.isub, 1) := by decide +kernel
theorem dX11_brother_15 : decode cX11_brother 15 = .ok (.i2l, 1) := by decide +kernel
theorem dX11_brother_16 : decode cX11_brother 16 = .ok (.invokestatic 118, 3) := by decide +kernel
theorem dX11_brother_19 : decode cX11_brother 19 = .ok (.ifCond .ne 9, 3) := by decide +kernel
theorem dX11_brother_22 : decode cX11_brother 22 = .ok (.aload_n 0, 1) := by decide +kernel
theorem dX11_brother_23 : decode cX11_brother 23 = .ok (.iconst 1, 1) := by decide +kernel
theorem dX11_brother_24 : decode cX11_brother 24 = .ok (.invokevirtual 139, 3) := by decide +kernel
theorem dX11_brother_27 : decode cX11_brother 27 = .ok (.ireturn, 1) := by decide +kernel
theorem dX11_brother_28 : decode cX11_brother 28 = .ok (.aload_n 0, 1) := by decide +kernel
theorem dX11_brother_29 : decode cX11_brother 29 = .ok (.aload_n 0, 1) := by decide +kernel
theorem dX11_brother_30 : decode cX11_brother 30 = .ok (.getfield 23, 3) := by decide +kernel
theorem dX11_brother_33 : decode cX11_brother 33 = .ok (.aload_n 0, 1) := by decide +kernel
theorem dX11_brother_34 : decode cX11_brother 34 = .ok (.getfield 23, 3) := by decide +kernel
theorem dX11_brother_37 : decode cX11_brother 37 = .ok (.aload_n 0, 1) := by decide +kernel
theorem dX11_brother_38 : decode cX11_brother 38 = .ok (.getfield 23, 3) := by decide +kernel
theorem dX11_brother_41 : decode cX11_brother 41 = .ok (.getfield 212, 3) := by decide +kernel
theorem dX11_brother_44 : decode cX11_brother 44 = .ok (.getfield 413, 3) := by decide +kernel
theorem dX11_brother_47 : decode cX11_brother 47 = .ok (.iload_n 1, 1) := by decide +kernel
theorem dX11_brother_48 : decode cX11_brother 48 = .ok (.iaload, 1) := by decide +kernel
theorem dX11_brother_49 : decode cX11_brother 49 = .ok (.aload_n 0, 1) := by decide +kernel
theorem dX11_brother_50 : decode cX11_brother 50 = .ok (.getfield 23, 3) := by decide +kernel
theorem dX11_brother_53 : decode cX11_brother 53 = .ok (.getfield 212, 3) := by decide +kernel
theorem dX11_brother_56 : decode cX11_brother 56 = .ok (.getfield 416, 3) := by decide +kernel
theorem dX11_brother_59 : decode cX11_brother 59 = .ok (.iload_n 1, 1) := by decide +kernel
theorem dX11_brother_60 : decode cX11_brother 60 = .ok (.iaload, 1) := by decide +kernel
theorem dX11_brother_61 : decode cX11_brother 61 = .ok (.aload_n 0, 1) := by decide +kernel
theorem dX11_brother_62 : decode cX11_brother 62 = .ok (.getfield 23, 3) := by decide +kernel
theorem dX11_brother_65 : decode cX11_brother 65 = .ok (.getfield 212, 3) := by decide +kernel
theorem dX11_brother_68 : decode cX11_brother 68 = .ok (.getfield 304, 3) := by decide +kernel
theorem dX11_brother_71 : decode cX11_brother 71 = .ok (.iload_n 1, 1) := by decide +kernel
theorem dX11_brother_72 : decode cX11_brother 72 = .ok (.iaload, 1) := by decide +kernel
theorem dX11_brother_73 : decode cX11_brother 73 = .ok (.aload_n 0, 1) := by decide +kernel
theorem dX11_brother_74 : decode cX11_brother 74 = .ok (.getfield 23, 3) := by decide +kernel
theorem dX11_brother_77 : decode cX11_brother 77 = .ok (.getfield 212, 3) := by decide +kernel
theorem dX11_brother_80 : decode cX11_brother 80 = .ok (.getfield 419, 3) := by decide +kernel
theorem dX11_brother_83 : decode cX11_brother 83 = .ok (.iload_n 1, 1) := by decide +kernel
theorem dX11_brother_84 : decode cX11_brother 84 = .ok (.iaload, 1) := by decide +kernel
theorem dX11_brother_85 : decode cX11_brother 85 = .ok (.invokevirtual 436, 3) := by decide +kernel
theorem dX11_brother_88 : decode cX11_brother 88 = .ok (.invokevirtual 439, 3) := by decide +kernel
theorem dX11_brother_91 : decode cX11_brother 91 = .ok (.invokevirtual 259, 3) := by decide +kernel
theorem dX11_brother_94 : decode cX11_brother 94 = .ok (.ireturn, 1) := by decide +kernel
noncomputable def fX11_brother (rf : Nat → Nat → Nat) (a0 : Nat) (x1 : Int32) (μ0 : o_Mem) : Option (Int32 × o_Mem) :=
  o_bd (fX11_within rf x1.toInt64 (0 : Int64) (((μ0.1 (rf (rf a0 4) 15) 0) - 1).toInt64) μ0) fun r1 μ1 =>
  if r1 = 0 then (
    o_bd (fX11_refuses rf a0 1 μ1) fun r5 μ5 =>
    some (r5, μ5))
  else (
    o_ck (0 ≤ (x1).toInt ∧ (x1).toInt < 12) <|
    o_ck (0 ≤ (x1).toInt ∧ (x1).toInt < 12) <|
    o_ck (0 ≤ (x1).toInt ∧ (x1).toInt < 12) <|
    o_ck (0 ≤ (x1).toInt ∧ (x1).toInt < 12) <|
    o_bd (fX8_lastFit rf (rf a0 4) (μ1.1 (rf (rf (rf a0 4) 15) 1) x1.toNatClampNeg) (μ1.1 (rf (rf (rf a0 4) 15) 2) x1.toNatClampNeg) (μ1.1 (rf (rf (rf a0 4) 15) 3) x1.toNatClampNeg) (μ1.1 (rf (rf (rf a0 4) 15) 4) x1.toNatClampNeg) μ1) fun r2 μ2 =>
    o_bd (fX8_strikeBy rf (rf a0 4) r2 μ2) fun r3 μ3 =>
    o_bd (fX11_givesIfAny rf a0 r3 μ3) fun r4 μ4 =>
    some (r4, μ4))
set_option maxRecDepth 20000 in
theorem dnX11_brother {X : o_Cx} (hX : o_ok X) {d : Nat} {a0 : Nat} {x1 : Int32} {μ0 : o_Mem} {q : Int32 → o_Mem → Prop} (h0 : o_is X a0 (.inl 11)) (h : o_Post (fX11_brother (o_rf X) a0 x1 μ0) q) : o_Ev X (d + 2) mX11_brother 0 [some (.ref (o_ad X a0)), some (.int x1)] [] μ0 (o_QI q) := by
  unfold fX11_brother at h
  refine s_iload_n (i := 1) dX11_brother_0 rfl rfl ?_
  refine s_i2l dX11_brother_1 ?_
  refine s_lconst (v := 0) dX11_brother_2 rfl ?_
  refine s_aload_n (i := 0) dX11_brother_3 rfl rfl ?_
  refine s_getR hX h0 flX11_23 rfl dX11_brother_4 (fun (g1 : o_is X (o_rf X a0 4) (.inl 8)) => ?_)
  refine s_getR hX g1 flX11_212 rfl dX11_brother_7 (fun (g2 : o_is X (o_rf X (o_rf X a0 4) 15) (.inl 1)) => ?_)
  refine s_getI g2 flX11_216 rfl dX11_brother_10 ?_
  refine s_iconst dX11_brother_13 kI_1 ?_
  refine s_isub dX11_brother_14 ?_
  refine s_i2l dX11_brother_15 ?_
  refine s_callSz (C := mX11_within) (As := [.long x1.toInt64, .long (0 : Int64), .long (((μ0.1 (o_rf X (o_rf X a0 4) 15) 0) - 1).toInt64)]) (rest := []) (L0 := [some (.long x1.toInt64), none, some (.long (0 : Int64)), none, some (.long (((μ0.1 (o_rf X (o_rf X a0 4) 15) 0) - 1).toInt64)), none]) clX11_118 dX11_brother_16 rfl rfl (Nat.le_of_ble_eq_true rfl) (Nat.le_of_ble_eq_true rfl) (dnX11_within hX  (o_bdp h)) (fun r1 μ1 zr1 h => ?_)
  refine s_if_ne (tgt := 28) dX11_brother_19 rfl (fun c1 => ?_) (fun c1 => ?_)
  · have h := o_if_f c1 h
    refine s_aload_n (i := 0) dX11_brother_28 rfl rfl ?_
    refine s_aload_n (i := 0) dX11_brother_29 rfl rfl ?_
    refine s_getR hX h0 flX11_23 rfl dX11_brother_30 (fun (g3 : o_is X (o_rf X a0 4) (.inl 8)) => ?_)
    refine s_aload_n (i := 0) dX11_brother_33 rfl rfl ?_
    refine s_getR hX h0 flX11_23 rfl dX11_brother_34 (fun (g4 : o_is X (o_rf X a0 4) (.inl 8)) => ?_)
    refine s_aload_n (i := 0) dX11_brother_37 rfl rfl ?_
    refine s_getR hX h0 flX11_23 rfl dX11_brother_38 (fun (g5 : o_is X (o_rf X a0 4) (.inl 8)) => ?_)
    refine s_getR hX g5 flX11_212 rfl dX11_brother_41 (fun (g6 : o_is X (o_rf X (o_rf X a0 4) 15) (.inl 1)) => ?_)
    refine s_getR hX g6 flX11_413 rfl dX11_brother_44 (fun (g7 : o_is X (o_rf X (o_rf X (o_rf X a0 4) 15) 1) (.inr (0, 12))) => ?_)
    refine s_iload_n (i := 1) dX11_brother_47 rfl rfl ?_
    have hc := o_ck_c h
    have h := o_ck_k h
    refine s_ialdK g7 hc rfl dX11_brother_48 ?_
    refine s_aload_n (i := 0) dX11_brother_49 rfl rfl ?_
    refine s_getR hX h0 flX11_23 rfl dX11_brother_50 (fun (g8 : o_is X (o_rf X a0 4) (.inl 8)) => ?_)
    refine s_getR hX g8 flX11_212 rfl dX11_brother_53 (fun (g9 : o_is X (o_rf X (o_rf X a0 4) 15) (.inl 1)) => ?_)
    refine s_getR hX g9 flX11_416 rfl dX11_brother_56 (fun (g10 : o_is X (o_rf X (o_rf X (o_rf X a0 4) 15) 2) (.inr (0, 12))) => ?_)
    refine s_iload_n (i := 1) dX11_brother_59 rfl rfl ?_
    have hc := o_ck_c h
    have h := o_ck_k h
    refine s_ialdK g10 hc rfl dX11_brother_60 ?_
    refine s_aload_n (i := 0) dX11_brother_61 rfl rfl ?_
    refine s_getR hX h0 flX11_23 rfl dX11_brother_62 (fun (g11 : o_is X (o_rf X a0 4) (.inl 8)) => ?_)
    refine s_getR hX g11 flX11_212 rfl dX11_brother_65 (fun (g12 : o_is X (o_rf X (o_rf X a0 4) 15) (.inl 1)) => ?_)
    refine s_getR hX g12 flX11_304 rfl dX11_brother_68 (fun (g13 : o_is X (o_rf X (o_rf X (o_rf X a0 4) 15) 3) (.inr (0, 12))) => ?_)
    refine s_iload_n (i := 1) dX11_brother_71 rfl rfl ?_
    have hc := o_ck_c h
    have h := o_ck_k h
    refine s_ialdK g13 hc rfl dX11_brother_72 ?_
    refine s_aload_n (i := 0) dX11_brother_73 rfl rfl ?_
    refine s_getR hX h0 flX11_23 rfl dX11_brother_74 (fun (g14 : o_is X (o_rf X a0 4) (.inl 8)) => ?_)
    refine s_getR hX g14 flX11_212 rfl dX11_brother_77 (fun (g15 : o_is X (o_rf X (o_rf X a0 4) 15) (.inl 1)) => ?_)
    refine s_getR hX g15 flX11_419 rfl dX11_brother_80 (fun (g16 : o_is X (o_rf X (o_rf X (o_rf X a0 4) 15) 4) (.inr (0, 12))) => ?_)
    refine s_iload_n (i := 1) dX11_brother_83 rfl rfl ?_
    have hc := o_ck_c h
    have h := o_ck_k h
    refine s_ialdK g16 hc rfl dX11_brother_84 ?_
    refine s_callVi (C := mX8_lastFit) (As := [.int (μ1.1 (o_rf X (o_rf X (o_rf X a0 4) 15) 1) x1.toNatClampNeg), .int (μ1.1 (o_rf X (o_rf X (o_rf X a0 4) 15) 2) x1.toNatClampNeg), .int (μ1.1 (o_rf X (o_rf X (o_rf X a0 4) 15) 3) x1.toNatClampNeg), .int (μ1.1 (o_rf X (o_rf X (o_rf X a0 4) 15) 4) x1.toNatClampNeg)]) (rest := [.ref (o_ad X (o_rf X a0 4)), .ref (o_ad X a0)]) (L0 := [some (.ref (o_ad X (o_rf X a0 4))), some (.int (μ1.1 (o_rf X (o_rf X (o_rf X a0 4) 15) 1) x1.toNatClampNeg)), some (.int (μ1.1 (o_rf X (o_rf X (o_rf X a0 4) 15) 2) x1.toNatClampNeg)), some (.int (μ1.1 (o_rf X (o_rf X (o_rf X a0 4) 15) 3) x1.toNatClampNeg)), some (.int (μ1.1 (o_rf X (o_rf X (o_rf X a0 4) 15) 4) x1.toNatClampNeg)), none]) hX g4 clX11_436 dX11_brother_85 rfl rfl (Nat.le_of_ble_eq_true rfl) (Nat.le_of_ble_eq_true rfl) (dnX8_lastFit hX g4 (o_bdp h)) (fun r2 μ2 h => ?_)
    refine s_callVi (C := mX8_strikeBy) (As := [.int r2]) (rest := [.ref (o_ad X a0)]) (L0 := [some (.ref (o_ad X (o_rf X a0 4))), some (.int r2)]) hX g3 clX11_439 dX11_brother_88 rfl rfl (Nat.le_of_ble_eq_true rfl) (Nat.le_of_ble_eq_true rfl) (dnX8_strikeBy hX g3 (o_bdp h)) (fun r3 μ3 h => ?_)
    refine s_callVi (C := mX11_givesIfAny) (As := [.int r3]) (rest := []) (L0 := [some (.ref (o_ad X a0)), some (.int r3)]) hX h0 clX11_259 dX11_brother_91 rfl rfl (Nat.le_of_ble_eq_true rfl) (Nat.le_of_ble_eq_true rfl) (dnX11_givesIfAny hX h0 (o_bdp h)) (fun r4 μ4 h => ?_)
    exact s_ireturn rfl dX11_brother_94 ⟨_, rfl, o_ret h⟩
  · have h := o_if_t c1 h
    refine s_aload_n (i := 0) dX11_brother_22 rfl rfl ?_
    refine s_iconst dX11_brother_23 kI_1 ?_
    refine s_callVi (C := mX11_refuses) (As := [.int 1]) (rest := []) (L0 := [some (.ref (o_ad X a0)), some (.int 1)]) hX h0 clX11_139 dX11_brother_24 rfl rfl (Nat.le_of_ble_eq_true rfl) (Nat.le_of_ble_eq_true rfl) (dnX11_refuses hX h0 (o_bdp h)) (fun r5 μ5 h => ?_)
    exact s_ireturn rfl dX11_brother_27 ⟨_, rfl, o_ret h⟩
theorem dX11_live_0 : decode cX11_live 0 = .ok (.iload_n 1, 1) := by decide +kernel
theorem dX11_live_1 : decode cX11_live 1 = .ok (.i2l, 1) := by decide +kernel
theorem dX11_live_2 : decode cX11_live 2 = .ok (.lconst 0, 1) := by decide +kernel
theorem dX11_live_3 : decode cX11_live 3 = .ok (.ldc2_w 442, 3) := by decide +kernel
theorem dX11_live_6 : decode cX11_live 6 = .ok (.invokestatic 118, 3) := by decide +kernel
theorem dX11_live_9 : decode cX11_live 9 = .ok (.ifCond .ne 9, 3) := by decide +kernel
theorem dX11_live_12 : decode cX11_live 12 = .ok (.aload_n 0, 1) := by decide +kernel
theorem dX11_live_13 : decode cX11_live 13 = .ok (.iconst 1, 1) := by decide +kernel
theorem dX11_live_14 : decode cX11_live 14 = .ok (.invokevirtual 139, 3) := by decide +kernel
theorem dX11_live_17 : decode cX11_live 17 = .ok (.ireturn, 1) := by decide +kernel
theorem dX11_live_18 : decode cX11_live 18 = .ok (.aload_n 0, 1) := by decide +kernel
theorem dX11_live_19 : decode cX11_live 19 = .ok (.getfield 33, 3) := by decide +kernel
theorem dX11_live_22 : decode cX11_live 22 = .ok (.getfield 444, 3) := by decide +kernel
theorem dX11_live_25 : decode cX11_live 25 = .ok (.ifCond .ne 10, 3) := by decide +kernel
theorem dX11_live_28 : decode cX11_live 28 = .ok (.aload_n 0, 1) := by decide +kernel
theorem dX11_live_29 : decode cX11_live 29 = .ok (.bipush 6, 2) := by decide +kernel
theorem dX11_live_31 : decode cX11_live 31 = .ok (.invokevirtual 139, 3) := by decide +kernel
theorem dX11_live_34 : decode cX11_live 34 = .ok (.ireturn, 1) := by decide +kernel
theorem dX11_live_35 : decode cX11_live 35 = .ok (.aload_n 0, 1) := by decide +kernel
theorem dX11_live_36 : decode cX11_live 36 = .ok (.getfield 76, 3) := by decide +kernel
theorem dX11_live_39 : decode cX11_live 39 = .ok (.aload_n 0, 1) := by decide +kernel
theorem dX11_live_40 : decode cX11_live 40 = .ok (.getfield 23, 3) := by decide +kernel
theorem dX11_live_43 : decode cX11_live 43 = .ok (.aload_n 0, 1) := by decide +kernel
theorem dX11_live_44 : decode cX11_live 44 = .ok (.getfield 33, 3) := by decide +kernel
theorem dX11_live_47 : decode cX11_live 47 = .ok (.iload_n 1, 1) := by decide +kernel
theorem dX11_live_48 : decode cX11_live 48 = .ok (.invokevirtual 445, 3) := by decide +kernel
theorem dX11_live_51 : decode cX11_live 51 = .ok (.aload_n 0, 1) := by decide +kernel
theorem dX11_live_52 : decode cX11_live 52 = .ok (.getfield 80, 3) := by decide +kernel
theorem dX11_live_55 : decode cX11_live 55 = .ok (.iconst 0, 1) := by decide +kernel
theorem dX11_live_56 : decode cX11_live 56 = .ok (.aload_n 0, 1) := by decide +kernel
theorem dX11_live_57 : decode cX11_live 57 = .ok (.getfield 76, 3) := by decide +kernel
theorem dX11_live_60 : decode cX11_live 60 = .ok (.getfield 449, 3) := by decide +kernel
theorem dX11_live_63 : decode cX11_live 63 = .ok (.iastore, 1) := by decide +kernel
theorem dX11_live_64 : decode cX11_live 64 = .ok (.aload_n 0, 1) := by decide +kernel
theorem dX11_live_65 : decode cX11_live 65 = .ok (.getfield 80, 3) := by decide +kernel
theorem dX11_live_68 : decode cX11_live 68 = .ok (.iconst 1, 1) := by decide +kernel
theorem dX11_live_69 : decode cX11_live 69 = .ok (.aload_n 0, 1) := by decide +kernel
theorem dX11_live_70 : decode cX11_live 70 = .ok (.getfield 76, 3) := by decide +kernel
theorem dX11_live_73 : decode cX11_live 73 = .ok (.getfield 452, 3) := by decide +kernel
theorem dX11_live_76 : decode cX11_live 76 = .ok (.iastore, 1) := by decide +kernel
theorem dX11_live_77 : decode cX11_live 77 = .ok (.aload_n 0, 1) := by decide +kernel
theorem dX11_live_78 : decode cX11_live 78 = .ok (.getfield 80, 3) := by decide +kernel
theorem dX11_live_81 : decode cX11_live 81 = .ok (.iconst 2, 1) := by decide +kernel
theorem dX11_live_82 : decode cX11_live 82 = .ok (.aload_n 0, 1) := by decide +kernel
theorem dX11_live_83 : decode cX11_live 83 = .ok (.getfield 76, 3) := by decide +kernel
theorem dX11_live_86 : decode cX11_live 86 = .ok (.getfield 455, 3) := by decide +kernel
theorem dX11_live_89 : decode cX11_live 89 = .ok (.iastore, 1) := by decide +kernel
theorem dX11_live_90 : decode cX11_live 90 = .ok (.aload_n 0, 1) := by decide +kernel
theorem dX11_live_91 : decode cX11_live 91 = .ok (.getfield 80, 3) := by decide +kernel
theorem dX11_live_94 : decode cX11_live 94 = .ok (.iconst 3, 1) := by decide +kernel
theorem dX11_live_95 : decode cX11_live 95 = .ok (.aload_n 0, 1) := by decide +kernel
theorem dX11_live_96 : decode cX11_live 96 = .ok (.getfield 76, 3) := by decide +kernel
theorem dX11_live_99 : decode cX11_live 99 = .ok (.getfield 457, 3) := by decide +kernel
theorem dX11_live_102 : decode cX11_live 102 = .ok (.iastore, 1) := by decide +kernel
theorem dX11_live_103 : decode cX11_live 103 = .ok (.aload_n 0, 1) := by decide +kernel
theorem dX11_live_104 : decode cX11_live 104 = .ok (.getfield 80, 3) := by decide +kernel
theorem dX11_live_107 : decode cX11_live 107 = .ok (.iconst 4, 1) := by decide +kernel
theorem dX11_live_108 : decode cX11_live 108 = .ok (.aload_n 0, 1) := by decide +kernel
theorem dX11_live_109 : decode cX11_live 109 = .ok (.getfield 76, 3) := by decide +kernel
theorem dX11_live_112 : decode cX11_live 112 = .ok (.getfield 458, 3) := by decide +kernel
theorem dX11_live_115 : decode cX11_live 115 = .ok (.iastore, 1) := by decide +kernel
theorem dX11_live_116 : decode cX11_live 116 = .ok (.aload_n 0, 1) := by decide +kernel
theorem dX11_live_117 : decode cX11_live 117 = .ok (.aload_n 0, 1) := by decide +kernel
theorem dX11_live_118 : decode cX11_live 118 = .ok (.getfield 76, 3) := by decide +kernel
theorem dX11_live_121 : decode cX11_live 121 = .ok (.getfield 461, 3) := by decide +kernel
theorem dX11_live_124 : decode cX11_live 124 = .ok (.invokevirtual 187, 3) := by decide +kernel
theorem dX11_live_127 : decode cX11_live 127 = .ok (.ireturn, 1) := by decide +kernel
noncomputable def fX11_live (rf : Nat → Nat → Nat) (a0 : Nat) (x1 : Int32) (μ0 : o_Mem) : Option (Int32 × o_Mem) :=
  o_bd (fX11_within rf x1.toInt64 (0 : Int64) (9999 : Int64) μ0) fun r1 μ1 =>
  if r1 = 0 then (
    o_bd (fX11_refuses rf a0 1 μ1) fun r4 μ10 =>
    some (r4, μ10))
  else (
    if (μ1.1 (rf a0 6) 0) = 0 then (
      o_bd (fX11_refuses rf a0 6 μ1) fun r3 μ9 =>
      some (r3, μ9))
    else (
      o_bd (fX2_run rf (rf a0 14) (rf a0 4) (rf a0 6) x1 μ1) fun _u μ2 =>
      o_seq (o_wI μ2 (rf a0 15) 0 (μ2.1 (rf a0 14) 0)) fun μ3 =>
      o_seq (o_wI μ3 (rf a0 15) 1 (μ3.1 (rf a0 14) 1)) fun μ4 =>
      o_seq (o_wI μ4 (rf a0 15) 2 (μ4.1 (rf a0 14) 2)) fun μ5 =>
      o_seq (o_wI μ5 (rf a0 15) 3 (μ5.1 (rf a0 14) 3)) fun μ6 =>
      o_seq (o_wI μ6 (rf a0 15) 4 (μ6.1 (rf a0 14) 4)) fun μ7 =>
      o_bd (fX11_gives rf a0 (μ7.1 (rf a0 14) 5) μ7) fun r2 μ8 =>
      some (r2, μ8)))
set_option maxRecDepth 20000 in
theorem dnX11_live {X : o_Cx} (hX : o_ok X) {d : Nat} {a0 : Nat} {x1 : Int32} {μ0 : o_Mem} {q : Int32 → o_Mem → Prop} (h0 : o_is X a0 (.inl 11)) (h : o_Post (fX11_live (o_rf X) a0 x1 μ0) q) : o_Ev X (d + 6) mX11_live 0 [some (.ref (o_ad X a0)), some (.int x1)] [] μ0 (o_QI q) := by
  unfold fX11_live at h
  refine s_iload_n (i := 1) dX11_live_0 rfl rfl ?_
  refine s_i2l dX11_live_1 ?_
  refine s_lconst (v := 0) dX11_live_2 rfl ?_
  refine s_ldc2 (v := 9999) w_6_52 dX11_live_3 ?_
  refine s_callSz (C := mX11_within) (As := [.long x1.toInt64, .long (0 : Int64), .long (9999 : Int64)]) (rest := []) (L0 := [some (.long x1.toInt64), none, some (.long (0 : Int64)), none, some (.long (9999 : Int64)), none]) clX11_118 dX11_live_6 rfl rfl (Nat.le_of_ble_eq_true rfl) (Nat.le_of_ble_eq_true rfl) (dnX11_within hX  (o_bdp h)) (fun r1 μ1 zr1 h => ?_)
  refine s_if_ne (tgt := 18) dX11_live_9 rfl (fun c1 => ?_) (fun c1 => ?_)
  · have h := o_if_f c1 h
    refine s_aload_n (i := 0) dX11_live_18 rfl rfl ?_
    refine s_getR hX h0 flX11_33 rfl dX11_live_19 (fun (g1 : o_is X (o_rf X a0 6) (.inl 3)) => ?_)
    refine s_getI g1 flX11_444 rfl dX11_live_22 ?_
    refine s_if_ne (tgt := 35) dX11_live_25 rfl (fun c1 => ?_) (fun c1 => ?_)
    · have h := o_if_f c1 h
      refine s_aload_n (i := 0) dX11_live_35 rfl rfl ?_
      refine s_getR hX h0 flX11_76 rfl dX11_live_36 (fun (g2 : o_is X (o_rf X a0 14) (.inl 2)) => ?_)
      refine s_aload_n (i := 0) dX11_live_39 rfl rfl ?_
      refine s_getR hX h0 flX11_23 rfl dX11_live_40 (fun (g3 : o_is X (o_rf X a0 4) (.inl 8)) => ?_)
      refine s_aload_n (i := 0) dX11_live_43 rfl rfl ?_
      refine s_getR hX h0 flX11_33 rfl dX11_live_44 (fun (g4 : o_is X (o_rf X a0 6) (.inl 3)) => ?_)
      refine s_iload_n (i := 1) dX11_live_47 rfl rfl ?_
      refine s_callVu (C := mX2_run) (As := [.ref (o_ad X (o_rf X a0 4)), .ref (o_ad X (o_rf X a0 6)), .int x1]) (rest := []) (L0 := [some (.ref (o_ad X (o_rf X a0 14))), some (.ref (o_ad X (o_rf X a0 4))), some (.ref (o_ad X (o_rf X a0 6))), some (.int x1), none, none]) hX g2 clX11_445 dX11_live_48 rfl rfl (Nat.le_of_ble_eq_true rfl) (Nat.le_of_ble_eq_true rfl) (dnX2_run hX g2 g3 g4 (o_bdp h)) (fun _u μ2 h => ?_)
      refine s_aload_n (i := 0) dX11_live_51 rfl rfl ?_
      refine s_getR hX h0 flX11_80 rfl dX11_live_52 (fun (g5 : o_is X (o_rf X a0 15) (.inr (0, 5))) => ?_)
      refine s_iconst dX11_live_55 kI_0 ?_
      refine s_aload_n (i := 0) dX11_live_56 rfl rfl ?_
      refine s_getR hX h0 flX11_76 rfl dX11_live_57 (fun (g6 : o_is X (o_rf X a0 14) (.inl 2)) => ?_)
      refine s_getI g6 flX11_449 rfl dX11_live_60 ?_
      refine s_iastK hX g5 ⟨by decide, by decide⟩ kN_0 dX11_live_63 (o_gen h (fun μ3 h => ?_))
      refine s_aload_n (i := 0) dX11_live_64 rfl rfl ?_
      refine s_getR hX h0 flX11_80 rfl dX11_live_65 (fun (g7 : o_is X (o_rf X a0 15) (.inr (0, 5))) => ?_)
      refine s_iconst dX11_live_68 kI_1 ?_
      refine s_aload_n (i := 0) dX11_live_69 rfl rfl ?_
      refine s_getR hX h0 flX11_76 rfl dX11_live_70 (fun (g8 : o_is X (o_rf X a0 14) (.inl 2)) => ?_)
      refine s_getI g8 flX11_452 rfl dX11_live_73 ?_
      refine s_iastK hX g7 ⟨by decide, by decide⟩ kN_1 dX11_live_76 (o_gen h (fun μ4 h => ?_))
      refine s_aload_n (i := 0) dX11_live_77 rfl rfl ?_
      refine s_getR hX h0 flX11_80 rfl dX11_live_78 (fun (g9 : o_is X (o_rf X a0 15) (.inr (0, 5))) => ?_)
      refine s_iconst dX11_live_81 kI_2 ?_
      refine s_aload_n (i := 0) dX11_live_82 rfl rfl ?_
      refine s_getR hX h0 flX11_76 rfl dX11_live_83 (fun (g10 : o_is X (o_rf X a0 14) (.inl 2)) => ?_)
      refine s_getI g10 flX11_455 rfl dX11_live_86 ?_
      refine s_iastK hX g9 ⟨by decide, by decide⟩ kN_2 dX11_live_89 (o_gen h (fun μ5 h => ?_))
      refine s_aload_n (i := 0) dX11_live_90 rfl rfl ?_
      refine s_getR hX h0 flX11_80 rfl dX11_live_91 (fun (g11 : o_is X (o_rf X a0 15) (.inr (0, 5))) => ?_)
      refine s_iconst dX11_live_94 kI_3 ?_
      refine s_aload_n (i := 0) dX11_live_95 rfl rfl ?_
      refine s_getR hX h0 flX11_76 rfl dX11_live_96 (fun (g12 : o_is X (o_rf X a0 14) (.inl 2)) => ?_)
      refine s_getI g12 flX11_457 rfl dX11_live_99 ?_
      refine s_iastK hX g11 ⟨by decide, by decide⟩ kN_3 dX11_live_102 (o_gen h (fun μ6 h => ?_))
      refine s_aload_n (i := 0) dX11_live_103 rfl rfl ?_
      refine s_getR hX h0 flX11_80 rfl dX11_live_104 (fun (g13 : o_is X (o_rf X a0 15) (.inr (0, 5))) => ?_)
      refine s_iconst dX11_live_107 kI_4 ?_
      refine s_aload_n (i := 0) dX11_live_108 rfl rfl ?_
      refine s_getR hX h0 flX11_76 rfl dX11_live_109 (fun (g14 : o_is X (o_rf X a0 14) (.inl 2)) => ?_)
      refine s_getI g14 flX11_458 rfl dX11_live_112 ?_
      refine s_iastK hX g13 ⟨by decide, by decide⟩ kN_4 dX11_live_115 (o_gen h (fun μ7 h => ?_))
      refine s_aload_n (i := 0) dX11_live_116 rfl rfl ?_
      refine s_aload_n (i := 0) dX11_live_117 rfl rfl ?_
      refine s_getR hX h0 flX11_76 rfl dX11_live_118 (fun (g15 : o_is X (o_rf X a0 14) (.inl 2)) => ?_)
      refine s_getI g15 flX11_461 rfl dX11_live_121 ?_
      refine s_callVi (C := mX11_gives) (As := [.int (μ7.1 (o_rf X a0 14) 5)]) (rest := []) (L0 := [some (.ref (o_ad X a0)), some (.int (μ7.1 (o_rf X a0 14) 5))]) hX h0 clX11_187 dX11_live_124 rfl rfl (Nat.le_of_ble_eq_true rfl) (Nat.le_of_ble_eq_true rfl) (dnX11_gives hX h0 (o_bdp h)) (fun r2 μ8 h => ?_)
      exact s_ireturn rfl dX11_live_127 ⟨_, rfl, o_ret h⟩
    · have h := o_if_t c1 h
      refine s_aload_n (i := 0) dX11_live_28 rfl rfl ?_
      refine s_bipush dX11_live_29 kB_6 ?_
      refine s_callVi (C := mX11_refuses) (As := [.int 6]) (rest := []) (L0 := [some (.ref (o_ad X a0)), some (.int 6)]) hX h0 clX11_139 dX11_live_31 rfl rfl (Nat.le_of_ble_eq_true rfl) (Nat.le_of_ble_eq_true rfl) (dnX11_refuses hX h0 (o_bdp h)) (fun r3 μ9 h => ?_)
      exact s_ireturn rfl dX11_live_34 ⟨_, rfl, o_ret h⟩
  · have h := o_if_t c1 h
    refine s_aload_n (i := 0) dX11_live_12 rfl rfl ?_
    refine s_iconst dX11_live_13 kI_1 ?_
    refine s_callVi (C := mX11_refuses) (As := [.int 1]) (rest := []) (L0 := [some (.ref (o_ad X a0)), some (.int 1)]) hX h0 clX11_139 dX11_live_14 rfl rfl (Nat.le_of_ble_eq_true rfl) (Nat.le_of_ble_eq_true rfl) (dnX11_refuses hX h0 (o_bdp h)) (fun r4 μ10 h => ?_)
    exact s_ireturn rfl dX11_live_17 ⟨_, rfl, o_ret h⟩
theorem dX11_lived_0 : decode cX11_lived 0 = .ok (.iload_n 1, 1) := by decide +kernel
theorem dX11_lived_1 : decode cX11_lived 1 = .ok (.i2l, 1) := by decide +kernel
theorem dX11_lived_2 : decode cX11_lived 2 = .ok (.lconst 0, 1) := by decide +kernel
theorem dX11_lived_3 : decode cX11_lived 3 = .ok (.ldc2_w 275, 3) := by decide +kernel
theorem dX11_lived_6 : decode cX11_lived 6 = .ok (.invokestatic 118, 3) := by decide +kernel
theorem dX11_lived_9 : decode cX11_lived 9 = .ok (.ifCond .ne 9, 3) := by decide +kernel
theorem dX11_lived_12 : decode cX11_lived 12 = .ok (.aload_n 0, 1) := by decide +kernel
theorem dX11_lived_13 : decode cX11_lived 13 = .ok (.iconst 1, 1) := by decide +kernel
theorem dX11_lived_14 : decode cX11_lived 14 = .ok (.invokevirtual 139, 3) := by decide +kernel
theorem dX11_lived_17 : decode cX11_lived 17 = .ok (.ireturn, 1) := by decide +kernel
theorem dX11_lived_18 : decode cX11_lived 18 = .ok (.aload_n 0, 1) := by decide +kernel
theorem dX11_lived_19 : decode cX11_lived 19 = .ok (.getfield 80, 3) := by decide +kernel
theorem dX11_lived_22 : decode cX11_lived 22 = .ok (.iconst 0, 1) := by decide +kernel
theorem dX11_lived_23 : decode cX11_lived 23 = .ok (.iaload, 1) := by decide +kernel
theorem dX11_lived_24 : decode cX11_lived 24 = .ok (.iconst (-1), 1) := by decide +kernel
theorem dX11_lived_25 : decode cX11_lived 25 = .ok (.if_icmp .ne 12, 3) := by decide +kernel
theorem dX11_lived_28 : decode cX11_lived 28 = .ok (.aload_n 0, 1) := by decide +kernel
theorem dX11_lived_29 : decode cX11_lived 29 = .ok (.bipush 6, 2) := by decide +kernel
theorem dX11_lived_31 : decode cX11_lived 31 = .ok (.invokevirtual 139, 3) := by decide +kernel
theorem dX11_lived_34 : decode cX11_lived 34 = .ok (.goto 13, 3) := by decide +kernel
theorem dX11_lived_37 : decode cX11_lived 37 = .ok (.aload_n 0, 1) := by decide +kernel
theorem dX11_lived_38 : decode cX11_lived 38 = .ok (.aload_n 0, 1) := by decide +kernel
theorem dX11_lived_39 : decode cX11_lived 39 = .ok (.getfield 80, 3) := by decide +kernel
theorem dX11_lived_42 : decode cX11_lived 42 = .ok (.iload_n 1, 1) := by decide +kernel
theorem dX11_lived_43 : decode cX11_lived 43 = .ok (.iaload, 1) := by decide +kernel
theorem dX11_lived_44 : decode cX11_lived 44 = .ok (.invokevirtual 187, 3) := by decide +kernel
theorem dX11_lived_47 : decode cX11_lived 47 = .ok (.ireturn, 1) := by decide +kernel
noncomputable def fX11_lived (rf : Nat → Nat → Nat) (a0 : Nat) (x1 : Int32) (μ0 : o_Mem) : Option (Int32 × o_Mem) :=
  o_bd (fX11_within rf x1.toInt64 (0 : Int64) (4 : Int64) μ0) fun r1 μ1 =>
  if r1 = 0 then (
    o_bd (fX11_refuses rf a0 1 μ1) fun r4 μ4 =>
    some (r4, μ4))
  else (
    if (μ1.1 (rf a0 15) 0) = (-1) then (
      o_bd (fX11_refuses rf a0 6 μ1) fun r3 μ3 =>
      some (r3, μ3))
    else (
      o_ck (0 ≤ (x1).toInt ∧ (x1).toInt < 5) <|
      o_bd (fX11_gives rf a0 (μ1.1 (rf a0 15) x1.toNatClampNeg) μ1) fun r2 μ2 =>
      some (r2, μ2)))
set_option maxRecDepth 20000 in
theorem dnX11_lived {X : o_Cx} (hX : o_ok X) {d : Nat} {a0 : Nat} {x1 : Int32} {μ0 : o_Mem} {q : Int32 → o_Mem → Prop} (h0 : o_is X a0 (.inl 11)) (h : o_Post (fX11_lived (o_rf X) a0 x1 μ0) q) : o_Ev X (d + 1) mX11_lived 0 [some (.ref (o_ad X a0)), some (.int x1)] [] μ0 (o_QI q) := by
  unfold fX11_lived at h
  refine s_iload_n (i := 1) dX11_lived_0 rfl rfl ?_
  refine s_i2l dX11_lived_1 ?_
  refine s_lconst (v := 0) dX11_lived_2 rfl ?_
  refine s_ldc2 (v := 4) w_4_161 dX11_lived_3 ?_
  refine s_callSz (C := mX11_within) (As := [.long x1.toInt64, .long (0 : Int64), .long (4 : Int64)]) (rest := []) (L0 := [some (.long x1.toInt64), none, some (.long (0 : Int64)), none, some (.long (4 : Int64)), none]) clX11_118 dX11_lived_6 rfl rfl (Nat.le_of_ble_eq_true rfl) (Nat.le_of_ble_eq_true rfl) (dnX11_within hX  (o_bdp h)) (fun r1 μ1 zr1 h => ?_)
  refine s_if_ne (tgt := 18) dX11_lived_9 rfl (fun c1 => ?_) (fun c1 => ?_)
  · have h := o_if_f c1 h
    refine s_aload_n (i := 0) dX11_lived_18 rfl rfl ?_
    refine s_getR hX h0 flX11_80 rfl dX11_lived_19 (fun (g1 : o_is X (o_rf X a0 15) (.inr (0, 5))) => ?_)
    refine s_iconst dX11_lived_22 kI_0 ?_
    refine s_ialdK g1 ⟨by decide, by decide⟩ kN_0 dX11_lived_23 ?_
    refine s_iconst dX11_lived_24 kI_m1 ?_
    refine s_icmp_ne (tgt := 37) dX11_lived_25 rfl (fun c1 => ?_) (fun c1 => ?_)
    · have h := o_if_f c1 h
      refine s_aload_n (i := 0) dX11_lived_37 rfl rfl ?_
      refine s_aload_n (i := 0) dX11_lived_38 rfl rfl ?_
      refine s_getR hX h0 flX11_80 rfl dX11_lived_39 (fun (g2 : o_is X (o_rf X a0 15) (.inr (0, 5))) => ?_)
      refine s_iload_n (i := 1) dX11_lived_42 rfl rfl ?_
      have hc := o_ck_c h
      have h := o_ck_k h
      refine s_ialdK g2 hc rfl dX11_lived_43 ?_
      refine s_callVi (C := mX11_gives) (As := [.int (μ1.1 (o_rf X a0 15) x1.toNatClampNeg)]) (rest := []) (L0 := [some (.ref (o_ad X a0)), some (.int (μ1.1 (o_rf X a0 15) x1.toNatClampNeg))]) hX h0 clX11_187 dX11_lived_44 rfl rfl (Nat.le_of_ble_eq_true rfl) (Nat.le_of_ble_eq_true rfl) (dnX11_gives hX h0 (o_bdp h)) (fun r2 μ2 h => ?_)
      exact s_ireturn rfl dX11_lived_47 ⟨_, rfl, o_ret h⟩
    · have h := o_if_t c1 h
      refine s_aload_n (i := 0) dX11_lived_28 rfl rfl ?_
      refine s_bipush dX11_lived_29 kB_6 ?_
      refine s_callVi (C := mX11_refuses) (As := [.int 6]) (rest := []) (L0 := [some (.ref (o_ad X a0)), some (.int 6)]) hX h0 clX11_139 dX11_lived_31 rfl rfl (Nat.le_of_ble_eq_true rfl) (Nat.le_of_ble_eq_true rfl) (dnX11_refuses hX h0 (o_bdp h)) (fun r3 μ3 h => ?_)
      refine s_goto (tgt := 47) dX11_lived_34 rfl ?_
      exact s_ireturn rfl dX11_lived_47 ⟨_, rfl, o_ret h⟩
  · have h := o_if_t c1 h
    refine s_aload_n (i := 0) dX11_lived_12 rfl rfl ?_
    refine s_iconst dX11_lived_13 kI_1 ?_
    refine s_callVi (C := mX11_refuses) (As := [.int 1]) (rest := []) (L0 := [some (.ref (o_ad X a0)), some (.int 1)]) hX h0 clX11_139 dX11_lived_14 rfl rfl (Nat.le_of_ble_eq_true rfl) (Nat.le_of_ble_eq_true rfl) (dnX11_refuses hX h0 (o_bdp h)) (fun r4 μ4 h => ?_)
    exact s_ireturn rfl dX11_lived_17 ⟨_, rfl, o_ret h⟩
theorem dX11_mean_0 : decode cX11_mean 0 = .ok (.iload_n 1, 1) := by decide +kernel
theorem dX11_mean_1 : decode cX11_mean 1 = .ok (.i2l, 1) := by decide +kernel
theorem dX11_mean_2 : decode cX11_mean 2 = .ok (.lconst 0, 1) := by decide +kernel
theorem dX11_mean_3 : decode cX11_mean 3 = .ok (.ldc2_w 442, 3) := by decide +kernel
theorem dX11_mean_6 : decode cX11_mean 6 = .ok (.invokestatic 118, 3) := by decide +kernel
theorem dX11_mean_9 : decode cX11_mean 9 = .ok (.ifCond .eq 26, 3) := by decide +kernel
theorem dX11_mean_12 : decode cX11_mean 12 = .ok (.iload_n 2, 1) := by decide +kernel
theorem dX11_mean_13 : decode cX11_mean 13 = .ok (.i2l, 1) := by decide +kernel
theorem dX11_mean_14 : decode cX11_mean 14 = .ok (.lconst 1, 1) := by decide +kernel
theorem dX11_mean_15 : decode cX11_mean 15 = .ok (.ldc2_w 462, 3) := by decide +kernel
theorem dX11_mean_18 : decode cX11_mean 18 = .ok (.invokestatic 118, 3) := by decide +kernel
theorem dX11_mean_21 : decode cX11_mean 21 = .ok (.ifCond .eq 14, 3) := by decide +kernel
theorem dX11_mean_24 : decode cX11_mean 24 = .ok (.iload_n 1, 1) := by decide +kernel
theorem dX11_mean_25 : decode cX11_mean 25 = .ok (.iload_n 2, 1) := by decide +kernel
theorem dX11_mean_26 : decode cX11_mean 26 = .ok (.iadd, 1) := by decide +kernel
theorem dX11_mean_27 : decode cX11_mean 27 = .ok (.iconst 1, 1) := by decide +kernel
theorem dX11_mean_28 : decode cX11_mean 28 = .ok (.isub, 1) := by decide +kernel
theorem dX11_mean_29 : decode cX11_mean 29 = .ok (.sipush 9999, 3) := by decide +kernel
theorem dX11_mean_32 : decode cX11_mean 32 = .ok (.if_icmp .le 9, 3) := by decide +kernel
theorem dX11_mean_35 : decode cX11_mean 35 = .ok (.aload_n 0, 1) := by decide +kernel
theorem dX11_mean_36 : decode cX11_mean 36 = .ok (.iconst 1, 1) := by decide +kernel
theorem dX11_mean_37 : decode cX11_mean 37 = .ok (.invokevirtual 124, 3) := by decide +kernel
theorem dX11_mean_40 : decode cX11_mean 40 = .ok (.ireturn, 1) := by decide +kernel
theorem dX11_mean_41 : decode cX11_mean 41 = .ok (.aload_n 0, 1) := by decide +kernel
theorem dX11_mean_42 : decode cX11_mean 42 = .ok (.getfield 33, 3) := by decide +kernel
theorem dX11_mean_45 : decode cX11_mean 45 = .ok (.getfield 444, 3) := by decide +kernel
theorem dX11_mean_48 : decode cX11_mean 48 = .ok (.ifCond .ne 10, 3) := by decide +kernel
theorem dX11_mean_51 : decode cX11_mean 51 = .ok (.aload_n 0, 1) := by decide +kernel
theorem dX11_mean_52 : decode cX11_mean 52 = .ok (.bipush 6, 2) := by decide +kernel
theorem dX11_mean_54 : decode cX11_mean 54 = .ok (.invokevirtual 124, 3) := by decide +kernel
theorem dX11_mean_57 : decode cX11_mean 57 = .ok (.ireturn, 1) := by decide +kernel
theorem dX11_mean_58 : decode cX11_mean 58 = .ok (.lconst 0, 1) := by decide +kernel
theorem dX11_mean_59 : decode cX11_mean 59 = .ok (.lstore_n 3, 1) := by decide +kernel
theorem dX11_mean_60 : decode cX11_mean 60 = .ok (.iconst 0, 1) := by decide +kernel
theorem dX11_mean_61 : decode cX11_mean 61 = .ok (.istore 5, 2) := by decide +kernel
theorem dX11_mean_63 : decode cX11_mean 63 = .ok (.iload 5, 2) := by decide +kernel
theorem dX11_mean_65 : decode cX11_mean 65 = .ok (.iload_n 2, 1) := by decide +kernel
theorem dX11_mean_66 : decode cX11_mean 66 = .ok (.if_icmp .ge 50, 3) := by decide +kernel
theorem dX11_mean_69 : decode cX11_mean 69 = .ok (.aload_n 0, 1) := by decide +kernel
theorem dX11_mean_70 : decode cX11_mean 70 = .ok (.getfield 27, 3) := by decide +kernel
theorem dX11_mean_73 : decode cX11_mean 73 = .ok (.aload_n 0, 1) := by decide +kernel
theorem dX11_mean_74 : decode cX11_mean 74 = .ok (.getfield 23, 3) := by decide +kernel
theorem dX11_mean_77 : decode cX11_mean 77 = .ok (.invokevirtual 177, 3) := by decide +kernel
theorem dX11_mean_80 : decode cX11_mean 80 = .ok (.aload_n 0, 1) := by decide +kernel
theorem dX11_mean_81 : decode cX11_mean 81 = .ok (.getfield 76, 3) := by decide +kernel
theorem dX11_mean_84 : decode cX11_mean 84 = .ok (.aload_n 0, 1) := by decide +kernel
theorem dX11_mean_85 : decode cX11_mean 85 = .ok (.getfield 27, 3) := by decide +kernel
theorem dX11_mean_88 : decode cX11_mean 88 = .ok (.aload_n 0, 1) := by decide +kernel
theorem dX11_mean_89 : decode cX11_mean 89 = .ok (.getfield 33, 3) := by decide +kernel
theorem dX11_mean_92 : decode cX11_mean 92 = .ok (.iload_n 1, 1) := by decide +kernel
theorem dX11_mean_93 : decode cX11_mean 93 = .ok (.iload 5, 2) := by decide +kernel
theorem dX11_mean_95 : decode cX11_mean 95 = .ok (.iadd, 1) := by decide +kernel
theorem dX11_mean_96 : decode cX11_mean 96 = .ok (.invokevirtual 445, 3) := by decide +kernel
theorem dX11_mean_99 : decode cX11_mean 99 = .ok (.lload_n 3, 1) := by decide +kernel
theorem dX11_mean_100 : decode cX11_mean 100 = .ok (.aload_n 0, 1) := by decide +kernel
theorem dX11_mean_101 : decode cX11_mean 101 = .ok (.getfield 27, 3) := by decide +kernel
theorem dX11_mean_104 : decode cX11_mean 104 = .ok (.invokevirtual 237, 3) := by decide +kernel
theorem dX11_mean_107 : decode cX11_mean 107 = .ok (.i2l, 1) := by decide +kernel
theorem dX11_mean_108 : decode cX11_mean 108 = .ok (.ladd, 1) := by decide +kernel
theorem dX11_mean_109 : decode cX11_mean 109 = .ok (.lstore_n 3, 1) := by decide +kernel
theorem dX11_mean_110 : decode cX11_mean 110 = .ok (.iinc 5 1, 3) := by decide +kernel
theorem dX11_mean_113 : decode cX11_mean 113 = .ok (.goto (-50), 3) := by decide +kernel
theorem dX11_mean_116 : decode cX11_mean 116 = .ok (.aload_n 0, 1) := by decide +kernel
theorem dX11_mean_117 : decode cX11_mean 117 = .ok (.lload_n 3, 1) := by decide +kernel
theorem dX11_mean_118 : decode cX11_mean 118 = .ok (.iload_n 2, 1) := by decide +kernel
theorem dX11_mean_119 : decode cX11_mean 119 = .ok (.i2l, 1) := by decide +kernel
theorem dX11_mean_120 : decode cX11_mean 120 = .ok (.invokevirtual 333, 3) := by decide +kernel
theorem dX11_mean_123 : decode cX11_mean 123 = .ok (.aload_n 0, 1) := by decide +kernel
theorem dX11_mean_124 : decode cX11_mean 124 = .ok (.iconst 0, 1) := by decide +kernel
theorem dX11_mean_125 : decode cX11_mean 125 = .ok (.invokevirtual 124, 3) := by decide +kernel
theorem dX11_mean_128 : decode cX11_mean 128 = .ok (.ireturn, 1) := by decide +kernel
noncomputable def fX11_mean_j35 (rf : Nat → Nat → Nat) (a0 : Nat) (μ0 : o_Mem) : Option (Int32 × o_Mem) :=
  o_bd (fX11_ends rf a0 1 μ0) fun r1 μ1 =>
  some (r1, μ1)
noncomputable def fX11_mean_s63 (rf : Nat → Nat → Nat) (a0 : Nat) (x1 : Int32) (x2 : Int32) (τ63 : Int64 × Int32) (μ0 : o_Mem) : Option ((Nat × (Int64 × Int32)) × o_Mem) :=
  if x2 ≤ τ63.2 then (
    some ((116, (τ63.1, 0)), μ0))
  else (
    o_bd (fX8_copyFrom rf (rf a0 5) (rf a0 4) μ0) fun _u μ1 =>
    o_bd (fX2_run rf (rf a0 14) (rf a0 5) (rf a0 6) (x1 + τ63.2) μ1) fun _u μ2 =>
    o_bd (fX8_worthOfAll rf (rf a0 5) μ2) fun r1 μ3 =>
    some ((63, ((τ63.1 + r1.toInt64), (τ63.2 + 1))), μ3))
noncomputable def fX11_mean (rf : Nat → Nat → Nat) (a0 : Nat) (x1 : Int32) (x2 : Int32) (μ0 : o_Mem) : Option (Int32 × o_Mem) :=
  o_bd (fX11_within rf x1.toInt64 (0 : Int64) (9999 : Int64) μ0) fun r1 μ1 =>
  if r1 = 0 then (
    fX11_mean_j35 rf a0 μ1)
  else (
    o_bd (fX11_within rf x2.toInt64 (1 : Int64) (20 : Int64) μ1) fun r2 μ2 =>
    if r2 = 0 then (
      fX11_mean_j35 rf a0 μ2)
    else (
      if ((x1 + x2) - 1) ≤ 9999 then (
        if (μ2.1 (rf a0 6) 0) = 0 then (
          o_bd (fX11_ends rf a0 6 μ2) fun r4 μ6 =>
          some (r4, μ6))
        else (
          o_bd (o_lp 63 (fX11_mean_s63 rf a0 x1 x2) o_fuel ((0 : Int64), 0) μ2) fun ex3 μ3 =>
          if ex3.1 = 116 then (
            o_bd (fX11_setFraction rf a0 ex3.2.1 x2.toInt64 μ3) fun _u μ4 =>
            o_bd (fX11_ends rf a0 0 μ4) fun r3 μ5 =>
            some (r3, μ5))
          else
            none))
      else (
        fX11_mean_j35 rf a0 μ2)))
set_option maxRecDepth 20000 in
theorem dnX11_mean_j35 {X : o_Cx} (hX : o_ok X) {d : Nat} {a0 : Nat} {μ0 : o_Mem} {q : Int32 → o_Mem → Prop} (h0 : o_is X a0 (.inl 11)) (h : o_Post (fX11_mean_j35 (o_rf X) a0 μ0) q) : o_Ev X (d + 6) mX11_mean 35 [some (.ref (o_ad X a0)), none, none, none, none, none] [] μ0 (o_QZ q) := by
  unfold fX11_mean_j35 at h
  refine s_aload_n (i := 0) dX11_mean_35 rfl rfl ?_
  refine s_iconst dX11_mean_36 kI_1 ?_
  refine s_callVz (C := mX11_ends) (As := [.int 1]) (rest := []) (L0 := [some (.ref (o_ad X a0)), some (.int 1)]) hX h0 clX11_124 dX11_mean_37 rfl rfl (Nat.le_of_ble_eq_true rfl) (Nat.le_of_ble_eq_true rfl) (dnX11_ends hX h0 (o_bdp h)) (fun r1 μ1 zr1 h => ?_)
  exact s_zreturn rfl zr1 dX11_mean_40 ⟨_, rfl, zr1, o_ret h⟩
set_option maxRecDepth 20000 in
theorem dnX11_mean_s63 {X : o_Cx} (hX : o_ok X) {d : Nat} {a0 : Nat} {x1 : Int32} {x2 : Int32} {τ63 : Int64 × Int32} {μ0 : o_Mem} {K : (Nat × (Int64 × Int32)) → o_Mem → Prop} {Q : Option Value → o_Mem → Prop} (h0 : o_is X a0 (.inl 11)) (h : o_Post (fX11_mean_s63 (o_rf X) a0 x1 x2 τ63 μ0) K) (kh : ∀ (τ63 : Int64 × Int32) (μ : o_Mem), K (63, τ63) μ → o_Ev X (d + 6) mX11_mean 63 [some (.ref (o_ad X a0)), some (.int x1), some (.int x2), some (.long τ63.1), none, some (.int τ63.2)] [] μ Q) (k116 : ∀ (τ63 : Int64 × Int32) (μ : o_Mem), K (116, τ63) μ → o_Ev X (d + 6) mX11_mean 116 [some (.ref (o_ad X a0)), none, some (.int x2), some (.long τ63.1), none, none] [] μ Q) : o_Ev X (d + 6) mX11_mean 63 [some (.ref (o_ad X a0)), some (.int x1), some (.int x2), some (.long τ63.1), none, some (.int τ63.2)] [] μ0 Q := by
  unfold fX11_mean_s63 at h
  refine s_iload dX11_mean_63 rfl ?_
  refine s_iload_n (i := 2) dX11_mean_65 rfl rfl ?_
  refine s_icmp_ge (tgt := 116) dX11_mean_66 rfl (fun c1 => ?_) (fun c1 => ?_)
  · have h := o_if_t c1 h
    refine s_mask [true, false, true, true, false, false] (L' := [some (.ref (o_ad X a0)), none, some (.int x2), some (.long τ63.1), none, none]) rfl ?_
    exact k116 (τ63.1, 0) _ (o_ret h)
  · have h := o_if_f c1 h
    refine s_aload_n (i := 0) dX11_mean_69 rfl rfl ?_
    refine s_getR hX h0 flX11_27 rfl dX11_mean_70 (fun (g1 : o_is X (o_rf X a0 5) (.inl 8)) => ?_)
    refine s_aload_n (i := 0) dX11_mean_73 rfl rfl ?_
    refine s_getR hX h0 flX11_23 rfl dX11_mean_74 (fun (g2 : o_is X (o_rf X a0 4) (.inl 8)) => ?_)
    refine s_callVu (C := mX8_copyFrom) (As := [.ref (o_ad X (o_rf X a0 4))]) (rest := []) (L0 := [some (.ref (o_ad X (o_rf X a0 5))), some (.ref (o_ad X (o_rf X a0 4)))]) hX g1 clX11_177 dX11_mean_77 rfl rfl (Nat.le_of_ble_eq_true rfl) (Nat.le_of_ble_eq_true rfl) (dnX8_copyFrom hX g1 g2 (o_bdp h)) (fun _u μ1 h => ?_)
    refine s_aload_n (i := 0) dX11_mean_80 rfl rfl ?_
    refine s_getR hX h0 flX11_76 rfl dX11_mean_81 (fun (g3 : o_is X (o_rf X a0 14) (.inl 2)) => ?_)
    refine s_aload_n (i := 0) dX11_mean_84 rfl rfl ?_
    refine s_getR hX h0 flX11_27 rfl dX11_mean_85 (fun (g4 : o_is X (o_rf X a0 5) (.inl 8)) => ?_)
    refine s_aload_n (i := 0) dX11_mean_88 rfl rfl ?_
    refine s_getR hX h0 flX11_33 rfl dX11_mean_89 (fun (g5 : o_is X (o_rf X a0 6) (.inl 3)) => ?_)
    refine s_iload_n (i := 1) dX11_mean_92 rfl rfl ?_
    refine s_iload dX11_mean_93 rfl ?_
    refine s_iadd dX11_mean_95 ?_
    refine s_callVu (C := mX2_run) (As := [.ref (o_ad X (o_rf X a0 5)), .ref (o_ad X (o_rf X a0 6)), .int (x1 + τ63.2)]) (rest := []) (L0 := [some (.ref (o_ad X (o_rf X a0 14))), some (.ref (o_ad X (o_rf X a0 5))), some (.ref (o_ad X (o_rf X a0 6))), some (.int (x1 + τ63.2)), none, none]) hX g3 clX11_445 dX11_mean_96 rfl rfl (Nat.le_of_ble_eq_true rfl) (Nat.le_of_ble_eq_true rfl) (dnX2_run hX g3 g4 g5 (o_bdp h)) (fun _u μ2 h => ?_)
    refine s_lload_n (i := 3) dX11_mean_99 rfl rfl ?_
    refine s_aload_n (i := 0) dX11_mean_100 rfl rfl ?_
    refine s_getR hX h0 flX11_27 rfl dX11_mean_101 (fun (g6 : o_is X (o_rf X a0 5) (.inl 8)) => ?_)
    refine s_callVi (C := mX8_worthOfAll) (As := []) (rest := [.long τ63.1]) (L0 := [some (.ref (o_ad X (o_rf X a0 5))), none, none]) hX g6 clX11_237 dX11_mean_104 rfl rfl (Nat.le_of_ble_eq_true rfl) (Nat.le_of_ble_eq_true rfl) (dnX8_worthOfAll hX g6 (o_bdp h)) (fun r1 μ3 h => ?_)
    refine s_i2l dX11_mean_107 ?_
    refine s_ladd dX11_mean_108 ?_
    refine s_lstore_n (i := 3) dX11_mean_109 rfl (Nat.le_of_ble_eq_true rfl) rfl ?_
    refine s_iinc (v := (τ63.2 + 1)) dX11_mean_110 rfl rfl (Nat.le_of_ble_eq_true rfl) rfl ?_
    refine s_goto (tgt := 63) dX11_mean_113 rfl ?_
    refine s_mask [true, true, true, true, false, true] (L' := [some (.ref (o_ad X a0)), some (.int x1), some (.int x2), some (.long (τ63.1 + r1.toInt64)), none, some (.int (τ63.2 + 1))]) rfl ?_
    exact kh ((τ63.1 + r1.toInt64), (τ63.2 + 1)) _ (o_ret h)
set_option maxRecDepth 20000 in
theorem dnX11_mean {X : o_Cx} (hX : o_ok X) {d : Nat} {a0 : Nat} {x1 : Int32} {x2 : Int32} {μ0 : o_Mem} {q : Int32 → o_Mem → Prop} (h0 : o_is X a0 (.inl 11)) (h : o_Post (fX11_mean (o_rf X) a0 x1 x2 μ0) q) : o_Ev X (d + 6) mX11_mean 0 [some (.ref (o_ad X a0)), some (.int x1), some (.int x2), none, none, none] [] μ0 (o_QZ q) := by
  unfold fX11_mean at h
  refine s_iload_n (i := 1) dX11_mean_0 rfl rfl ?_
  refine s_i2l dX11_mean_1 ?_
  refine s_lconst (v := 0) dX11_mean_2 rfl ?_
  refine s_ldc2 (v := 9999) w_6_52 dX11_mean_3 ?_
  refine s_callSz (C := mX11_within) (As := [.long x1.toInt64, .long (0 : Int64), .long (9999 : Int64)]) (rest := []) (L0 := [some (.long x1.toInt64), none, some (.long (0 : Int64)), none, some (.long (9999 : Int64)), none]) clX11_118 dX11_mean_6 rfl rfl (Nat.le_of_ble_eq_true rfl) (Nat.le_of_ble_eq_true rfl) (dnX11_within hX  (o_bdp h)) (fun r1 μ1 zr1 h => ?_)
  refine s_if_eq (tgt := 35) dX11_mean_9 rfl (fun c1 => ?_) (fun c1 => ?_)
  · have h := o_if_t c1 h
    refine s_mask [true, false, false, false, false, false] (L' := [some (.ref (o_ad X a0)), none, none, none, none, none]) rfl ?_
    exact dnX11_mean_j35 hX h0 h
  · have h := o_if_f c1 h
    refine s_iload_n (i := 2) dX11_mean_12 rfl rfl ?_
    refine s_i2l dX11_mean_13 ?_
    refine s_lconst (v := 1) dX11_mean_14 rfl ?_
    refine s_ldc2 (v := 20) w_6_97 dX11_mean_15 ?_
    refine s_callSz (C := mX11_within) (As := [.long x2.toInt64, .long (1 : Int64), .long (20 : Int64)]) (rest := []) (L0 := [some (.long x2.toInt64), none, some (.long (1 : Int64)), none, some (.long (20 : Int64)), none]) clX11_118 dX11_mean_18 rfl rfl (Nat.le_of_ble_eq_true rfl) (Nat.le_of_ble_eq_true rfl) (dnX11_within hX  (o_bdp h)) (fun r2 μ2 zr2 h => ?_)
    refine s_if_eq (tgt := 35) dX11_mean_21 rfl (fun c1 => ?_) (fun c1 => ?_)
    · have h := o_if_t c1 h
      refine s_mask [true, false, false, false, false, false] (L' := [some (.ref (o_ad X a0)), none, none, none, none, none]) rfl ?_
      exact dnX11_mean_j35 hX h0 h
    · have h := o_if_f c1 h
      refine s_iload_n (i := 1) dX11_mean_24 rfl rfl ?_
      refine s_iload_n (i := 2) dX11_mean_25 rfl rfl ?_
      refine s_iadd dX11_mean_26 ?_
      refine s_iconst dX11_mean_27 kI_1 ?_
      refine s_isub dX11_mean_28 ?_
      refine s_sipush dX11_mean_29 kS_9999 ?_
      refine s_icmp_le (tgt := 41) dX11_mean_32 rfl (fun c1 => ?_) (fun c1 => ?_)
      · have h := o_if_t c1 h
        refine s_aload_n (i := 0) dX11_mean_41 rfl rfl ?_
        refine s_getR hX h0 flX11_33 rfl dX11_mean_42 (fun (g1 : o_is X (o_rf X a0 6) (.inl 3)) => ?_)
        refine s_getI g1 flX11_444 rfl dX11_mean_45 ?_
        refine s_if_ne (tgt := 58) dX11_mean_48 rfl (fun c1 => ?_) (fun c1 => ?_)
        · have h := o_if_f c1 h
          refine s_lconst (v := 0) dX11_mean_58 rfl ?_
          refine s_lstore_n (i := 3) dX11_mean_59 rfl (Nat.le_of_ble_eq_true rfl) rfl ?_
          refine s_iconst dX11_mean_60 kI_0 ?_
          refine s_istore dX11_mean_61 (Nat.le_of_ble_eq_true rfl) rfl ?_
          refine s_mask [true, true, true, true, false, true] (L' := [some (.ref (o_ad X a0)), some (.int x1), some (.int x2), some (.long (0 : Int64)), none, some (.int 0)]) rfl ?_
          refine o_lp_ev (fun τ63 => [some (.ref (o_ad X a0)), some (.int x1), some (.int x2), some (.long τ63.1), none, some (.int τ63.2)]) (fun τ63 μ _K h kv ke63 => dnX11_mean_s63 hX h0 h kv (fun τ63 μ3 h => ?_)) o_fuel ((0 : Int64), 0) μ2 (o_bdp h)
          · have h := o_if_t rfl (ke63 (116, τ63) μ3 (o_ne rfl) h)
            refine s_aload_n (i := 0) dX11_mean_116 rfl rfl ?_
            refine s_lload_n (i := 3) dX11_mean_117 rfl rfl ?_
            refine s_iload_n (i := 2) dX11_mean_118 rfl rfl ?_
            refine s_i2l dX11_mean_119 ?_
            refine s_callVu (C := mX11_setFraction) (As := [.long τ63.1, .long x2.toInt64]) (rest := []) (L0 := [some (.ref (o_ad X a0)), some (.long τ63.1), none, some (.long x2.toInt64), none, none, none]) hX h0 clX11_333 dX11_mean_120 rfl rfl (Nat.le_of_ble_eq_true rfl) (Nat.le_of_ble_eq_true rfl) (dnX11_setFraction hX h0 (o_bdp h)) (fun _u μ4 h => ?_)
            refine s_aload_n (i := 0) dX11_mean_123 rfl rfl ?_
            refine s_iconst dX11_mean_124 kI_0 ?_
            refine s_callVz (C := mX11_ends) (As := [.int 0]) (rest := []) (L0 := [some (.ref (o_ad X a0)), some (.int 0)]) hX h0 clX11_124 dX11_mean_125 rfl rfl (Nat.le_of_ble_eq_true rfl) (Nat.le_of_ble_eq_true rfl) (dnX11_ends hX h0 (o_bdp h)) (fun r3 μ5 zr3 h => ?_)
            exact s_zreturn rfl zr3 dX11_mean_128 ⟨_, rfl, zr3, o_ret h⟩
        · have h := o_if_t c1 h
          refine s_aload_n (i := 0) dX11_mean_51 rfl rfl ?_
          refine s_bipush dX11_mean_52 kB_6 ?_
          refine s_callVz (C := mX11_ends) (As := [.int 6]) (rest := []) (L0 := [some (.ref (o_ad X a0)), some (.int 6)]) hX h0 clX11_124 dX11_mean_54 rfl rfl (Nat.le_of_ble_eq_true rfl) (Nat.le_of_ble_eq_true rfl) (dnX11_ends hX h0 (o_bdp h)) (fun r4 μ6 zr4 h => ?_)
          exact s_zreturn rfl zr4 dX11_mean_57 ⟨_, rfl, zr4, o_ret h⟩
      · have h := o_if_f c1 h
        refine s_mask [true, false, false, false, false, false] (L' := [some (.ref (o_ad X a0)), none, none, none, none, none]) rfl ?_
        exact dnX11_mean_j35 hX h0 h
theorem dX11_mark_0 : decode cX11_mark 0 = .ok (.aload_n 0, 1) := by decide +kernel
theorem dX11_mark_1 : decode cX11_mark 1 = .ok (.getfield 464, 3) := by decide +kernel
theorem dX11_mark_4 : decode cX11_mark 4 = .ok (.iconst 3, 1) := by decide +kernel
theorem dX11_mark_5 : decode cX11_mark 5 = .ok (.if_icmp .lt 9, 3) := by decide +kernel
theorem dX11_mark_8 : decode cX11_mark 8 = .ok (.aload_n 0, 1) := by decide +kernel
theorem dX11_mark_9 : decode cX11_mark 9 = .ok (.iconst 4, 1) := by decide +kernel
theorem dX11_mark_10 : decode cX11_mark 10 = .ok (.invokevirtual 139, 3) := by decide +kernel
theorem dX11_mark_13 : decode cX11_mark 13 = .ok (.ireturn, 1) := by decide +kernel
theorem dX11_mark_14 : decode cX11_mark 14 = .ok (.aload_n 0, 1) := by decide +kernel
theorem dX11_mark_15 : decode cX11_mark 15 = .ok (.getfield 40, 3) := by decide +kernel
theorem dX11_mark_18 : decode cX11_mark 18 = .ok (.aload_n 0, 1) := by decide +kernel
theorem dX11_mark_19 : decode cX11_mark 19 = .ok (.getfield 464, 3) := by decide +kernel
theorem dX11_mark_22 : decode cX11_mark 22 = .ok (.aaload, 1) := by decide +kernel
theorem dX11_mark_23 : decode cX11_mark 23 = .ok (.aload_n 0, 1) := by decide +kernel
theorem dX11_mark_24 : decode cX11_mark 24 = .ok (.getfield 23, 3) := by decide +kernel
theorem dX11_mark_27 : decode cX11_mark 27 = .ok (.invokevirtual 177, 3) := by decide +kernel
theorem dX11_mark_30 : decode cX11_mark 30 = .ok (.aload_n 0, 1) := by decide +kernel
theorem dX11_mark_31 : decode cX11_mark 31 = .ok (.getfield 44, 3) := by decide +kernel
theorem dX11_mark_34 : decode cX11_mark 34 = .ok (.aload_n 0, 1) := by decide +kernel
theorem dX11_mark_35 : decode cX11_mark 35 = .ok (.getfield 464, 3) := by decide +kernel
theorem dX11_mark_38 : decode cX11_mark 38 = .ok (.aaload, 1) := by decide +kernel
theorem dX11_mark_39 : decode cX11_mark 39 = .ok (.aload_n 0, 1) := by decide +kernel
theorem dX11_mark_40 : decode cX11_mark 40 = .ok (.getfield 33, 3) := by decide +kernel
theorem dX11_mark_43 : decode cX11_mark 43 = .ok (.invokevirtual 191, 3) := by decide +kernel
theorem dX11_mark_46 : decode cX11_mark 46 = .ok (.aload_n 0, 1) := by decide +kernel
theorem dX11_mark_47 : decode cX11_mark 47 = .ok (.dup, 1) := by decide +kernel
theorem dX11_mark_48 : decode cX11_mark 48 = .ok (.getfield 464, 3) := by decide +kernel
theorem dX11_mark_51 : decode cX11_mark 51 = .ok (.iconst 1, 1) := by decide +kernel
theorem dX11_mark_52 : decode cX11_mark 52 = .ok (.iadd, 1) := by decide +kernel
theorem dX11_mark_53 : decode cX11_mark 53 = .ok (.putfield 464, 3) := by decide +kernel
theorem dX11_mark_56 : decode cX11_mark 56 = .ok (.aload_n 0, 1) := by decide +kernel
theorem dX11_mark_57 : decode cX11_mark 57 = .ok (.aload_n 0, 1) := by decide +kernel
theorem dX11_mark_58 : decode cX11_mark 58 = .ok (.getfield 464, 3) := by decide +kernel
theorem dX11_mark_61 : decode cX11_mark 61 = .ok (.invokevirtual 187, 3) := by decide +kernel
theorem dX11_mark_64 : decode cX11_mark 64 = .ok (.ireturn, 1) := by decide +kernel
noncomputable def fX11_mark (rf : Nat → Nat → Nat) (a0 : Nat) (μ0 : o_Mem) : Option (Int32 × o_Mem) :=
  if (μ0.1 a0 10) < 3 then (
    o_ck (0 ≤ ((μ0.1 a0 10)).toInt ∧ ((μ0.1 a0 10)).toInt < 3) <|
    o_bd (fX8_copyFrom rf (rf (rf a0 8) ((μ0.1 a0 10)).toNatClampNeg) (rf a0 4) μ0) fun _u μ1 =>
    o_ck (0 ≤ ((μ1.1 a0 10)).toInt ∧ ((μ1.1 a0 10)).toInt < 3) <|
    o_bd (fX3_copyFrom rf (rf (rf a0 9) ((μ1.1 a0 10)).toNatClampNeg) (rf a0 6) μ1) fun _u μ2 =>
    o_seq (o_wI μ2 a0 10 ((μ2.1 a0 10) + 1)) fun μ3 =>
    o_bd (fX11_gives rf a0 (μ3.1 a0 10) μ3) fun r1 μ4 =>
    some (r1, μ4))
  else (
    o_bd (fX11_refuses rf a0 4 μ0) fun r2 μ5 =>
    some (r2, μ5))
set_option maxRecDepth 20000 in
theorem dnX11_mark {X : o_Cx} (hX : o_ok X) {d : Nat} {a0 : Nat} {μ0 : o_Mem} {q : Int32 → o_Mem → Prop} (h0 : o_is X a0 (.inl 11)) (h : o_Post (fX11_mark (o_rf X) a0 μ0) q) : o_Ev X (d + 3) mX11_mark 0 [some (.ref (o_ad X a0))] [] μ0 (o_QI q) := by
  unfold fX11_mark at h
  refine s_aload_n (i := 0) dX11_mark_0 rfl rfl ?_
  refine s_getI h0 flX11_464 rfl dX11_mark_1 ?_
  refine s_iconst dX11_mark_4 kI_3 ?_
  refine s_icmp_lt (tgt := 14) dX11_mark_5 rfl (fun c1 => ?_) (fun c1 => ?_)
  · have h := o_if_t c1 h
    refine s_aload_n (i := 0) dX11_mark_14 rfl rfl ?_
    refine s_getR hX h0 flX11_40 rfl dX11_mark_15 (fun (g1 : o_is X (o_rf X a0 8) (.inr (4, 3))) => ?_)
    refine s_aload_n (i := 0) dX11_mark_18 rfl rfl ?_
    refine s_getI h0 flX11_464 rfl dX11_mark_19 ?_
    have hc := o_ck_c h
    have h := o_ck_k h
    refine s_aaldK hX g1 (by decide) rfl hc rfl dX11_mark_22 (fun (g2 : o_is X (o_rf X (o_rf X a0 8) ((μ0.1 a0 10)).toNatClampNeg) (.inl 8)) => ?_)
    refine s_aload_n (i := 0) dX11_mark_23 rfl rfl ?_
    refine s_getR hX h0 flX11_23 rfl dX11_mark_24 (fun (g3 : o_is X (o_rf X a0 4) (.inl 8)) => ?_)
    refine s_callVu (C := mX8_copyFrom) (As := [.ref (o_ad X (o_rf X a0 4))]) (rest := []) (L0 := [some (.ref (o_ad X (o_rf X (o_rf X a0 8) ((μ0.1 a0 10)).toNatClampNeg))), some (.ref (o_ad X (o_rf X a0 4)))]) hX g2 clX11_177 dX11_mark_27 rfl rfl (Nat.le_of_ble_eq_true rfl) (Nat.le_of_ble_eq_true rfl) (dnX8_copyFrom hX g2 g3 (o_bdp h)) (fun _u μ1 h => ?_)
    refine s_aload_n (i := 0) dX11_mark_30 rfl rfl ?_
    refine s_getR hX h0 flX11_44 rfl dX11_mark_31 (fun (g4 : o_is X (o_rf X a0 9) (.inr (5, 3))) => ?_)
    refine s_aload_n (i := 0) dX11_mark_34 rfl rfl ?_
    refine s_getI h0 flX11_464 rfl dX11_mark_35 ?_
    have hc := o_ck_c h
    have h := o_ck_k h
    refine s_aaldK hX g4 (by decide) rfl hc rfl dX11_mark_38 (fun (g5 : o_is X (o_rf X (o_rf X a0 9) ((μ1.1 a0 10)).toNatClampNeg) (.inl 3)) => ?_)
    refine s_aload_n (i := 0) dX11_mark_39 rfl rfl ?_
    refine s_getR hX h0 flX11_33 rfl dX11_mark_40 (fun (g6 : o_is X (o_rf X a0 6) (.inl 3)) => ?_)
    refine s_callVu (C := mX3_copyFrom) (As := [.ref (o_ad X (o_rf X a0 6))]) (rest := []) (L0 := [some (.ref (o_ad X (o_rf X (o_rf X a0 9) ((μ1.1 a0 10)).toNatClampNeg))), some (.ref (o_ad X (o_rf X a0 6)))]) hX g5 clX11_191 dX11_mark_43 rfl rfl (Nat.le_of_ble_eq_true rfl) (Nat.le_of_ble_eq_true rfl) (dnX3_copyFrom hX g5 g6 (o_bdp h)) (fun _u μ2 h => ?_)
    refine s_aload_n (i := 0) dX11_mark_46 rfl rfl ?_
    refine s_dup dX11_mark_47 rfl ?_
    refine s_getI h0 flX11_464 rfl dX11_mark_48 ?_
    refine s_iconst dX11_mark_51 kI_1 ?_
    refine s_iadd dX11_mark_52 ?_
    refine s_putI hX h0 fwX11_464 rfl dX11_mark_53 (o_gen h (fun μ3 h => ?_))
    refine s_aload_n (i := 0) dX11_mark_56 rfl rfl ?_
    refine s_aload_n (i := 0) dX11_mark_57 rfl rfl ?_
    refine s_getI h0 flX11_464 rfl dX11_mark_58 ?_
    refine s_callVi (C := mX11_gives) (As := [.int (μ3.1 a0 10)]) (rest := []) (L0 := [some (.ref (o_ad X a0)), some (.int (μ3.1 a0 10))]) hX h0 clX11_187 dX11_mark_61 rfl rfl (Nat.le_of_ble_eq_true rfl) (Nat.le_of_ble_eq_true rfl) (dnX11_gives hX h0 (o_bdp h)) (fun r1 μ4 h => ?_)
    exact s_ireturn rfl dX11_mark_64 ⟨_, rfl, o_ret h⟩
  · have h := o_if_f c1 h
    refine s_aload_n (i := 0) dX11_mark_8 rfl rfl ?_
    refine s_iconst dX11_mark_9 kI_4 ?_
    refine s_callVi (C := mX11_refuses) (As := [.int 4]) (rest := []) (L0 := [some (.ref (o_ad X a0)), some (.int 4)]) hX h0 clX11_139 dX11_mark_10 rfl rfl (Nat.le_of_ble_eq_true rfl) (Nat.le_of_ble_eq_true rfl) (dnX11_refuses hX h0 (o_bdp h)) (fun r2 μ5 h => ?_)
    exact s_ireturn rfl dX11_mark_13 ⟨_, rfl, o_ret h⟩
theorem dX11_undo_0 : decode cX11_undo 0 = .ok (.aload_n 0, 1) := by decide +kernel
theorem dX11_undo_1 : decode cX11_undo 1 = .ok (.getfield 464, 3) := by decide +kernel
theorem dX11_undo_4 : decode cX11_undo 4 = .ok (.ifCond .gt 10, 3) := by decide +kernel
theorem dX11_undo_7 : decode cX11_undo 7 = .ok (.aload_n 0, 1) := by decide +kernel
theorem dX11_undo_8 : decode cX11_undo 8 = .ok (.bipush 6, 2) := by decide +kernel
theorem dX11_undo_10 : decode cX11_undo 10 = .ok (.invokevirtual 139, 3) := by decide +kernel
theorem dX11_undo_13 : decode cX11_undo 13 = .ok (.ireturn, 1) := by decide +kernel
theorem dX11_undo_14 : decode cX11_undo 14 = .ok (.aload_n 0, 1) := by decide +kernel
theorem dX11_undo_15 : decode cX11_undo 15 = .ok (.dup, 1) := by decide +kernel
theorem dX11_undo_16 : decode cX11_undo 16 = .ok (.getfield 464, 3) := by decide +kernel
theorem dX11_undo_19 : decode cX11_undo 19 = .ok (.iconst 1, 1) := by decide +kernel
theorem dX11_undo_20 : decode cX11_undo 20 = .ok (.isub, 1) := by decide +kernel
theorem dX11_undo_21 : decode cX11_undo 21 = .ok (.putfield 464, 3) := by decide +kernel
theorem dX11_undo_24 : decode cX11_undo 24 = .ok (.aload_n 0, 1) := by decide +kernel
theorem dX11_undo_25 : decode cX11_undo 25 = .ok (.getfield 23, 3) := by decide +kernel
theorem dX11_undo_28 : decode cX11_undo 28 = .ok (.aload_n 0, 1) := by decide +kernel
theorem dX11_undo_29 : decode cX11_undo 29 = .ok (.getfield 40, 3) := by decide +kernel
theorem dX11_undo_32 : decode cX11_undo 32 = .ok (.aload_n 0, 1) := by decide +kernel
theorem dX11_undo_33 : decode cX11_undo 33 = .ok (.getfield 464, 3) := by decide +kernel
theorem dX11_undo_36 : decode cX11_undo 36 = .ok (.aaload, 1) := by decide +kernel
theorem dX11_undo_37 : decode cX11_undo 37 = .ok (.invokevirtual 177, 3) := by decide +kernel
theorem dX11_undo_40 : decode cX11_undo 40 = .ok (.aload_n 0, 1) := by decide +kernel
theorem dX11_undo_41 : decode cX11_undo 41 = .ok (.getfield 33, 3) := by decide +kernel
theorem dX11_undo_44 : decode cX11_undo 44 = .ok (.aload_n 0, 1) := by decide +kernel
theorem dX11_undo_45 : decode cX11_undo 45 = .ok (.getfield 44, 3) := by decide +kernel
theorem dX11_undo_48 : decode cX11_undo 48 = .ok (.aload_n 0, 1) := by decide +kernel
theorem dX11_undo_49 : decode cX11_undo 49 = .ok (.getfield 464, 3) := by decide +kernel
theorem dX11_undo_52 : decode cX11_undo 52 = .ok (.aaload, 1) := by decide +kernel
theorem dX11_undo_53 : decode cX11_undo 53 = .ok (.invokevirtual 191, 3) := by decide +kernel
theorem dX11_undo_56 : decode cX11_undo 56 = .ok (.aload_n 0, 1) := by decide +kernel
theorem dX11_undo_57 : decode cX11_undo 57 = .ok (.aload_n 0, 1) := by decide +kernel
theorem dX11_undo_58 : decode cX11_undo 58 = .ok (.getfield 464, 3) := by decide +kernel
theorem dX11_undo_61 : decode cX11_undo 61 = .ok (.invokevirtual 187, 3) := by decide +kernel
theorem dX11_undo_64 : decode cX11_undo 64 = .ok (.ireturn, 1) := by decide +kernel
noncomputable def fX11_undo (rf : Nat → Nat → Nat) (a0 : Nat) (μ0 : o_Mem) : Option (Int32 × o_Mem) :=
  if 0 < (μ0.1 a0 10) then (
    o_seq (o_wI μ0 a0 10 ((μ0.1 a0 10) - 1)) fun μ1 =>
    o_ck (0 ≤ ((μ1.1 a0 10)).toInt ∧ ((μ1.1 a0 10)).toInt < 3) <|
    o_bd (fX8_copyFrom rf (rf a0 4) (rf (rf a0 8) ((μ1.1 a0 10)).toNatClampNeg) μ1) fun _u μ2 =>
    o_ck (0 ≤ ((μ2.1 a0 10)).toInt ∧ ((μ2.1 a0 10)).toInt < 3) <|
    o_bd (fX3_copyFrom rf (rf a0 6) (rf (rf a0 9) ((μ2.1 a0 10)).toNatClampNeg) μ2) fun _u μ3 =>
    o_bd (fX11_gives rf a0 (μ3.1 a0 10) μ3) fun r1 μ4 =>
    some (r1, μ4))
  else (
    o_bd (fX11_refuses rf a0 6 μ0) fun r2 μ5 =>
    some (r2, μ5))
set_option maxRecDepth 20000 in
theorem dnX11_undo {X : o_Cx} (hX : o_ok X) {d : Nat} {a0 : Nat} {μ0 : o_Mem} {q : Int32 → o_Mem → Prop} (h0 : o_is X a0 (.inl 11)) (h : o_Post (fX11_undo (o_rf X) a0 μ0) q) : o_Ev X (d + 3) mX11_undo 0 [some (.ref (o_ad X a0))] [] μ0 (o_QI q) := by
  unfold fX11_undo at h
  refine s_aload_n (i := 0) dX11_undo_0 rfl rfl ?_
  refine s_getI h0 flX11_464 rfl dX11_undo_1 ?_
  refine s_if_gt (tgt := 14) dX11_undo_4 rfl (fun c1 => ?_) (fun c1 => ?_)
  · have h := o_if_t c1 h
    refine s_aload_n (i := 0) dX11_undo_14 rfl rfl ?_
    refine s_dup dX11_undo_15 rfl ?_
    refine s_getI h0 flX11_464 rfl dX11_undo_16 ?_
    refine s_iconst dX11_undo_19 kI_1 ?_
    refine s_isub dX11_undo_20 ?_
    refine s_putI hX h0 fwX11_464 rfl dX11_undo_21 (o_gen h (fun μ1 h => ?_))
    refine s_aload_n (i := 0) dX11_undo_24 rfl rfl ?_
    refine s_getR hX h0 flX11_23 rfl dX11_undo_25 (fun (g1 : o_is X (o_rf X a0 4) (.inl 8)) => ?_)
    refine s_aload_n (i := 0) dX11_undo_28 rfl rfl ?_
    refine s_getR hX h0 flX11_40 rfl dX11_undo_29 (fun (g2 : o_is X (o_rf X a0 8) (.inr (4, 3))) => ?_)
    refine s_aload_n (i := 0) dX11_undo_32 rfl rfl ?_
    refine s_getI h0 flX11_464 rfl dX11_undo_33 ?_
    have hc := o_ck_c h
    have h := o_ck_k h
    refine s_aaldK hX g2 (by decide) rfl hc rfl dX11_undo_36 (fun (g3 : o_is X (o_rf X (o_rf X a0 8) ((μ1.1 a0 10)).toNatClampNeg) (.inl 8)) => ?_)
    refine s_callVu (C := mX8_copyFrom) (As := [.ref (o_ad X (o_rf X (o_rf X a0 8) ((μ1.1 a0 10)).toNatClampNeg))]) (rest := []) (L0 := [some (.ref (o_ad X (o_rf X a0 4))), some (.ref (o_ad X (o_rf X (o_rf X a0 8) ((μ1.1 a0 10)).toNatClampNeg)))]) hX g1 clX11_177 dX11_undo_37 rfl rfl (Nat.le_of_ble_eq_true rfl) (Nat.le_of_ble_eq_true rfl) (dnX8_copyFrom hX g1 g3 (o_bdp h)) (fun _u μ2 h => ?_)
    refine s_aload_n (i := 0) dX11_undo_40 rfl rfl ?_
    refine s_getR hX h0 flX11_33 rfl dX11_undo_41 (fun (g4 : o_is X (o_rf X a0 6) (.inl 3)) => ?_)
    refine s_aload_n (i := 0) dX11_undo_44 rfl rfl ?_
    refine s_getR hX h0 flX11_44 rfl dX11_undo_45 (fun (g5 : o_is X (o_rf X a0 9) (.inr (5, 3))) => ?_)
    refine s_aload_n (i := 0) dX11_undo_48 rfl rfl ?_
    refine s_getI h0 flX11_464 rfl dX11_undo_49 ?_
    have hc := o_ck_c h
    have h := o_ck_k h
    refine s_aaldK hX g5 (by decide) rfl hc rfl dX11_undo_52 (fun (g6 : o_is X (o_rf X (o_rf X a0 9) ((μ2.1 a0 10)).toNatClampNeg) (.inl 3)) => ?_)
    refine s_callVu (C := mX3_copyFrom) (As := [.ref (o_ad X (o_rf X (o_rf X a0 9) ((μ2.1 a0 10)).toNatClampNeg))]) (rest := []) (L0 := [some (.ref (o_ad X (o_rf X a0 6))), some (.ref (o_ad X (o_rf X (o_rf X a0 9) ((μ2.1 a0 10)).toNatClampNeg)))]) hX g4 clX11_191 dX11_undo_53 rfl rfl (Nat.le_of_ble_eq_true rfl) (Nat.le_of_ble_eq_true rfl) (dnX3_copyFrom hX g4 g6 (o_bdp h)) (fun _u μ3 h => ?_)
    refine s_aload_n (i := 0) dX11_undo_56 rfl rfl ?_
    refine s_aload_n (i := 0) dX11_undo_57 rfl rfl ?_
    refine s_getI h0 flX11_464 rfl dX11_undo_58 ?_
    refine s_callVi (C := mX11_gives) (As := [.int (μ3.1 a0 10)]) (rest := []) (L0 := [some (.ref (o_ad X a0)), some (.int (μ3.1 a0 10))]) hX h0 clX11_187 dX11_undo_61 rfl rfl (Nat.le_of_ble_eq_true rfl) (Nat.le_of_ble_eq_true rfl) (dnX11_gives hX h0 (o_bdp h)) (fun r1 μ4 h => ?_)
    exact s_ireturn rfl dX11_undo_64 ⟨_, rfl, o_ret h⟩
  · have h := o_if_f c1 h
    refine s_aload_n (i := 0) dX11_undo_7 rfl rfl ?_
    refine s_bipush dX11_undo_8 kB_6 ?_
    refine s_callVi (C := mX11_refuses) (As := [.int 6]) (rest := []) (L0 := [some (.ref (o_ad X a0)), some (.int 6)]) hX h0 clX11_139 dX11_undo_10 rfl rfl (Nat.le_of_ble_eq_true rfl) (Nat.le_of_ble_eq_true rfl) (dnX11_refuses hX h0 (o_bdp h)) (fun r2 μ5 h => ?_)
    exact s_ireturn rfl dX11_undo_13 ⟨_, rfl, o_ret h⟩
theorem dX12_plain_0 : decode cX12_plain 0 = .ok (.iconst 0, 1) := by decide +kernel
theorem dX12_plain_1 : decode cX12_plain 1 = .ok (.istore_n 2, 1) := by decide +kernel
theorem dX12_plain_2 : decode cX12_plain 2 = .ok (.iload_n 2, 1) := by decide +kernel
theorem dX12_plain_3 : decode cX12_plain 3 = .ok (.sipush 626, 3) := by decide +kernel
theorem dX12_plain_6 : decode cX12_plain 6 = .ok (.if_icmp .ge 18, 3) := by decide +kernel
theorem dX12_plain_9 : decode cX12_plain 9 = .ok (.aload_n 0, 1) := by decide +kernel
theorem dX12_plain_10 : decode cX12_plain 10 = .ok (.getfield 7, 3) := by decide +kernel
theorem dX12_plain_13 : decode cX12_plain 13 = .ok (.iload_n 1, 1) := by decide +kernel
theorem dX12_plain_14 : decode cX12_plain 14 = .ok (.iload_n 2, 1) := by decide +kernel
theorem dX12_plain_15 : decode cX12_plain 15 = .ok (.iadd, 1) := by decide +kernel
theorem dX12_plain_16 : decode cX12_plain 16 = .ok (.iconst 0, 1) := by decide +kernel
theorem dX12_plain_17 : decode cX12_plain 17 = .ok (.iastore, 1) := by decide +kernel
theorem dX12_plain_18 : decode cX12_plain 18 = .ok (.iinc 2 1, 3) := by decide +kernel
theorem dX12_plain_21 : decode cX12_plain 21 = .ok (.goto (-19), 3) := by decide +kernel
theorem dX12_plain_24 : decode cX12_plain 24 = .ok (.iconst 0, 1) := by decide +kernel
theorem dX12_plain_25 : decode cX12_plain 25 = .ok (.istore_n 2, 1) := by decide +kernel
theorem dX12_plain_26 : decode cX12_plain 26 = .ok (.iload_n 2, 1) := by decide +kernel
theorem dX12_plain_27 : decode cX12_plain 27 = .ok (.bipush 48, 2) := by decide +kernel
theorem dX12_plain_29 : decode cX12_plain 29 = .ok (.if_icmp .ge 21, 3) := by decide +kernel
theorem dX12_plain_32 : decode cX12_plain 32 = .ok (.aload_n 0, 1) := by decide +kernel
theorem dX12_plain_33 : decode cX12_plain 33 = .ok (.getfield 7, 3) := by decide +kernel
theorem dX12_plain_36 : decode cX12_plain 36 = .ok (.iload_n 1, 1) := by decide +kernel
theorem dX12_plain_37 : decode cX12_plain 37 = .ok (.bipush 31, 2) := by decide +kernel
theorem dX12_plain_39 : decode cX12_plain 39 = .ok (.iadd, 1) := by decide +kernel
theorem dX12_plain_40 : decode cX12_plain 40 = .ok (.iload_n 2, 1) := by decide +kernel
theorem dX12_plain_41 : decode cX12_plain 41 = .ok (.iadd, 1) := by decide +kernel
theorem dX12_plain_42 : decode cX12_plain 42 = .ok (.iconst (-1), 1) := by decide +kernel
theorem dX12_plain_43 : decode cX12_plain 43 = .ok (.iastore, 1) := by decide +kernel
theorem dX12_plain_44 : decode cX12_plain 44 = .ok (.iinc 2 1, 3) := by decide +kernel
theorem dX12_plain_47 : decode cX12_plain 47 = .ok (.goto (-21), 3) := by decide +kernel
theorem dX12_plain_50 : decode cX12_plain 50 = .ok (.iconst 0, 1) := by decide +kernel
theorem dX12_plain_51 : decode cX12_plain 51 = .ok (.istore_n 2, 1) := by decide +kernel
theorem dX12_plain_52 : decode cX12_plain 52 = .ok (.iload_n 2, 1) := by decide +kernel
theorem dX12_plain_53 : decode cX12_plain 53 = .ok (.bipush 36, 2) := by decide +kernel
theorem dX12_plain_55 : decode cX12_plain 55 = .ok (.if_icmp .ge 23, 3) := by decide +kernel
theorem dX12_plain_58 : decode cX12_plain 58 = .ok (.aload_n 0, 1) := by decide +kernel
theorem dX12_plain_59 : decode cX12_plain 59 = .ok (.getfield 7, 3) := by decide +kernel
theorem dX12_plain_62 : decode cX12_plain 62 = .ok (.iload_n 1, 1) := by decide +kernel
theorem dX12_plain_63 : decode cX12_plain 63 = .ok (.bipush 79, 2) := by decide +kernel
theorem dX12_plain_65 : decode cX12_plain 65 = .ok (.iadd, 1) := by decide +kernel
theorem dX12_plain_66 : decode cX12_plain 66 = .ok (.iconst 2, 1) := by decide +kernel
theorem dX12_plain_67 : decode cX12_plain 67 = .ok (.iload_n 2, 1) := by decide +kernel
theorem dX12_plain_68 : decode cX12_plain 68 = .ok (.imul, 1) := by decide +kernel
theorem dX12_plain_69 : decode cX12_plain 69 = .ok (.iadd, 1) := by decide +kernel
theorem dX12_plain_70 : decode cX12_plain 70 = .ok (.iconst (-1), 1) := by decide +kernel
theorem dX12_plain_71 : decode cX12_plain 71 = .ok (.iastore, 1) := by decide +kernel
theorem dX12_plain_72 : decode cX12_plain 72 = .ok (.iinc 2 1, 3) := by decide +kernel
theorem dX12_plain_75 : decode cX12_plain 75 = .ok (.goto (-23), 3) := by decide +kernel
theorem dX12_plain_78 : decode cX12_plain 78 = .ok (.aload_n 0, 1) := by decide +kernel
theorem dX12_plain_79 : decode cX12_plain 79 = .ok (.getfield 7, 3) := by decide +kernel
theorem dX12_plain_82 : decode cX12_plain 82 = .ok (.iload_n 1, 1) := by decide +kernel
theorem dX12_plain_83 : decode cX12_plain 83 = .ok (.bipush 6, 2) := by decide +kernel
theorem dX12_plain_85 : decode cX12_plain 85 = .ok (.iadd, 1) := by decide +kernel
theorem dX12_plain_86 : decode cX12_plain 86 = .ok (.iconst 4, 1) := by decide +kernel
theorem dX12_plain_87 : decode cX12_plain 87 = .ok (.iastore, 1) := by decide +kernel
theorem dX12_plain_88 : decode cX12_plain 88 = .ok (.aload_n 0, 1) := by decide +kernel
theorem dX12_plain_89 : decode cX12_plain 89 = .ok (.getfield 7, 3) := by decide +kernel
theorem dX12_plain_92 : decode cX12_plain 92 = .ok (.iload_n 1, 1) := by decide +kernel
theorem dX12_plain_93 : decode cX12_plain 93 = .ok (.bipush 12, 2) := by decide +kernel
theorem dX12_plain_95 : decode cX12_plain 95 = .ok (.iadd, 1) := by decide +kernel
theorem dX12_plain_96 : decode cX12_plain 96 = .ok (.iconst (-1), 1) := by decide +kernel
theorem dX12_plain_97 : decode cX12_plain 97 = .ok (.iastore, 1) := by decide +kernel
theorem dX12_plain_98 : decode cX12_plain 98 = .ok (.return_, 1) := by decide +kernel
noncomputable def fX12_plain_s2 (rf : Nat → Nat → Nat) (a0 : Nat) (x1 : Int32) (τ2 : Int32) (μ0 : o_Mem) : Option ((Nat × (Int32)) × o_Mem) :=
  if 626 ≤ τ2 then (
    some ((24, 0), μ0))
  else (
    o_ck (0 ≤ ((x1 + τ2)).toInt ∧ ((x1 + τ2)).toInt < 3756) <|
    o_seq (o_wI μ0 (rf a0 0) (((x1 + τ2)).toNatClampNeg) 0) fun μ1 =>
    some ((2, (τ2 + 1)), μ1))
noncomputable def fX12_plain_s26 (rf : Nat → Nat → Nat) (a0 : Nat) (x1 : Int32) (τ26 : Int32) (μ0 : o_Mem) : Option ((Nat × (Int32)) × o_Mem) :=
  if 48 ≤ τ26 then (
    some ((50, 0), μ0))
  else (
    o_ck (0 ≤ (((x1 + 31) + τ26)).toInt ∧ (((x1 + 31) + τ26)).toInt < 3756) <|
    o_seq (o_wI μ0 (rf a0 0) ((((x1 + 31) + τ26)).toNatClampNeg) (-1)) fun μ1 =>
    some ((26, (τ26 + 1)), μ1))
noncomputable def fX12_plain_s52 (rf : Nat → Nat → Nat) (a0 : Nat) (x1 : Int32) (τ52 : Int32) (μ0 : o_Mem) : Option ((Nat × (Int32)) × o_Mem) :=
  if 36 ≤ τ52 then (
    some ((78, 0), μ0))
  else (
    o_ck (0 ≤ (((x1 + 79) + (2 * τ52))).toInt ∧ (((x1 + 79) + (2 * τ52))).toInt < 3756) <|
    o_seq (o_wI μ0 (rf a0 0) ((((x1 + 79) + (2 * τ52))).toNatClampNeg) (-1)) fun μ1 =>
    some ((52, (τ52 + 1)), μ1))
noncomputable def fX12_plain (rf : Nat → Nat → Nat) (a0 : Nat) (x1 : Int32) (μ0 : o_Mem) : Option (Unit × o_Mem) :=
  o_bd (o_lp 2 (fX12_plain_s2 rf a0 x1) o_fuel (0 : Int32) μ0) fun ex1 μ1 =>
  if ex1.1 = 24 then (
    o_bd (o_lp 26 (fX12_plain_s26 rf a0 x1) o_fuel (0 : Int32) μ1) fun ex2 μ2 =>
    if ex2.1 = 50 then (
      o_bd (o_lp 52 (fX12_plain_s52 rf a0 x1) o_fuel (0 : Int32) μ2) fun ex3 μ3 =>
      if ex3.1 = 78 then (
        o_ck (0 ≤ ((x1 + 6)).toInt ∧ ((x1 + 6)).toInt < 3756) <|
        o_seq (o_wI μ3 (rf a0 0) (((x1 + 6)).toNatClampNeg) 4) fun μ4 =>
        o_ck (0 ≤ ((x1 + 12)).toInt ∧ ((x1 + 12)).toInt < 3756) <|
        o_seq (o_wI μ4 (rf a0 0) (((x1 + 12)).toNatClampNeg) (-1)) fun μ5 =>
        some ((), μ5))
      else
        none)
    else
      none)
  else
    none
set_option maxRecDepth 20000 in
theorem dnX12_plain_s2 {X : o_Cx} (hX : o_ok X) {d : Nat} {a0 : Nat} {x1 : Int32} {τ2 : Int32} {μ0 : o_Mem} {K : (Nat × (Int32)) → o_Mem → Prop} {Q : Option Value → o_Mem → Prop} (h0 : o_is X a0 (.inl 12)) (h : o_Post (fX12_plain_s2 (o_rf X) a0 x1 τ2 μ0) K) (kh : ∀ (τ2 : Int32) (μ : o_Mem), K (2, τ2) μ → o_Ev X (d + 0) mX12_plain 2 [some (.ref (o_ad X a0)), some (.int x1), some (.int τ2)] [] μ Q) (k24 : ∀ (τ2 : Int32) (μ : o_Mem), K (24, τ2) μ → o_Ev X (d + 0) mX12_plain 24 [some (.ref (o_ad X a0)), some (.int x1), none] [] μ Q) : o_Ev X (d + 0) mX12_plain 2 [some (.ref (o_ad X a0)), some (.int x1), some (.int τ2)] [] μ0 Q := by
  unfold fX12_plain_s2 at h
  refine s_iload_n (i := 2) dX12_plain_2 rfl rfl ?_
  refine s_sipush dX12_plain_3 kS_626 ?_
  refine s_icmp_ge (tgt := 24) dX12_plain_6 rfl (fun c1 => ?_) (fun c1 => ?_)
  · have h := o_if_t c1 h
    refine s_mask [true, true, false] (L' := [some (.ref (o_ad X a0)), some (.int x1), none]) rfl ?_
    exact k24 0 _ (o_ret h)
  · have h := o_if_f c1 h
    refine s_aload_n (i := 0) dX12_plain_9 rfl rfl ?_
    refine s_getR hX h0 flX12_7 rfl dX12_plain_10 (fun (g1 : o_is X (o_rf X a0 0) (.inr (0, 3756))) => ?_)
    refine s_iload_n (i := 1) dX12_plain_13 rfl rfl ?_
    refine s_iload_n (i := 2) dX12_plain_14 rfl rfl ?_
    refine s_iadd dX12_plain_15 ?_
    refine s_iconst dX12_plain_16 kI_0 ?_
    have hc := o_ck_c h
    have h := o_ck_k h
    refine s_iastK hX g1 hc rfl dX12_plain_17 (o_gen h (fun μ1 h => ?_))
    refine s_iinc (v := (τ2 + 1)) dX12_plain_18 rfl rfl (Nat.le_of_ble_eq_true rfl) rfl ?_
    refine s_goto (tgt := 2) dX12_plain_21 rfl ?_
    refine s_mask [true, true, true] (L' := [some (.ref (o_ad X a0)), some (.int x1), some (.int (τ2 + 1))]) rfl ?_
    exact kh (τ2 + 1) _ (o_ret h)
set_option maxRecDepth 20000 in
theorem dnX12_plain_s26 {X : o_Cx} (hX : o_ok X) {d : Nat} {a0 : Nat} {x1 : Int32} {τ26 : Int32} {μ0 : o_Mem} {K : (Nat × (Int32)) → o_Mem → Prop} {Q : Option Value → o_Mem → Prop} (h0 : o_is X a0 (.inl 12)) (h : o_Post (fX12_plain_s26 (o_rf X) a0 x1 τ26 μ0) K) (kh : ∀ (τ26 : Int32) (μ : o_Mem), K (26, τ26) μ → o_Ev X (d + 0) mX12_plain 26 [some (.ref (o_ad X a0)), some (.int x1), some (.int τ26)] [] μ Q) (k50 : ∀ (τ26 : Int32) (μ : o_Mem), K (50, τ26) μ → o_Ev X (d + 0) mX12_plain 50 [some (.ref (o_ad X a0)), some (.int x1), none] [] μ Q) : o_Ev X (d + 0) mX12_plain 26 [some (.ref (o_ad X a0)), some (.int x1), some (.int τ26)] [] μ0 Q := by
  unfold fX12_plain_s26 at h
  refine s_iload_n (i := 2) dX12_plain_26 rfl rfl ?_
  refine s_bipush dX12_plain_27 kB_48 ?_
  refine s_icmp_ge (tgt := 50) dX12_plain_29 rfl (fun c1 => ?_) (fun c1 => ?_)
  · have h := o_if_t c1 h
    refine s_mask [true, true, false] (L' := [some (.ref (o_ad X a0)), some (.int x1), none]) rfl ?_
    exact k50 0 _ (o_ret h)
  · have h := o_if_f c1 h
    refine s_aload_n (i := 0) dX12_plain_32 rfl rfl ?_
    refine s_getR hX h0 flX12_7 rfl dX12_plain_33 (fun (g1 : o_is X (o_rf X a0 0) (.inr (0, 3756))) => ?_)
    refine s_iload_n (i := 1) dX12_plain_36 rfl rfl ?_
    refine s_bipush dX12_plain_37 kB_31 ?_
    refine s_iadd dX12_plain_39 ?_
    refine s_iload_n (i := 2) dX12_plain_40 rfl rfl ?_
    refine s_iadd dX12_plain_41 ?_
    refine s_iconst dX12_plain_42 kI_m1 ?_
    have hc := o_ck_c h
    have h := o_ck_k h
    refine s_iastK hX g1 hc rfl dX12_plain_43 (o_gen h (fun μ1 h => ?_))
    refine s_iinc (v := (τ26 + 1)) dX12_plain_44 rfl rfl (Nat.le_of_ble_eq_true rfl) rfl ?_
    refine s_goto (tgt := 26) dX12_plain_47 rfl ?_
    refine s_mask [true, true, true] (L' := [some (.ref (o_ad X a0)), some (.int x1), some (.int (τ26 + 1))]) rfl ?_
    exact kh (τ26 + 1) _ (o_ret h)
set_option maxRecDepth 20000 in
theorem dnX12_plain_s52 {X : o_Cx} (hX : o_ok X) {d : Nat} {a0 : Nat} {x1 : Int32} {τ52 : Int32} {μ0 : o_Mem} {K : (Nat × (Int32)) → o_Mem → Prop} {Q : Option Value → o_Mem → Prop} (h0 : o_is X a0 (.inl 12)) (h : o_Post (fX12_plain_s52 (o_rf X) a0 x1 τ52 μ0) K) (kh : ∀ (τ52 : Int32) (μ : o_Mem), K (52, τ52) μ → o_Ev X (d + 0) mX12_plain 52 [some (.ref (o_ad X a0)), some (.int x1), some (.int τ52)] [] μ Q) (k78 : ∀ (τ52 : Int32) (μ : o_Mem), K (78, τ52) μ → o_Ev X (d + 0) mX12_plain 78 [some (.ref (o_ad X a0)), some (.int x1), none] [] μ Q) : o_Ev X (d + 0) mX12_plain 52 [some (.ref (o_ad X a0)), some (.int x1), some (.int τ52)] [] μ0 Q := by
  unfold fX12_plain_s52 at h
  refine s_iload_n (i := 2) dX12_plain_52 rfl rfl ?_
  refine s_bipush dX12_plain_53 kB_36 ?_
  refine s_icmp_ge (tgt := 78) dX12_plain_55 rfl (fun c1 => ?_) (fun c1 => ?_)
  · have h := o_if_t c1 h
    refine s_mask [true, true, false] (L' := [some (.ref (o_ad X a0)), some (.int x1), none]) rfl ?_
    exact k78 0 _ (o_ret h)
  · have h := o_if_f c1 h
    refine s_aload_n (i := 0) dX12_plain_58 rfl rfl ?_
    refine s_getR hX h0 flX12_7 rfl dX12_plain_59 (fun (g1 : o_is X (o_rf X a0 0) (.inr (0, 3756))) => ?_)
    refine s_iload_n (i := 1) dX12_plain_62 rfl rfl ?_
    refine s_bipush dX12_plain_63 kB_79 ?_
    refine s_iadd dX12_plain_65 ?_
    refine s_iconst dX12_plain_66 kI_2 ?_
    refine s_iload_n (i := 2) dX12_plain_67 rfl rfl ?_
    refine s_imul dX12_plain_68 ?_
    refine s_iadd dX12_plain_69 ?_
    refine s_iconst dX12_plain_70 kI_m1 ?_
    have hc := o_ck_c h
    have h := o_ck_k h
    refine s_iastK hX g1 hc rfl dX12_plain_71 (o_gen h (fun μ1 h => ?_))
    refine s_iinc (v := (τ52 + 1)) dX12_plain_72 rfl rfl (Nat.le_of_ble_eq_true rfl) rfl ?_
    refine s_goto (tgt := 52) dX12_plain_75 rfl ?_
    refine s_mask [true, true, true] (L' := [some (.ref (o_ad X a0)), some (.int x1), some (.int (τ52 + 1))]) rfl ?_
    exact kh (τ52 + 1) _ (o_ret h)
set_option maxRecDepth 20000 in
theorem dnX12_plain {X : o_Cx} (hX : o_ok X) {d : Nat} {a0 : Nat} {x1 : Int32} {μ0 : o_Mem} {q : Unit → o_Mem → Prop} (h0 : o_is X a0 (.inl 12)) (h : o_Post (fX12_plain (o_rf X) a0 x1 μ0) q) : o_Ev X (d + 0) mX12_plain 0 [some (.ref (o_ad X a0)), some (.int x1), none] [] μ0 (o_QU q) := by
  unfold fX12_plain at h
  refine s_iconst dX12_plain_0 kI_0 ?_
  refine s_istore_n (i := 2) dX12_plain_1 rfl (Nat.le_of_ble_eq_true rfl) rfl ?_
  refine s_mask [true, true, true] (L' := [some (.ref (o_ad X a0)), some (.int x1), some (.int 0)]) rfl ?_
  refine o_lp_ev (fun τ2 => [some (.ref (o_ad X a0)), some (.int x1), some (.int τ2)]) (fun τ2 μ _K h kv ke2 => dnX12_plain_s2 hX h0 h kv (fun τ2 μ1 h => ?_)) o_fuel 0 μ0 (o_bdp h)
  · have h := o_if_t rfl (ke2 (24, τ2) μ1 (o_ne rfl) h)
    refine s_iconst dX12_plain_24 kI_0 ?_
    refine s_istore_n (i := 2) dX12_plain_25 rfl (Nat.le_of_ble_eq_true rfl) rfl ?_
    refine s_mask [true, true, true] (L' := [some (.ref (o_ad X a0)), some (.int x1), some (.int 0)]) rfl ?_
    refine o_lp_ev (fun τ26 => [some (.ref (o_ad X a0)), some (.int x1), some (.int τ26)]) (fun τ26 μ _K h kv ke26 => dnX12_plain_s26 hX h0 h kv (fun τ26 μ2 h => ?_)) o_fuel 0 μ1 (o_bdp h)
    · have h := o_if_t rfl (ke26 (50, τ26) μ2 (o_ne rfl) h)
      refine s_iconst dX12_plain_50 kI_0 ?_
      refine s_istore_n (i := 2) dX12_plain_51 rfl (Nat.le_of_ble_eq_true rfl) rfl ?_
      refine s_mask [true, true, true] (L' := [some (.ref (o_ad X a0)), some (.int x1), some (.int 0)]) rfl ?_
      refine o_lp_ev (fun τ52 => [some (.ref (o_ad X a0)), some (.int x1), some (.int τ52)]) (fun τ52 μ _K h kv ke52 => dnX12_plain_s52 hX h0 h kv (fun τ52 μ3 h => ?_)) o_fuel 0 μ2 (o_bdp h)
      · have h := o_if_t rfl (ke52 (78, τ52) μ3 (o_ne rfl) h)
        refine s_aload_n (i := 0) dX12_plain_78 rfl rfl ?_
        refine s_getR hX h0 flX12_7 rfl dX12_plain_79 (fun (g1 : o_is X (o_rf X a0 0) (.inr (0, 3756))) => ?_)
        refine s_iload_n (i := 1) dX12_plain_82 rfl rfl ?_
        refine s_bipush dX12_plain_83 kB_6 ?_
        refine s_iadd dX12_plain_85 ?_
        refine s_iconst dX12_plain_86 kI_4 ?_
        have hc := o_ck_c h
        have h := o_ck_k h
        refine s_iastK hX g1 hc rfl dX12_plain_87 (o_gen h (fun μ4 h => ?_))
        refine s_aload_n (i := 0) dX12_plain_88 rfl rfl ?_
        refine s_getR hX h0 flX12_7 rfl dX12_plain_89 (fun (g2 : o_is X (o_rf X a0 0) (.inr (0, 3756))) => ?_)
        refine s_iload_n (i := 1) dX12_plain_92 rfl rfl ?_
        refine s_bipush dX12_plain_93 kB_12 ?_
        refine s_iadd dX12_plain_95 ?_
        refine s_iconst dX12_plain_96 kI_m1 ?_
        have hc := o_ck_c h
        have h := o_ck_k h
        refine s_iastK hX g2 hc rfl dX12_plain_97 (o_gen h (fun μ5 h => ?_))
        exact s_return rfl dX12_plain_98 ⟨rfl, o_ret h⟩
theorem dX12_status_0 : decode cX12_status 0 = .ok (.aload_n 0, 1) := by decide +kernel
theorem dX12_status_1 : decode cX12_status 1 = .ok (.getfield 81, 3) := by decide +kernel
theorem dX12_status_4 : decode cX12_status 4 = .ok (.ireturn, 1) := by decide +kernel
noncomputable def fX12_status (rf : Nat → Nat → Nat) (a0 : Nat) (μ0 : o_Mem) : Option (Int32 × o_Mem) :=
  some ((μ0.1 a0 2), μ0)
set_option maxRecDepth 20000 in
theorem dnX12_status {X : o_Cx} (hX : o_ok X) {d : Nat} {a0 : Nat} {μ0 : o_Mem} {q : Int32 → o_Mem → Prop} (h0 : o_is X a0 (.inl 12)) (h : o_Post (fX12_status (o_rf X) a0 μ0) q) : o_Ev X (d + 0) mX12_status 0 [some (.ref (o_ad X a0))] [] μ0 (o_QI q) := by
  unfold fX12_status at h
  refine s_aload_n (i := 0) dX12_status_0 rfl rfl ?_
  refine s_getI h0 flX12_81 rfl dX12_status_1 ?_
  exact s_ireturn rfl dX12_status_4 ⟨_, rfl, o_ret h⟩
theorem dX12_top_0 : decode cX12_top 0 = .ok (.aload_n 0, 1) := by decide +kernel
theorem dX12_top_1 : decode cX12_top 1 = .ok (.getfield 84, 3) := by decide +kernel
theorem dX12_top_4 : decode cX12_top 4 = .ok (.lreturn, 1) := by decide +kernel
noncomputable def fX12_top (rf : Nat → Nat → Nat) (a0 : Nat) (μ0 : o_Mem) : Option (Int64 × o_Mem) :=
  some ((μ0.2 a0 3), μ0)
set_option maxRecDepth 20000 in
theorem dnX12_top {X : o_Cx} (hX : o_ok X) {d : Nat} {a0 : Nat} {μ0 : o_Mem} {q : Int64 → o_Mem → Prop} (h0 : o_is X a0 (.inl 12)) (h : o_Post (fX12_top (o_rf X) a0 μ0) q) : o_Ev X (d + 0) mX12_top 0 [some (.ref (o_ad X a0))] [] μ0 (o_QL q) := by
  unfold fX12_top at h
  refine s_aload_n (i := 0) dX12_top_0 rfl rfl ?_
  refine s_getL h0 flX12_84 rfl dX12_top_1 ?_
  exact s_lreturn rfl dX12_top_4 ⟨_, rfl, o_ret h⟩
theorem dX12_bottom_0 : decode cX12_bottom 0 = .ok (.aload_n 0, 1) := by decide +kernel
theorem dX12_bottom_1 : decode cX12_bottom 1 = .ok (.getfield 17, 3) := by decide +kernel
theorem dX12_bottom_4 : decode cX12_bottom 4 = .ok (.lreturn, 1) := by decide +kernel
noncomputable def fX12_bottom (rf : Nat → Nat → Nat) (a0 : Nat) (μ0 : o_Mem) : Option (Int64 × o_Mem) :=
  some ((μ0.2 a0 4), μ0)
set_option maxRecDepth 20000 in
theorem dnX12_bottom {X : o_Cx} (hX : o_ok X) {d : Nat} {a0 : Nat} {μ0 : o_Mem} {q : Int64 → o_Mem → Prop} (h0 : o_is X a0 (.inl 12)) (h : o_Post (fX12_bottom (o_rf X) a0 μ0) q) : o_Ev X (d + 0) mX12_bottom 0 [some (.ref (o_ad X a0))] [] μ0 (o_QL q) := by
  unfold fX12_bottom at h
  refine s_aload_n (i := 0) dX12_bottom_0 rfl rfl ?_
  refine s_getL h0 flX12_17 rfl dX12_bottom_1 ?_
  exact s_lreturn rfl dX12_bottom_4 ⟨_, rfl, o_ret h⟩
theorem dX12_is_0 : decode cX12_is 0 = .ok (.aload_n 0, 1) := by decide +kernel
theorem dX12_is_1 : decode cX12_is 1 = .ok (.iload_n 1, 1) := by decide +kernel
theorem dX12_is_2 : decode cX12_is 2 = .ok (.putfield 81, 3) := by decide +kernel
theorem dX12_is_5 : decode cX12_is 5 = .ok (.iload_n 1, 1) := by decide +kernel
theorem dX12_is_6 : decode cX12_is 6 = .ok (.ifCond .ne 7, 3) := by decide +kernel
theorem dX12_is_9 : decode cX12_is 9 = .ok (.iconst 1, 1) := by decide +kernel
theorem dX12_is_10 : decode cX12_is 10 = .ok (.goto 4, 3) := by decide +kernel
theorem dX12_is_13 : decode cX12_is 13 = .ok (.iconst 0, 1) := by decide +kernel
theorem dX12_is_14 : decode cX12_is 14 = .ok (.ireturn, 1) := by decide +kernel
noncomputable def fX12_is (rf : Nat → Nat → Nat) (a0 : Nat) (x1 : Int32) (μ0 : o_Mem) : Option (Int32 × o_Mem) :=
  o_seq (o_wI μ0 a0 2 x1) fun μ1 =>
  if x1 = 0 then (
    some (1, μ1))
  else (
    some (0, μ1))
set_option maxRecDepth 20000 in
theorem dnX12_is {X : o_Cx} (hX : o_ok X) {d : Nat} {a0 : Nat} {x1 : Int32} {μ0 : o_Mem} {q : Int32 → o_Mem → Prop} (h0 : o_is X a0 (.inl 12)) (h : o_Post (fX12_is (o_rf X) a0 x1 μ0) q) : o_Ev X (d + 0) mX12_is 0 [some (.ref (o_ad X a0)), some (.int x1)] [] μ0 (o_QZ q) := by
  unfold fX12_is at h
  refine s_aload_n (i := 0) dX12_is_0 rfl rfl ?_
  refine s_iload_n (i := 1) dX12_is_1 rfl rfl ?_
  refine s_putI hX h0 fwX12_81 rfl dX12_is_2 (o_gen h (fun μ1 h => ?_))
  refine s_iload_n (i := 1) dX12_is_5 rfl rfl ?_
  refine s_if_ne (tgt := 13) dX12_is_6 rfl (fun c1 => ?_) (fun c1 => ?_)
  · have h := o_if_f c1 h
    refine s_iconst dX12_is_13 kI_0 ?_
    exact s_zreturn rfl (Or.inl rfl) dX12_is_14 ⟨_, rfl, (Or.inl rfl), o_ret h⟩
  · have h := o_if_t c1 h
    refine s_iconst dX12_is_9 kI_1 ?_
    refine s_goto (tgt := 14) dX12_is_10 rfl ?_
    exact s_zreturn rfl (Or.inr rfl) dX12_is_14 ⟨_, rfl, (Or.inr rfl), o_ret h⟩
theorem dX12_refuse_0 : decode cX12_refuse 0 = .ok (.aload_n 0, 1) := by decide +kernel
theorem dX12_refuse_1 : decode cX12_refuse 1 = .ok (.iload_n 1, 1) := by decide +kernel
theorem dX12_refuse_2 : decode cX12_refuse 2 = .ok (.putfield 81, 3) := by decide +kernel
theorem dX12_refuse_5 : decode cX12_refuse 5 = .ok (.iconst (-1), 1) := by decide +kernel
theorem dX12_refuse_6 : decode cX12_refuse 6 = .ok (.ireturn, 1) := by decide +kernel
noncomputable def fX12_refuse (rf : Nat → Nat → Nat) (a0 : Nat) (x1 : Int32) (μ0 : o_Mem) : Option (Int32 × o_Mem) :=
  o_seq (o_wI μ0 a0 2 x1) fun μ1 =>
  some ((-1), μ1)
set_option maxRecDepth 20000 in
theorem dnX12_refuse {X : o_Cx} (hX : o_ok X) {d : Nat} {a0 : Nat} {x1 : Int32} {μ0 : o_Mem} {q : Int32 → o_Mem → Prop} (h0 : o_is X a0 (.inl 12)) (h : o_Post (fX12_refuse (o_rf X) a0 x1 μ0) q) : o_Ev X (d + 0) mX12_refuse 0 [some (.ref (o_ad X a0)), some (.int x1)] [] μ0 (o_QI q) := by
  unfold fX12_refuse at h
  refine s_aload_n (i := 0) dX12_refuse_0 rfl rfl ?_
  refine s_iload_n (i := 1) dX12_refuse_1 rfl rfl ?_
  refine s_putI hX h0 fwX12_81 rfl dX12_refuse_2 (o_gen h (fun μ1 h => ?_))
  refine s_iconst dX12_refuse_5 kI_m1 ?_
  exact s_ireturn rfl dX12_refuse_6 ⟨_, rfl, o_ret h⟩
theorem dX12_gives_0 : decode cX12_gives 0 = .ok (.aload_n 0, 1) := by decide +kernel
theorem dX12_gives_1 : decode cX12_gives 1 = .ok (.iconst 0, 1) := by decide +kernel
theorem dX12_gives_2 : decode cX12_gives 2 = .ok (.putfield 81, 3) := by decide +kernel
theorem dX12_gives_5 : decode cX12_gives 5 = .ok (.iload_n 1, 1) := by decide +kernel
theorem dX12_gives_6 : decode cX12_gives 6 = .ok (.ireturn, 1) := by decide +kernel
noncomputable def fX12_gives (rf : Nat → Nat → Nat) (a0 : Nat) (x1 : Int32) (μ0 : o_Mem) : Option (Int32 × o_Mem) :=
  o_seq (o_wI μ0 a0 2 0) fun μ1 =>
  some (x1, μ1)
set_option maxRecDepth 20000 in
theorem dnX12_gives {X : o_Cx} (hX : o_ok X) {d : Nat} {a0 : Nat} {x1 : Int32} {μ0 : o_Mem} {q : Int32 → o_Mem → Prop} (h0 : o_is X a0 (.inl 12)) (h : o_Post (fX12_gives (o_rf X) a0 x1 μ0) q) : o_Ev X (d + 0) mX12_gives 0 [some (.ref (o_ad X a0)), some (.int x1)] [] μ0 (o_QI q) := by
  unfold fX12_gives at h
  refine s_aload_n (i := 0) dX12_gives_0 rfl rfl ?_
  refine s_iconst dX12_gives_1 kI_0 ?_
  refine s_putI hX h0 fwX12_81 rfl dX12_gives_2 (o_gen h (fun μ1 h => ?_))
  refine s_iload_n (i := 1) dX12_gives_5 rfl rfl ?_
  exact s_ireturn rfl dX12_gives_6 ⟨_, rfl, o_ret h⟩
theorem dX12_orNone_0 : decode cX12_orNone 0 = .ok (.iload_n 1, 1) := by decide +kernel
theorem dX12_orNone_1 : decode cX12_orNone 1 = .ok (.iconst (-1), 1) := by decide +kernel
theorem dX12_orNone_2 : decode cX12_orNone 2 = .ok (.if_icmp .ne 12, 3) := by decide +kernel
theorem dX12_orNone_5 : decode cX12_orNone 5 = .ok (.aload_n 0, 1) := by decide +kernel
theorem dX12_orNone_6 : decode cX12_orNone 6 = .ok (.bipush 6, 2) := by decide +kernel
theorem dX12_orNone_8 : decode cX12_orNone 8 = .ok (.invokevirtual 87, 3) := by decide +kernel
theorem dX12_orNone_11 : decode cX12_orNone 11 = .ok (.goto 8, 3) := by decide +kernel
theorem dX12_orNone_14 : decode cX12_orNone 14 = .ok (.aload_n 0, 1) := by decide +kernel
theorem dX12_orNone_15 : decode cX12_orNone 15 = .ok (.iload_n 1, 1) := by decide +kernel
theorem dX12_orNone_16 : decode cX12_orNone 16 = .ok (.invokevirtual 91, 3) := by decide +kernel
theorem dX12_orNone_19 : decode cX12_orNone 19 = .ok (.ireturn, 1) := by decide +kernel
noncomputable def fX12_orNone (rf : Nat → Nat → Nat) (a0 : Nat) (x1 : Int32) (μ0 : o_Mem) : Option (Int32 × o_Mem) :=
  if x1 = (-1) then (
    o_bd (fX12_refuse rf a0 6 μ0) fun r2 μ2 =>
    some (r2, μ2))
  else (
    o_bd (fX12_gives rf a0 x1 μ0) fun r1 μ1 =>
    some (r1, μ1))
set_option maxRecDepth 20000 in
theorem dnX12_orNone {X : o_Cx} (hX : o_ok X) {d : Nat} {a0 : Nat} {x1 : Int32} {μ0 : o_Mem} {q : Int32 → o_Mem → Prop} (h0 : o_is X a0 (.inl 12)) (h : o_Post (fX12_orNone (o_rf X) a0 x1 μ0) q) : o_Ev X (d + 1) mX12_orNone 0 [some (.ref (o_ad X a0)), some (.int x1)] [] μ0 (o_QI q) := by
  unfold fX12_orNone at h
  refine s_iload_n (i := 1) dX12_orNone_0 rfl rfl ?_
  refine s_iconst dX12_orNone_1 kI_m1 ?_
  refine s_icmp_ne (tgt := 14) dX12_orNone_2 rfl (fun c1 => ?_) (fun c1 => ?_)
  · have h := o_if_f c1 h
    refine s_aload_n (i := 0) dX12_orNone_14 rfl rfl ?_
    refine s_iload_n (i := 1) dX12_orNone_15 rfl rfl ?_
    refine s_callVi (C := mX12_gives) (As := [.int x1]) (rest := []) (L0 := [some (.ref (o_ad X a0)), some (.int x1)]) hX h0 clX12_91 dX12_orNone_16 rfl rfl (Nat.le_of_ble_eq_true rfl) (Nat.le_of_ble_eq_true rfl) (dnX12_gives hX h0 (o_bdp h)) (fun r1 μ1 h => ?_)
    exact s_ireturn rfl dX12_orNone_19 ⟨_, rfl, o_ret h⟩
  · have h := o_if_t c1 h
    refine s_aload_n (i := 0) dX12_orNone_5 rfl rfl ?_
    refine s_bipush dX12_orNone_6 kB_6 ?_
    refine s_callVi (C := mX12_refuse) (As := [.int 6]) (rest := []) (L0 := [some (.ref (o_ad X a0)), some (.int 6)]) hX h0 clX12_87 dX12_orNone_8 rfl rfl (Nat.le_of_ble_eq_true rfl) (Nat.le_of_ble_eq_true rfl) (dnX12_refuse hX h0 (o_bdp h)) (fun r2 μ2 h => ?_)
    refine s_goto (tgt := 19) dX12_orNone_11 rfl ?_
    exact s_ireturn rfl dX12_orNone_19 ⟨_, rfl, o_ret h⟩
theorem dX12_tellsBy_0 : decode cX12_tellsBy 0 = .ok (.lload_n 1, 1) := by decide +kernel
theorem dX12_tellsBy_1 : decode cX12_tellsBy 1 = .ok (.lstore 5, 2) := by decide +kernel
theorem dX12_tellsBy_3 : decode cX12_tellsBy 3 = .ok (.lload_n 3, 1) := by decide +kernel
theorem dX12_tellsBy_4 : decode cX12_tellsBy 4 = .ok (.lstore 7, 2) := by decide +kernel
theorem dX12_tellsBy_6 : decode cX12_tellsBy 6 = .ok (.lload 7, 2) := by decide +kernel
theorem dX12_tellsBy_8 : decode cX12_tellsBy 8 = .ok (.lconst 0, 1) := by decide +kernel
theorem dX12_tellsBy_9 : decode cX12_tellsBy 9 = .ok (.lcmp, 1) := by decide +kernel
theorem dX12_tellsBy_10 : decode cX12_tellsBy 10 = .ok (.ifCond .eq 21, 3) := by decide +kernel
theorem dX12_tellsBy_13 : decode cX12_tellsBy 13 = .ok (.lload 5, 2) := by decide +kernel
theorem dX12_tellsBy_15 : decode cX12_tellsBy 15 = .ok (.lload 7, 2) := by decide +kernel
theorem dX12_tellsBy_17 : decode cX12_tellsBy 17 = .ok (.lrem, 1) := by decide +kernel
theorem dX12_tellsBy_18 : decode cX12_tellsBy 18 = .ok (.lstore 9, 2) := by decide +kernel
theorem dX12_tellsBy_20 : decode cX12_tellsBy 20 = .ok (.lload 7, 2) := by decide +kernel
theorem dX12_tellsBy_22 : decode cX12_tellsBy 22 = .ok (.lstore 5, 2) := by decide +kernel
theorem dX12_tellsBy_24 : decode cX12_tellsBy 24 = .ok (.lload 9, 2) := by decide +kernel
theorem dX12_tellsBy_26 : decode cX12_tellsBy 26 = .ok (.lstore 7, 2) := by decide +kernel
theorem dX12_tellsBy_28 : decode cX12_tellsBy 28 = .ok (.goto (-22), 3) := by decide +kernel
theorem dX12_tellsBy_31 : decode cX12_tellsBy 31 = .ok (.aload_n 0, 1) := by decide +kernel
theorem dX12_tellsBy_32 : decode cX12_tellsBy 32 = .ok (.lload_n 1, 1) := by decide +kernel
theorem dX12_tellsBy_33 : decode cX12_tellsBy 33 = .ok (.lload 5, 2) := by decide +kernel
theorem dX12_tellsBy_35 : decode cX12_tellsBy 35 = .ok (.ldiv, 1) := by decide +kernel
theorem dX12_tellsBy_36 : decode cX12_tellsBy 36 = .ok (.putfield 84, 3) := by decide +kernel
theorem dX12_tellsBy_39 : decode cX12_tellsBy 39 = .ok (.aload_n 0, 1) := by decide +kernel
theorem dX12_tellsBy_40 : decode cX12_tellsBy 40 = .ok (.lload_n 3, 1) := by decide +kernel
theorem dX12_tellsBy_41 : decode cX12_tellsBy 41 = .ok (.lload 5, 2) := by decide +kernel
theorem dX12_tellsBy_43 : decode cX12_tellsBy 43 = .ok (.ldiv, 1) := by decide +kernel
theorem dX12_tellsBy_44 : decode cX12_tellsBy 44 = .ok (.putfield 17, 3) := by decide +kernel
theorem dX12_tellsBy_47 : decode cX12_tellsBy 47 = .ok (.aload_n 0, 1) := by decide +kernel
theorem dX12_tellsBy_48 : decode cX12_tellsBy 48 = .ok (.iconst 0, 1) := by decide +kernel
theorem dX12_tellsBy_49 : decode cX12_tellsBy 49 = .ok (.invokevirtual 94, 3) := by decide +kernel
theorem dX12_tellsBy_52 : decode cX12_tellsBy 52 = .ok (.ireturn, 1) := by decide +kernel
noncomputable def fX12_tellsBy_s6 (rf : Nat → Nat → Nat) (a0 : Nat) (x1 : Int64) (x3 : Int64) (τ6 : Int64 × Int64) (μ0 : o_Mem) : Option ((Nat × (Int64 × Int64)) × o_Mem) :=
  if τ6.2 = (0 : Int64) then (
    some ((31, (τ6.1, 0)), μ0))
  else (
    o_ck (¬ τ6.2 = 0) <|
    some ((6, (τ6.2, (τ6.1 - τ6.1 / τ6.2 * τ6.2))), μ0))
noncomputable def fX12_tellsBy (rf : Nat → Nat → Nat) (a0 : Nat) (x1 : Int64) (x3 : Int64) (μ0 : o_Mem) : Option (Int32 × o_Mem) :=
  o_bd (o_lp 6 (fX12_tellsBy_s6 rf a0 x1 x3) o_fuel (x1, x3) μ0) fun ex1 μ1 =>
  if ex1.1 = 31 then (
    o_ck (¬ ex1.2.1 = 0) <|
    o_seq (o_wL μ1 a0 3 (x1 / ex1.2.1)) fun μ2 =>
    o_ck (¬ ex1.2.1 = 0) <|
    o_seq (o_wL μ2 a0 4 (x3 / ex1.2.1)) fun μ3 =>
    o_bd (fX12_is rf a0 0 μ3) fun r1 μ4 =>
    some (r1, μ4))
  else
    none
set_option maxRecDepth 20000 in
theorem dnX12_tellsBy_s6 {X : o_Cx} (hX : o_ok X) {d : Nat} {a0 : Nat} {x1 : Int64} {x3 : Int64} {τ6 : Int64 × Int64} {μ0 : o_Mem} {K : (Nat × (Int64 × Int64)) → o_Mem → Prop} {Q : Option Value → o_Mem → Prop} (h0 : o_is X a0 (.inl 12)) (h : o_Post (fX12_tellsBy_s6 (o_rf X) a0 x1 x3 τ6 μ0) K) (kh : ∀ (τ6 : Int64 × Int64) (μ : o_Mem), K (6, τ6) μ → o_Ev X (d + 1) mX12_tellsBy 6 [some (.ref (o_ad X a0)), some (.long x1), none, some (.long x3), none, some (.long τ6.1), none, some (.long τ6.2), none, none, none] [] μ Q) (k31 : ∀ (τ6 : Int64 × Int64) (μ : o_Mem), K (31, τ6) μ → o_Ev X (d + 1) mX12_tellsBy 31 [some (.ref (o_ad X a0)), some (.long x1), none, some (.long x3), none, some (.long τ6.1), none, none, none, none, none] [] μ Q) : o_Ev X (d + 1) mX12_tellsBy 6 [some (.ref (o_ad X a0)), some (.long x1), none, some (.long x3), none, some (.long τ6.1), none, some (.long τ6.2), none, none, none] [] μ0 Q := by
  unfold fX12_tellsBy_s6 at h
  refine s_lload dX12_tellsBy_6 rfl ?_
  refine s_lconst (v := 0) dX12_tellsBy_8 rfl ?_
  refine s_lif_eq (tgt := 31) dX12_tellsBy_9 dX12_tellsBy_10 rfl (fun c1 => ?_) (fun c1 => ?_)
  · have h := o_if_t c1 h
    refine s_mask [true, true, false, true, false, true, false, false, false, false, false] (L' := [some (.ref (o_ad X a0)), some (.long x1), none, some (.long x3), none, some (.long τ6.1), none, none, none, none, none]) rfl ?_
    exact k31 (τ6.1, 0) _ (o_ret h)
  · have h := o_if_f c1 h
    refine s_lload dX12_tellsBy_13 rfl ?_
    refine s_lload dX12_tellsBy_15 rfl ?_
    refine s_lrem dX12_tellsBy_17 (o_ck_c h) ?_
    have h := o_ck_k h
    refine s_lstore dX12_tellsBy_18 (Nat.le_of_ble_eq_true rfl) rfl ?_
    refine s_lload dX12_tellsBy_20 rfl ?_
    refine s_lstore dX12_tellsBy_22 (Nat.le_of_ble_eq_true rfl) rfl ?_
    refine s_lload dX12_tellsBy_24 rfl ?_
    refine s_lstore dX12_tellsBy_26 (Nat.le_of_ble_eq_true rfl) rfl ?_
    refine s_goto (tgt := 6) dX12_tellsBy_28 rfl ?_
    refine s_mask [true, true, false, true, false, true, false, true, false, false, false] (L' := [some (.ref (o_ad X a0)), some (.long x1), none, some (.long x3), none, some (.long τ6.2), none, some (.long (τ6.1 - τ6.1 / τ6.2 * τ6.2)), none, none, none]) rfl ?_
    exact kh (τ6.2, (τ6.1 - τ6.1 / τ6.2 * τ6.2)) _ (o_ret h)
set_option maxRecDepth 20000 in
theorem dnX12_tellsBy {X : o_Cx} (hX : o_ok X) {d : Nat} {a0 : Nat} {x1 : Int64} {x3 : Int64} {μ0 : o_Mem} {q : Int32 → o_Mem → Prop} (h0 : o_is X a0 (.inl 12)) (h : o_Post (fX12_tellsBy (o_rf X) a0 x1 x3 μ0) q) : o_Ev X (d + 1) mX12_tellsBy 0 [some (.ref (o_ad X a0)), some (.long x1), none, some (.long x3), none, none, none, none, none, none, none] [] μ0 (o_QZ q) := by
  unfold fX12_tellsBy at h
  refine s_lload_n (i := 1) dX12_tellsBy_0 rfl rfl ?_
  refine s_lstore dX12_tellsBy_1 (Nat.le_of_ble_eq_true rfl) rfl ?_
  refine s_lload_n (i := 3) dX12_tellsBy_3 rfl rfl ?_
  refine s_lstore dX12_tellsBy_4 (Nat.le_of_ble_eq_true rfl) rfl ?_
  refine s_mask [true, true, false, true, false, true, false, true, false, false, false] (L' := [some (.ref (o_ad X a0)), some (.long x1), none, some (.long x3), none, some (.long x1), none, some (.long x3), none, none, none]) rfl ?_
  refine o_lp_ev (fun τ6 => [some (.ref (o_ad X a0)), some (.long x1), none, some (.long x3), none, some (.long τ6.1), none, some (.long τ6.2), none, none, none]) (fun τ6 μ _K h kv ke6 => dnX12_tellsBy_s6 hX h0 h kv (fun τ6 μ1 h => ?_)) o_fuel (x1, x3) μ0 (o_bdp h)
  · have h := o_if_t rfl (ke6 (31, τ6) μ1 (o_ne rfl) h)
    refine s_aload_n (i := 0) dX12_tellsBy_31 rfl rfl ?_
    refine s_lload_n (i := 1) dX12_tellsBy_32 rfl rfl ?_
    refine s_lload dX12_tellsBy_33 rfl ?_
    refine s_ldiv dX12_tellsBy_35 (o_ck_c h) ?_
    have h := o_ck_k h
    refine s_putL hX h0 fwX12_84 rfl dX12_tellsBy_36 (o_gen h (fun μ2 h => ?_))
    refine s_aload_n (i := 0) dX12_tellsBy_39 rfl rfl ?_
    refine s_lload_n (i := 3) dX12_tellsBy_40 rfl rfl ?_
    refine s_lload dX12_tellsBy_41 rfl ?_
    refine s_ldiv dX12_tellsBy_43 (o_ck_c h) ?_
    have h := o_ck_k h
    refine s_putL hX h0 fwX12_17 rfl dX12_tellsBy_44 (o_gen h (fun μ3 h => ?_))
    refine s_aload_n (i := 0) dX12_tellsBy_47 rfl rfl ?_
    refine s_iconst dX12_tellsBy_48 kI_0 ?_
    refine s_callVz (C := mX12_is) (As := [.int 0]) (rest := []) (L0 := [some (.ref (o_ad X a0)), some (.int 0)]) hX h0 clX12_94 dX12_tellsBy_49 rfl rfl (Nat.le_of_ble_eq_true rfl) (Nat.le_of_ble_eq_true rfl) (dnX12_is hX h0 (o_bdp h)) (fun r1 μ4 zr1 h => ?_)
    exact s_zreturn rfl zr1 dX12_tellsBy_52 ⟨_, rfl, zr1, o_ret h⟩
