theorem dX12_spellAt_0 : decode cX12_spellAt 0 = .ok (.iload_n 3, 1) := by decide +kernel
theorem dX12_spellAt_1 : decode cX12_spellAt 1 = .ok (.i2l, 1) := by decide +kernel
theorem dX12_spellAt_2 : decode cX12_spellAt 2 = .ok (.lconst 0, 1) := by decide +kernel
theorem dX12_spellAt_3 : decode cX12_spellAt 3 = .ok (.iload_n 2, 1) := by decide +kernel
theorem dX12_spellAt_4 : decode cX12_spellAt 4 = .ok (.i2l, 1) := by decide +kernel
theorem dX12_spellAt_5 : decode cX12_spellAt 5 = .ok (.lconst 1, 1) := by decide +kernel
theorem dX12_spellAt_6 : decode cX12_spellAt 6 = .ok (.lsub, 1) := by decide +kernel
theorem dX12_spellAt_7 : decode cX12_spellAt 7 = .ok (.invokestatic 348, 3) := by decide +kernel
theorem dX12_spellAt_10 : decode cX12_spellAt 10 = .ok (.ifCond .eq 25, 3) := by decide +kernel
theorem dX12_spellAt_13 : decode cX12_spellAt 13 = .ok (.iload 4, 2) := by decide +kernel
theorem dX12_spellAt_15 : decode cX12_spellAt 15 = .ok (.i2l, 1) := by decide +kernel
theorem dX12_spellAt_16 : decode cX12_spellAt 16 = .ok (.lconst 0, 1) := by decide +kernel
theorem dX12_spellAt_17 : decode cX12_spellAt 17 = .ok (.ldc2_w 406, 3) := by decide +kernel
theorem dX12_spellAt_20 : decode cX12_spellAt 20 = .ok (.invokestatic 348, 3) := by decide +kernel
theorem dX12_spellAt_23 : decode cX12_spellAt 23 = .ok (.ifCond .eq 12, 3) := by decide +kernel
theorem dX12_spellAt_26 : decode cX12_spellAt 26 = .ok (.aload_n 0, 1) := by decide +kernel
theorem dX12_spellAt_27 : decode cX12_spellAt 27 = .ok (.iload_n 1, 1) := by decide +kernel
theorem dX12_spellAt_28 : decode cX12_spellAt 28 = .ok (.iload_n 2, 1) := by decide +kernel
theorem dX12_spellAt_29 : decode cX12_spellAt 29 = .ok (.invokevirtual 394, 3) := by decide +kernel
theorem dX12_spellAt_32 : decode cX12_spellAt 32 = .ok (.goto 4, 3) := by decide +kernel
theorem dX12_spellAt_35 : decode cX12_spellAt 35 = .ok (.iconst 1, 1) := by decide +kernel
theorem dX12_spellAt_36 : decode cX12_spellAt 36 = .ok (.istore 5, 2) := by decide +kernel
theorem dX12_spellAt_38 : decode cX12_spellAt 38 = .ok (.iload 5, 2) := by decide +kernel
theorem dX12_spellAt_40 : decode cX12_spellAt 40 = .ok (.ifCond .le 10, 3) := by decide +kernel
theorem dX12_spellAt_43 : decode cX12_spellAt 43 = .ok (.aload_n 0, 1) := by decide +kernel
theorem dX12_spellAt_44 : decode cX12_spellAt 44 = .ok (.iload 5, 2) := by decide +kernel
theorem dX12_spellAt_46 : decode cX12_spellAt 46 = .ok (.invokevirtual 87, 3) := by decide +kernel
theorem dX12_spellAt_49 : decode cX12_spellAt 49 = .ok (.ireturn, 1) := by decide +kernel
theorem dX12_spellAt_50 : decode cX12_spellAt 50 = .ok (.aload_n 0, 1) := by decide +kernel
theorem dX12_spellAt_51 : decode cX12_spellAt 51 = .ok (.iload_n 1, 1) := by decide +kernel
theorem dX12_spellAt_52 : decode cX12_spellAt 52 = .ok (.iload_n 2, 1) := by decide +kernel
theorem dX12_spellAt_53 : decode cX12_spellAt 53 = .ok (.invokevirtual 403, 3) := by decide +kernel
theorem dX12_spellAt_56 : decode cX12_spellAt 56 = .ok (.ifCond .ne 10, 3) := by decide +kernel
theorem dX12_spellAt_59 : decode cX12_spellAt 59 = .ok (.aload_n 0, 1) := by decide +kernel
theorem dX12_spellAt_60 : decode cX12_spellAt 60 = .ok (.bipush 6, 2) := by decide +kernel
theorem dX12_spellAt_62 : decode cX12_spellAt 62 = .ok (.invokevirtual 87, 3) := by decide +kernel
theorem dX12_spellAt_65 : decode cX12_spellAt 65 = .ok (.ireturn, 1) := by decide +kernel
theorem dX12_spellAt_66 : decode cX12_spellAt 66 = .ok (.aload_n 0, 1) := by decide +kernel
theorem dX12_spellAt_67 : decode cX12_spellAt 67 = .ok (.iload_n 1, 1) := by decide +kernel
theorem dX12_spellAt_68 : decode cX12_spellAt 68 = .ok (.iload_n 3, 1) := by decide +kernel
theorem dX12_spellAt_69 : decode cX12_spellAt 69 = .ok (.iconst 1, 1) := by decide +kernel
theorem dX12_spellAt_70 : decode cX12_spellAt 70 = .ok (.iadd, 1) := by decide +kernel
theorem dX12_spellAt_71 : decode cX12_spellAt 71 = .ok (.invokevirtual 403, 3) := by decide +kernel
theorem dX12_spellAt_74 : decode cX12_spellAt 74 = .ok (.pop, 1) := by decide +kernel
theorem dX12_spellAt_75 : decode cX12_spellAt 75 = .ok (.aload_n 0, 1) := by decide +kernel
theorem dX12_spellAt_76 : decode cX12_spellAt 76 = .ok (.aload_n 0, 1) := by decide +kernel
theorem dX12_spellAt_77 : decode cX12_spellAt 77 = .ok (.getfield 56, 3) := by decide +kernel
theorem dX12_spellAt_80 : decode cX12_spellAt 80 = .ok (.iload 4, 2) := by decide +kernel
theorem dX12_spellAt_82 : decode cX12_spellAt 82 = .ok (.iaload, 1) := by decide +kernel
theorem dX12_spellAt_83 : decode cX12_spellAt 83 = .ok (.invokevirtual 91, 3) := by decide +kernel
theorem dX12_spellAt_86 : decode cX12_spellAt 86 = .ok (.ireturn, 1) := by decide +kernel
noncomputable def fX12_spellAt_j36 (rf : Nat → Nat → Nat) (a0 : Nat) (x1 : Int32) (x2 : Int32) (x3 : Int32) (x4 : Int32) (y0 : Int32) (μ0 : o_Mem) : Option (Int32 × o_Mem) :=
  if y0 ≤ 0 then (
    o_bd (fX12_spellsTo rf a0 x1 x2 μ0) fun r1 μ1 =>
    if r1 = 0 then (
      o_bd (fX12_refuse rf a0 6 μ1) fun r4 μ4 =>
      some (r4, μ4))
    else (
      o_bd (fX12_spellsTo rf a0 x1 (x3 + 1) μ1) fun r2 μ2 =>
      o_ck (0 ≤ (x4).toInt ∧ (x4).toInt < 3) <|
      o_bd (fX12_gives rf a0 (μ2.1 (rf a0 27) x4.toNatClampNeg) μ2) fun r3 μ3 =>
      some (r3, μ3)))
  else (
    o_bd (fX12_refuse rf a0 y0 μ0) fun r5 μ5 =>
    some (r5, μ5))
noncomputable def fX12_spellAt_j35 (rf : Nat → Nat → Nat) (a0 : Nat) (x1 : Int32) (x2 : Int32) (x3 : Int32) (x4 : Int32) (μ0 : o_Mem) : Option (Int32 × o_Mem) :=
  fX12_spellAt_j36 rf a0 x1 x2 x3 x4 1 μ0
noncomputable def fX12_spellAt (rf : Nat → Nat → Nat) (a0 : Nat) (x1 : Int32) (x2 : Int32) (x3 : Int32) (x4 : Int32) (μ0 : o_Mem) : Option (Int32 × o_Mem) :=
  o_bd (fX12_isFrom rf x3.toInt64 (0 : Int64) (x2.toInt64 - (1 : Int64)) μ0) fun r1 μ1 =>
  if r1 = 0 then (
    fX12_spellAt_j35 rf a0 x1 x2 x3 x4 μ1)
  else (
    o_bd (fX12_isFrom rf x4.toInt64 (0 : Int64) (2 : Int64) μ1) fun r2 μ2 =>
    if r2 = 0 then (
      fX12_spellAt_j35 rf a0 x1 x2 x3 x4 μ2)
    else (
      o_bd (fX12_wrongRow rf a0 x1 x2 μ2) fun r3 μ3 =>
      fX12_spellAt_j36 rf a0 x1 x2 x3 x4 r3 μ3))
set_option maxRecDepth 20000 in
theorem dnX12_spellAt_j36 {X : o_Cx} (hX : o_ok X) {d : Nat} {a0 : Nat} {x1 : Int32} {x2 : Int32} {x3 : Int32} {x4 : Int32} {y0 : Int32} {μ0 : o_Mem} {q : Int32 → o_Mem → Prop} (h0 : o_is X a0 (.inl 12)) (h : o_Post (fX12_spellAt_j36 (o_rf X) a0 x1 x2 x3 x4 y0 μ0) q) : o_Ev X (d + 6) mX12_spellAt 36 [some (.ref (o_ad X a0)), some (.int x1), some (.int x2), some (.int x3), some (.int x4), none] [.int y0] μ0 (o_QI q) := by
  unfold fX12_spellAt_j36 at h
  refine s_istore dX12_spellAt_36 (Nat.le_of_ble_eq_true rfl) rfl ?_
  refine s_iload dX12_spellAt_38 rfl ?_
  refine s_if_le (tgt := 50) dX12_spellAt_40 rfl (fun c1 => ?_) (fun c1 => ?_)
  · have h := o_if_t c1 h
    refine s_aload_n (i := 0) dX12_spellAt_50 rfl rfl ?_
    refine s_iload_n (i := 1) dX12_spellAt_51 rfl rfl ?_
    refine s_iload_n (i := 2) dX12_spellAt_52 rfl rfl ?_
    refine s_callVz (C := mX12_spellsTo) (As := [.int x1, .int x2]) (rest := []) (L0 := [some (.ref (o_ad X a0)), some (.int x1), some (.int x2), none]) hX h0 clX12_403 dX12_spellAt_53 rfl rfl (Nat.le_of_ble_eq_true rfl) (Nat.le_of_ble_eq_true rfl) (dnX12_spellsTo hX h0 (o_bdp h)) (fun r1 μ1 zr1 h => ?_)
    refine s_if_ne (tgt := 66) dX12_spellAt_56 rfl (fun c1 => ?_) (fun c1 => ?_)
    · have h := o_if_f c1 h
      refine s_aload_n (i := 0) dX12_spellAt_66 rfl rfl ?_
      refine s_iload_n (i := 1) dX12_spellAt_67 rfl rfl ?_
      refine s_iload_n (i := 3) dX12_spellAt_68 rfl rfl ?_
      refine s_iconst dX12_spellAt_69 kI_1 ?_
      refine s_iadd dX12_spellAt_70 ?_
      refine s_callVz (C := mX12_spellsTo) (As := [.int x1, .int (x3 + 1)]) (rest := []) (L0 := [some (.ref (o_ad X a0)), some (.int x1), some (.int (x3 + 1)), none]) hX h0 clX12_403 dX12_spellAt_71 rfl rfl (Nat.le_of_ble_eq_true rfl) (Nat.le_of_ble_eq_true rfl) (dnX12_spellsTo hX h0 (o_bdp h)) (fun r2 μ2 zr2 h => ?_)
      refine s_pop dX12_spellAt_74 rfl ?_
      refine s_aload_n (i := 0) dX12_spellAt_75 rfl rfl ?_
      refine s_aload_n (i := 0) dX12_spellAt_76 rfl rfl ?_
      refine s_getR hX h0 flX12_56 rfl dX12_spellAt_77 (fun (g1 : o_is X (o_rf X a0 27) (.inr (0, 3))) => ?_)
      refine s_iload dX12_spellAt_80 rfl ?_
      have hc := o_ck_c h
      have h := o_ck_k h
      refine s_ialdK g1 hc rfl dX12_spellAt_82 ?_
      refine s_callVi (C := mX12_gives) (As := [.int (μ2.1 (o_rf X a0 27) x4.toNatClampNeg)]) (rest := []) (L0 := [some (.ref (o_ad X a0)), some (.int (μ2.1 (o_rf X a0 27) x4.toNatClampNeg))]) hX h0 clX12_91 dX12_spellAt_83 rfl rfl (Nat.le_of_ble_eq_true rfl) (Nat.le_of_ble_eq_true rfl) (dnX12_gives hX h0 (o_bdp h)) (fun r3 μ3 h => ?_)
      exact s_ireturn rfl dX12_spellAt_86 ⟨_, rfl, o_ret h⟩
    · have h := o_if_t c1 h
      refine s_aload_n (i := 0) dX12_spellAt_59 rfl rfl ?_
      refine s_bipush dX12_spellAt_60 kB_6 ?_
      refine s_callVi (C := mX12_refuse) (As := [.int 6]) (rest := []) (L0 := [some (.ref (o_ad X a0)), some (.int 6)]) hX h0 clX12_87 dX12_spellAt_62 rfl rfl (Nat.le_of_ble_eq_true rfl) (Nat.le_of_ble_eq_true rfl) (dnX12_refuse hX h0 (o_bdp h)) (fun r4 μ4 h => ?_)
      exact s_ireturn rfl dX12_spellAt_65 ⟨_, rfl, o_ret h⟩
  · have h := o_if_f c1 h
    refine s_aload_n (i := 0) dX12_spellAt_43 rfl rfl ?_
    refine s_iload dX12_spellAt_44 rfl ?_
    refine s_callVi (C := mX12_refuse) (As := [.int y0]) (rest := []) (L0 := [some (.ref (o_ad X a0)), some (.int y0)]) hX h0 clX12_87 dX12_spellAt_46 rfl rfl (Nat.le_of_ble_eq_true rfl) (Nat.le_of_ble_eq_true rfl) (dnX12_refuse hX h0 (o_bdp h)) (fun r5 μ5 h => ?_)
    exact s_ireturn rfl dX12_spellAt_49 ⟨_, rfl, o_ret h⟩
set_option maxRecDepth 20000 in
theorem dnX12_spellAt_j35 {X : o_Cx} (hX : o_ok X) {d : Nat} {a0 : Nat} {x1 : Int32} {x2 : Int32} {x3 : Int32} {x4 : Int32} {μ0 : o_Mem} {q : Int32 → o_Mem → Prop} (h0 : o_is X a0 (.inl 12)) (h : o_Post (fX12_spellAt_j35 (o_rf X) a0 x1 x2 x3 x4 μ0) q) : o_Ev X (d + 6) mX12_spellAt 35 [some (.ref (o_ad X a0)), some (.int x1), some (.int x2), some (.int x3), some (.int x4), none] [] μ0 (o_QI q) := by
  unfold fX12_spellAt_j35 at h
  refine s_iconst dX12_spellAt_35 kI_1 ?_
  refine s_mask [true, true, true, true, true, false] (L' := [some (.ref (o_ad X a0)), some (.int x1), some (.int x2), some (.int x3), some (.int x4), none]) rfl ?_
  exact dnX12_spellAt_j36 hX h0 h
set_option maxRecDepth 20000 in
theorem dnX12_spellAt {X : o_Cx} (hX : o_ok X) {d : Nat} {a0 : Nat} {x1 : Int32} {x2 : Int32} {x3 : Int32} {x4 : Int32} {μ0 : o_Mem} {q : Int32 → o_Mem → Prop} (h0 : o_is X a0 (.inl 12)) (h : o_Post (fX12_spellAt (o_rf X) a0 x1 x2 x3 x4 μ0) q) : o_Ev X (d + 6) mX12_spellAt 0 [some (.ref (o_ad X a0)), some (.int x1), some (.int x2), some (.int x3), some (.int x4), none] [] μ0 (o_QI q) := by
  unfold fX12_spellAt at h
  refine s_iload_n (i := 3) dX12_spellAt_0 rfl rfl ?_
  refine s_i2l dX12_spellAt_1 ?_
  refine s_lconst (v := 0) dX12_spellAt_2 rfl ?_
  refine s_iload_n (i := 2) dX12_spellAt_3 rfl rfl ?_
  refine s_i2l dX12_spellAt_4 ?_
  refine s_lconst (v := 1) dX12_spellAt_5 rfl ?_
  refine s_lsub dX12_spellAt_6 ?_
  refine s_callSz (C := mX12_isFrom) (As := [.long x3.toInt64, .long (0 : Int64), .long (x2.toInt64 - (1 : Int64))]) (rest := []) (L0 := [some (.long x3.toInt64), none, some (.long (0 : Int64)), none, some (.long (x2.toInt64 - (1 : Int64))), none]) clX12_348 dX12_spellAt_7 rfl rfl (Nat.le_of_ble_eq_true rfl) (Nat.le_of_ble_eq_true rfl) (dnX12_isFrom hX  (o_bdp h)) (fun r1 μ1 zr1 h => ?_)
  refine s_if_eq (tgt := 35) dX12_spellAt_10 rfl (fun c1 => ?_) (fun c1 => ?_)
  · have h := o_if_t c1 h
    refine s_mask [true, true, true, true, true, false] (L' := [some (.ref (o_ad X a0)), some (.int x1), some (.int x2), some (.int x3), some (.int x4), none]) rfl ?_
    exact dnX12_spellAt_j35 hX h0 h
  · have h := o_if_f c1 h
    refine s_iload dX12_spellAt_13 rfl ?_
    refine s_i2l dX12_spellAt_15 ?_
    refine s_lconst (v := 0) dX12_spellAt_16 rfl ?_
    refine s_ldc2 (v := 2) w_9_30 dX12_spellAt_17 ?_
    refine s_callSz (C := mX12_isFrom) (As := [.long x4.toInt64, .long (0 : Int64), .long (2 : Int64)]) (rest := []) (L0 := [some (.long x4.toInt64), none, some (.long (0 : Int64)), none, some (.long (2 : Int64)), none]) clX12_348 dX12_spellAt_20 rfl rfl (Nat.le_of_ble_eq_true rfl) (Nat.le_of_ble_eq_true rfl) (dnX12_isFrom hX  (o_bdp h)) (fun r2 μ2 zr2 h => ?_)
    refine s_if_eq (tgt := 35) dX12_spellAt_23 rfl (fun c1 => ?_) (fun c1 => ?_)
    · have h := o_if_t c1 h
      refine s_mask [true, true, true, true, true, false] (L' := [some (.ref (o_ad X a0)), some (.int x1), some (.int x2), some (.int x3), some (.int x4), none]) rfl ?_
      exact dnX12_spellAt_j35 hX h0 h
    · have h := o_if_f c1 h
      refine s_aload_n (i := 0) dX12_spellAt_26 rfl rfl ?_
      refine s_iload_n (i := 1) dX12_spellAt_27 rfl rfl ?_
      refine s_iload_n (i := 2) dX12_spellAt_28 rfl rfl ?_
      refine s_callVi (C := mX12_wrongRow) (As := [.int x1, .int x2]) (rest := []) (L0 := [some (.ref (o_ad X a0)), some (.int x1), some (.int x2), none]) hX h0 clX12_394 dX12_spellAt_29 rfl rfl (Nat.le_of_ble_eq_true rfl) (Nat.le_of_ble_eq_true rfl) (dnX12_wrongRow hX h0 (o_bdp h)) (fun r3 μ3 h => ?_)
      refine s_goto (tgt := 36) dX12_spellAt_32 rfl ?_
      refine s_mask [true, true, true, true, true, false] (L' := [some (.ref (o_ad X a0)), some (.int x1), some (.int x2), some (.int x3), some (.int x4), none]) rfl ?_
      exact dnX12_spellAt_j36 hX h0 h
theorem dX12_wrongCovers_0 : decode cX12_wrongCovers 0 = .ok (.iload_n 1, 1) := by decide +kernel
theorem dX12_wrongCovers_1 : decode cX12_wrongCovers 1 = .ok (.invokestatic 98, 3) := by decide +kernel
theorem dX12_wrongCovers_4 : decode cX12_wrongCovers 4 = .ok (.ifCond .eq 40, 3) := by decide +kernel
theorem dX12_wrongCovers_7 : decode cX12_wrongCovers 7 = .ok (.iload_n 2, 1) := by decide +kernel
theorem dX12_wrongCovers_8 : decode cX12_wrongCovers 8 = .ok (.i2l, 1) := by decide +kernel
theorem dX12_wrongCovers_9 : decode cX12_wrongCovers 9 = .ok (.lconst 0, 1) := by decide +kernel
theorem dX12_wrongCovers_10 : decode cX12_wrongCovers 10 = .ok (.ldc2_w 408, 3) := by decide +kernel
theorem dX12_wrongCovers_13 : decode cX12_wrongCovers 13 = .ok (.invokestatic 348, 3) := by decide +kernel
theorem dX12_wrongCovers_16 : decode cX12_wrongCovers 16 = .ok (.ifCond .eq 28, 3) := by decide +kernel
theorem dX12_wrongCovers_19 : decode cX12_wrongCovers 19 = .ok (.aload_n 0, 1) := by decide +kernel
theorem dX12_wrongCovers_20 : decode cX12_wrongCovers 20 = .ok (.iload_n 3, 1) := by decide +kernel
theorem dX12_wrongCovers_21 : decode cX12_wrongCovers 21 = .ok (.i2l, 1) := by decide +kernel
theorem dX12_wrongCovers_22 : decode cX12_wrongCovers 22 = .ok (.invokevirtual 284, 3) := by decide +kernel
theorem dX12_wrongCovers_25 : decode cX12_wrongCovers 25 = .ok (.ifCond .eq 19, 3) := by decide +kernel
theorem dX12_wrongCovers_28 : decode cX12_wrongCovers 28 = .ok (.aload_n 0, 1) := by decide +kernel
theorem dX12_wrongCovers_29 : decode cX12_wrongCovers 29 = .ok (.iload 4, 2) := by decide +kernel
theorem dX12_wrongCovers_31 : decode cX12_wrongCovers 31 = .ok (.i2l, 1) := by decide +kernel
theorem dX12_wrongCovers_32 : decode cX12_wrongCovers 32 = .ok (.invokevirtual 284, 3) := by decide +kernel
theorem dX12_wrongCovers_35 : decode cX12_wrongCovers 35 = .ok (.ifCond .eq 9, 3) := by decide +kernel
theorem dX12_wrongCovers_38 : decode cX12_wrongCovers 38 = .ok (.iload_n 3, 1) := by decide +kernel
theorem dX12_wrongCovers_39 : decode cX12_wrongCovers 39 = .ok (.iload 4, 2) := by decide +kernel
theorem dX12_wrongCovers_41 : decode cX12_wrongCovers 41 = .ok (.if_icmp .ne 5, 3) := by decide +kernel
theorem dX12_wrongCovers_44 : decode cX12_wrongCovers 44 = .ok (.iconst 1, 1) := by decide +kernel
theorem dX12_wrongCovers_45 : decode cX12_wrongCovers 45 = .ok (.ireturn, 1) := by decide +kernel
theorem dX12_wrongCovers_46 : decode cX12_wrongCovers 46 = .ok (.aload_n 0, 1) := by decide +kernel
theorem dX12_wrongCovers_47 : decode cX12_wrongCovers 47 = .ok (.getfield 24, 3) := by decide +kernel
theorem dX12_wrongCovers_50 : decode cX12_wrongCovers 50 = .ok (.iload_n 1, 1) := by decide +kernel
theorem dX12_wrongCovers_51 : decode cX12_wrongCovers 51 = .ok (.iaload, 1) := by decide +kernel
theorem dX12_wrongCovers_52 : decode cX12_wrongCovers 52 = .ok (.iconst (-1), 1) := by decide +kernel
theorem dX12_wrongCovers_53 : decode cX12_wrongCovers 53 = .ok (.if_icmp .ne 5, 3) := by decide +kernel
theorem dX12_wrongCovers_56 : decode cX12_wrongCovers 56 = .ok (.iconst 2, 1) := by decide +kernel
theorem dX12_wrongCovers_57 : decode cX12_wrongCovers 57 = .ok (.ireturn, 1) := by decide +kernel
theorem dX12_wrongCovers_58 : decode cX12_wrongCovers 58 = .ok (.aload_n 0, 1) := by decide +kernel
theorem dX12_wrongCovers_59 : decode cX12_wrongCovers 59 = .ok (.getfield 24, 3) := by decide +kernel
theorem dX12_wrongCovers_62 : decode cX12_wrongCovers 62 = .ok (.iload_n 1, 1) := by decide +kernel
theorem dX12_wrongCovers_63 : decode cX12_wrongCovers 63 = .ok (.iaload, 1) := by decide +kernel
theorem dX12_wrongCovers_64 : decode cX12_wrongCovers 64 = .ok (.iconst 2, 1) := by decide +kernel
theorem dX12_wrongCovers_65 : decode cX12_wrongCovers 65 = .ok (.iload_n 2, 1) := by decide +kernel
theorem dX12_wrongCovers_66 : decode cX12_wrongCovers 66 = .ok (.imul, 1) := by decide +kernel
theorem dX12_wrongCovers_67 : decode cX12_wrongCovers 67 = .ok (.if_icmp .ge 5, 3) := by decide +kernel
theorem dX12_wrongCovers_70 : decode cX12_wrongCovers 70 = .ok (.iconst 3, 1) := by decide +kernel
theorem dX12_wrongCovers_71 : decode cX12_wrongCovers 71 = .ok (.ireturn, 1) := by decide +kernel
theorem dX12_wrongCovers_72 : decode cX12_wrongCovers 72 = .ok (.iconst 0, 1) := by decide +kernel
theorem dX12_wrongCovers_73 : decode cX12_wrongCovers 73 = .ok (.istore 5, 2) := by decide +kernel
theorem dX12_wrongCovers_75 : decode cX12_wrongCovers 75 = .ok (.iload 5, 2) := by decide +kernel
theorem dX12_wrongCovers_77 : decode cX12_wrongCovers 77 = .ok (.iload_n 2, 1) := by decide +kernel
theorem dX12_wrongCovers_78 : decode cX12_wrongCovers 78 = .ok (.if_icmp .ge 66, 3) := by decide +kernel
theorem dX12_wrongCovers_81 : decode cX12_wrongCovers 81 = .ok (.aload_n 0, 1) := by decide +kernel
theorem dX12_wrongCovers_82 : decode cX12_wrongCovers 82 = .ok (.getfield 27, 3) := by decide +kernel
theorem dX12_wrongCovers_85 : decode cX12_wrongCovers 85 = .ok (.bipush 60, 2) := by decide +kernel
theorem dX12_wrongCovers_87 : decode cX12_wrongCovers 87 = .ok (.iload_n 1, 1) := by decide +kernel
theorem dX12_wrongCovers_88 : decode cX12_wrongCovers 88 = .ok (.imul, 1) := by decide +kernel
theorem dX12_wrongCovers_89 : decode cX12_wrongCovers 89 = .ok (.iconst 2, 1) := by decide +kernel
theorem dX12_wrongCovers_90 : decode cX12_wrongCovers 90 = .ok (.iload 5, 2) := by decide +kernel
theorem dX12_wrongCovers_92 : decode cX12_wrongCovers 92 = .ok (.imul, 1) := by decide +kernel
theorem dX12_wrongCovers_93 : decode cX12_wrongCovers 93 = .ok (.iadd, 1) := by decide +kernel
theorem dX12_wrongCovers_94 : decode cX12_wrongCovers 94 = .ok (.iconst 1, 1) := by decide +kernel
theorem dX12_wrongCovers_95 : decode cX12_wrongCovers 95 = .ok (.iadd, 1) := by decide +kernel
theorem dX12_wrongCovers_96 : decode cX12_wrongCovers 96 = .ok (.laload, 1) := by decide +kernel
theorem dX12_wrongCovers_97 : decode cX12_wrongCovers 97 = .ok (.lstore 6, 2) := by decide +kernel
theorem dX12_wrongCovers_99 : decode cX12_wrongCovers 99 = .ok (.aload_n 0, 1) := by decide +kernel
theorem dX12_wrongCovers_100 : decode cX12_wrongCovers 100 = .ok (.getfield 27, 3) := by decide +kernel
theorem dX12_wrongCovers_103 : decode cX12_wrongCovers 103 = .ok (.bipush 60, 2) := by decide +kernel
theorem dX12_wrongCovers_105 : decode cX12_wrongCovers 105 = .ok (.iload_n 1, 1) := by decide +kernel
theorem dX12_wrongCovers_106 : decode cX12_wrongCovers 106 = .ok (.imul, 1) := by decide +kernel
theorem dX12_wrongCovers_107 : decode cX12_wrongCovers 107 = .ok (.iconst 2, 1) := by decide +kernel
theorem dX12_wrongCovers_108 : decode cX12_wrongCovers 108 = .ok (.iload 5, 2) := by decide +kernel
theorem dX12_wrongCovers_110 : decode cX12_wrongCovers 110 = .ok (.imul, 1) := by decide +kernel
theorem dX12_wrongCovers_111 : decode cX12_wrongCovers 111 = .ok (.iadd, 1) := by decide +kernel
theorem dX12_wrongCovers_112 : decode cX12_wrongCovers 112 = .ok (.laload, 1) := by decide +kernel
theorem dX12_wrongCovers_113 : decode cX12_wrongCovers 113 = .ok (.invokestatic 277, 3) := by decide +kernel
theorem dX12_wrongCovers_116 : decode cX12_wrongCovers 116 = .ok (.ifCond .eq 20, 3) := by decide +kernel
theorem dX12_wrongCovers_119 : decode cX12_wrongCovers 119 = .ok (.lload 6, 2) := by decide +kernel
theorem dX12_wrongCovers_121 : decode cX12_wrongCovers 121 = .ok (.iload_n 3, 1) := by decide +kernel
theorem dX12_wrongCovers_122 : decode cX12_wrongCovers 122 = .ok (.i2l, 1) := by decide +kernel
theorem dX12_wrongCovers_123 : decode cX12_wrongCovers 123 = .ok (.lcmp, 1) := by decide +kernel
theorem dX12_wrongCovers_124 : decode cX12_wrongCovers 124 = .ok (.ifCond .eq 14, 3) := by decide +kernel
theorem dX12_wrongCovers_127 : decode cX12_wrongCovers 127 = .ok (.lload 6, 2) := by decide +kernel
theorem dX12_wrongCovers_129 : decode cX12_wrongCovers 129 = .ok (.iload 4, 2) := by decide +kernel
theorem dX12_wrongCovers_131 : decode cX12_wrongCovers 131 = .ok (.i2l, 1) := by decide +kernel
theorem dX12_wrongCovers_132 : decode cX12_wrongCovers 132 = .ok (.lcmp, 1) := by decide +kernel
theorem dX12_wrongCovers_133 : decode cX12_wrongCovers 133 = .ok (.ifCond .eq 5, 3) := by decide +kernel
theorem dX12_wrongCovers_136 : decode cX12_wrongCovers 136 = .ok (.iconst 5, 1) := by decide +kernel
theorem dX12_wrongCovers_137 : decode cX12_wrongCovers 137 = .ok (.ireturn, 1) := by decide +kernel
theorem dX12_wrongCovers_138 : decode cX12_wrongCovers 138 = .ok (.iinc 5 1, 3) := by decide +kernel
theorem dX12_wrongCovers_141 : decode cX12_wrongCovers 141 = .ok (.goto (-66), 3) := by decide +kernel
theorem dX12_wrongCovers_144 : decode cX12_wrongCovers 144 = .ok (.iconst 0, 1) := by decide +kernel
theorem dX12_wrongCovers_145 : decode cX12_wrongCovers 145 = .ok (.ireturn, 1) := by decide +kernel
noncomputable def fX12_wrongCovers_s75 (rf : Nat → Nat → Nat) (a0 : Nat) (x1 : Int32) (x2 : Int32) (x3 : Int32) (x4 : Int32) (τ75 : Int32) (μ0 : o_Mem) : Option ((Nat × (Int32)) × o_Mem) :=
  if x2 ≤ τ75 then (
    some ((144, 0), μ0))
  else (
    o_ck (0 ≤ ((((60 * x1) + (2 * τ75)) + 1)).toInt ∧ ((((60 * x1) + (2 * τ75)) + 1)).toInt < 240) <|
    o_ck (0 ≤ (((60 * x1) + (2 * τ75))).toInt ∧ (((60 * x1) + (2 * τ75))).toInt < 240) <|
    o_bd (fX12_isWeight rf (μ0.2 (rf a0 7) (((60 * x1) + (2 * τ75))).toNatClampNeg) μ0) fun r1 μ1 =>
    if r1 = 0 then (
      some ((136, 0), μ1))
    else (
      if (μ0.2 (rf a0 7) ((((60 * x1) + (2 * τ75)) + 1)).toNatClampNeg) = x3.toInt64 then (
        some ((75, (τ75 + 1)), μ1))
      else (
        if (μ0.2 (rf a0 7) ((((60 * x1) + (2 * τ75)) + 1)).toNatClampNeg) = x4.toInt64 then (
          some ((75, (τ75 + 1)), μ1))
        else (
          some ((136, 0), μ1)))))
noncomputable def fX12_wrongCovers (rf : Nat → Nat → Nat) (a0 : Nat) (x1 : Int32) (x2 : Int32) (x3 : Int32) (x4 : Int32) (μ0 : o_Mem) : Option (Int32 × o_Mem) :=
  o_bd (fX12_isTray rf x1 μ0) fun r1 μ1 =>
  if r1 = 0 then (
    some (1, μ1))
  else (
    o_bd (fX12_isFrom rf x2.toInt64 (0 : Int64) (30 : Int64) μ1) fun r2 μ2 =>
    if r2 = 0 then (
      some (1, μ2))
    else (
      o_bd (fX12_isStrike rf a0 x3.toInt64 μ2) fun r3 μ3 =>
      if r3 = 0 then (
        some (1, μ3))
      else (
        o_bd (fX12_isStrike rf a0 x4.toInt64 μ3) fun r4 μ4 =>
        if r4 = 0 then (
          some (1, μ4))
        else (
          if x3 = x4 then (
            some (1, μ4))
          else (
            o_ck (0 ≤ (x1).toInt ∧ (x1).toInt < 4) <|
            if (μ4.1 (rf a0 6) x1.toNatClampNeg) = (-1) then (
              some (2, μ4))
            else (
              o_ck (0 ≤ (x1).toInt ∧ (x1).toInt < 4) <|
              if (2 * x2) ≤ (μ4.1 (rf a0 6) x1.toNatClampNeg) then (
                o_bd (o_lp 75 (fX12_wrongCovers_s75 rf a0 x1 x2 x3 x4) o_fuel (0 : Int32) μ4) fun ex5 μ5 =>
                if ex5.1 = 136 then (
                  some (5, μ5))
                else
                if ex5.1 = 144 then (
                  some (0, μ5))
                else
                  none)
              else (
                some (3, μ4))))))))
set_option maxRecDepth 20000 in
theorem dnX12_wrongCovers_s75 {X : o_Cx} (hX : o_ok X) {d : Nat} {a0 : Nat} {x1 : Int32} {x2 : Int32} {x3 : Int32} {x4 : Int32} {τ75 : Int32} {μ0 : o_Mem} {K : (Nat × (Int32)) → o_Mem → Prop} {Q : Option Value → o_Mem → Prop} (h0 : o_is X a0 (.inl 12)) (h : o_Post (fX12_wrongCovers_s75 (o_rf X) a0 x1 x2 x3 x4 τ75 μ0) K) (kh : ∀ (τ75 : Int32) (μ : o_Mem), K (75, τ75) μ → o_Ev X (d + 1) mX12_wrongCovers 75 [some (.ref (o_ad X a0)), some (.int x1), some (.int x2), some (.int x3), some (.int x4), some (.int τ75), none, none] [] μ Q) (k136 : ∀ (τ75 : Int32) (μ : o_Mem), K (136, τ75) μ → o_Ev X (d + 1) mX12_wrongCovers 136 [none, none, none, none, none, none, none, none] [] μ Q) (k144 : ∀ (τ75 : Int32) (μ : o_Mem), K (144, τ75) μ → o_Ev X (d + 1) mX12_wrongCovers 144 [none, none, none, none, none, none, none, none] [] μ Q) : o_Ev X (d + 1) mX12_wrongCovers 75 [some (.ref (o_ad X a0)), some (.int x1), some (.int x2), some (.int x3), some (.int x4), some (.int τ75), none, none] [] μ0 Q := by
  unfold fX12_wrongCovers_s75 at h
  refine s_iload dX12_wrongCovers_75 rfl ?_
  refine s_iload_n (i := 2) dX12_wrongCovers_77 rfl rfl ?_
  refine s_icmp_ge (tgt := 144) dX12_wrongCovers_78 rfl (fun c1 => ?_) (fun c1 => ?_)
  · have h := o_if_t c1 h
    refine s_mask [false, false, false, false, false, false, false, false] (L' := [none, none, none, none, none, none, none, none]) rfl ?_
    exact k144 0 _ (o_ret h)
  · have h := o_if_f c1 h
    refine s_aload_n (i := 0) dX12_wrongCovers_81 rfl rfl ?_
    refine s_getR hX h0 flX12_27 rfl dX12_wrongCovers_82 (fun (g1 : o_is X (o_rf X a0 7) (.inr (2, 240))) => ?_)
    refine s_bipush dX12_wrongCovers_85 kB_60 ?_
    refine s_iload_n (i := 1) dX12_wrongCovers_87 rfl rfl ?_
    refine s_imul dX12_wrongCovers_88 ?_
    refine s_iconst dX12_wrongCovers_89 kI_2 ?_
    refine s_iload dX12_wrongCovers_90 rfl ?_
    refine s_imul dX12_wrongCovers_92 ?_
    refine s_iadd dX12_wrongCovers_93 ?_
    refine s_iconst dX12_wrongCovers_94 kI_1 ?_
    refine s_iadd dX12_wrongCovers_95 ?_
    have hc := o_ck_c h
    have h := o_ck_k h
    refine s_laldK g1 hc rfl dX12_wrongCovers_96 ?_
    refine s_lstore dX12_wrongCovers_97 (Nat.le_of_ble_eq_true rfl) rfl ?_
    refine s_aload_n (i := 0) dX12_wrongCovers_99 rfl rfl ?_
    refine s_getR hX h0 flX12_27 rfl dX12_wrongCovers_100 (fun (g2 : o_is X (o_rf X a0 7) (.inr (2, 240))) => ?_)
    refine s_bipush dX12_wrongCovers_103 kB_60 ?_
    refine s_iload_n (i := 1) dX12_wrongCovers_105 rfl rfl ?_
    refine s_imul dX12_wrongCovers_106 ?_
    refine s_iconst dX12_wrongCovers_107 kI_2 ?_
    refine s_iload dX12_wrongCovers_108 rfl ?_
    refine s_imul dX12_wrongCovers_110 ?_
    refine s_iadd dX12_wrongCovers_111 ?_
    have hc := o_ck_c h
    have h := o_ck_k h
    refine s_laldK g2 hc rfl dX12_wrongCovers_112 ?_
    refine s_callSz (C := mX12_isWeight) (As := [.long (μ0.2 (o_rf X a0 7) (((60 * x1) + (2 * τ75))).toNatClampNeg)]) (rest := []) (L0 := [some (.long (μ0.2 (o_rf X a0 7) (((60 * x1) + (2 * τ75))).toNatClampNeg)), none]) clX12_277 dX12_wrongCovers_113 rfl rfl (Nat.le_of_ble_eq_true rfl) (Nat.le_of_ble_eq_true rfl) (dnX12_isWeight hX  (o_bdp h)) (fun r1 μ1 zr1 h => ?_)
    refine s_if_eq (tgt := 136) dX12_wrongCovers_116 rfl (fun c1 => ?_) (fun c1 => ?_)
    · have h := o_if_t c1 h
      refine s_mask [false, false, false, false, false, false, false, false] (L' := [none, none, none, none, none, none, none, none]) rfl ?_
      exact k136 0 _ (o_ret h)
    · have h := o_if_f c1 h
      refine s_lload dX12_wrongCovers_119 rfl ?_
      refine s_iload_n (i := 3) dX12_wrongCovers_121 rfl rfl ?_
      refine s_i2l dX12_wrongCovers_122 ?_
      refine s_lif_eq (tgt := 138) dX12_wrongCovers_123 dX12_wrongCovers_124 rfl (fun c1 => ?_) (fun c1 => ?_)
      · have h := o_if_t c1 h
        refine s_iinc (v := (τ75 + 1)) dX12_wrongCovers_138 rfl rfl (Nat.le_of_ble_eq_true rfl) rfl ?_
        refine s_goto (tgt := 75) dX12_wrongCovers_141 rfl ?_
        refine s_mask [true, true, true, true, true, true, false, false] (L' := [some (.ref (o_ad X a0)), some (.int x1), some (.int x2), some (.int x3), some (.int x4), some (.int (τ75 + 1)), none, none]) rfl ?_
        exact kh (τ75 + 1) _ (o_ret h)
      · have h := o_if_f c1 h
        refine s_lload dX12_wrongCovers_127 rfl ?_
        refine s_iload dX12_wrongCovers_129 rfl ?_
        refine s_i2l dX12_wrongCovers_131 ?_
        refine s_lif_eq (tgt := 138) dX12_wrongCovers_132 dX12_wrongCovers_133 rfl (fun c1 => ?_) (fun c1 => ?_)
        · have h := o_if_t c1 h
          refine s_iinc (v := (τ75 + 1)) dX12_wrongCovers_138 rfl rfl (Nat.le_of_ble_eq_true rfl) rfl ?_
          refine s_goto (tgt := 75) dX12_wrongCovers_141 rfl ?_
          refine s_mask [true, true, true, true, true, true, false, false] (L' := [some (.ref (o_ad X a0)), some (.int x1), some (.int x2), some (.int x3), some (.int x4), some (.int (τ75 + 1)), none, none]) rfl ?_
          exact kh (τ75 + 1) _ (o_ret h)
        · have h := o_if_f c1 h
          refine s_mask [false, false, false, false, false, false, false, false] (L' := [none, none, none, none, none, none, none, none]) rfl ?_
          exact k136 0 _ (o_ret h)
set_option maxRecDepth 20000 in
theorem dnX12_wrongCovers {X : o_Cx} (hX : o_ok X) {d : Nat} {a0 : Nat} {x1 : Int32} {x2 : Int32} {x3 : Int32} {x4 : Int32} {μ0 : o_Mem} {q : Int32 → o_Mem → Prop} (h0 : o_is X a0 (.inl 12)) (h : o_Post (fX12_wrongCovers (o_rf X) a0 x1 x2 x3 x4 μ0) q) : o_Ev X (d + 1) mX12_wrongCovers 0 [some (.ref (o_ad X a0)), some (.int x1), some (.int x2), some (.int x3), some (.int x4), none, none, none] [] μ0 (o_QI q) := by
  unfold fX12_wrongCovers at h
  refine s_iload_n (i := 1) dX12_wrongCovers_0 rfl rfl ?_
  refine s_callSz (C := mX12_isTray) (As := [.int x1]) (rest := []) (L0 := [some (.int x1)]) clX12_98 dX12_wrongCovers_1 rfl rfl (Nat.le_of_ble_eq_true rfl) (Nat.le_of_ble_eq_true rfl) (dnX12_isTray hX  (o_bdp h)) (fun r1 μ1 zr1 h => ?_)
  refine s_if_eq (tgt := 44) dX12_wrongCovers_4 rfl (fun c1 => ?_) (fun c1 => ?_)
  · have h := o_if_t c1 h
    refine s_iconst dX12_wrongCovers_44 kI_1 ?_
    exact s_ireturn rfl dX12_wrongCovers_45 ⟨_, rfl, o_ret h⟩
  · have h := o_if_f c1 h
    refine s_iload_n (i := 2) dX12_wrongCovers_7 rfl rfl ?_
    refine s_i2l dX12_wrongCovers_8 ?_
    refine s_lconst (v := 0) dX12_wrongCovers_9 rfl ?_
    refine s_ldc2 (v := 30) w_9_39 dX12_wrongCovers_10 ?_
    refine s_callSz (C := mX12_isFrom) (As := [.long x2.toInt64, .long (0 : Int64), .long (30 : Int64)]) (rest := []) (L0 := [some (.long x2.toInt64), none, some (.long (0 : Int64)), none, some (.long (30 : Int64)), none]) clX12_348 dX12_wrongCovers_13 rfl rfl (Nat.le_of_ble_eq_true rfl) (Nat.le_of_ble_eq_true rfl) (dnX12_isFrom hX  (o_bdp h)) (fun r2 μ2 zr2 h => ?_)
    refine s_if_eq (tgt := 44) dX12_wrongCovers_16 rfl (fun c1 => ?_) (fun c1 => ?_)
    · have h := o_if_t c1 h
      refine s_iconst dX12_wrongCovers_44 kI_1 ?_
      exact s_ireturn rfl dX12_wrongCovers_45 ⟨_, rfl, o_ret h⟩
    · have h := o_if_f c1 h
      refine s_aload_n (i := 0) dX12_wrongCovers_19 rfl rfl ?_
      refine s_iload_n (i := 3) dX12_wrongCovers_20 rfl rfl ?_
      refine s_i2l dX12_wrongCovers_21 ?_
      refine s_callVz (C := mX12_isStrike) (As := [.long x3.toInt64]) (rest := []) (L0 := [some (.ref (o_ad X a0)), some (.long x3.toInt64), none]) hX h0 clX12_284 dX12_wrongCovers_22 rfl rfl (Nat.le_of_ble_eq_true rfl) (Nat.le_of_ble_eq_true rfl) (dnX12_isStrike hX h0 (o_bdp h)) (fun r3 μ3 zr3 h => ?_)
      refine s_if_eq (tgt := 44) dX12_wrongCovers_25 rfl (fun c1 => ?_) (fun c1 => ?_)
      · have h := o_if_t c1 h
        refine s_iconst dX12_wrongCovers_44 kI_1 ?_
        exact s_ireturn rfl dX12_wrongCovers_45 ⟨_, rfl, o_ret h⟩
      · have h := o_if_f c1 h
        refine s_aload_n (i := 0) dX12_wrongCovers_28 rfl rfl ?_
        refine s_iload dX12_wrongCovers_29 rfl ?_
        refine s_i2l dX12_wrongCovers_31 ?_
        refine s_callVz (C := mX12_isStrike) (As := [.long x4.toInt64]) (rest := []) (L0 := [some (.ref (o_ad X a0)), some (.long x4.toInt64), none]) hX h0 clX12_284 dX12_wrongCovers_32 rfl rfl (Nat.le_of_ble_eq_true rfl) (Nat.le_of_ble_eq_true rfl) (dnX12_isStrike hX h0 (o_bdp h)) (fun r4 μ4 zr4 h => ?_)
        refine s_if_eq (tgt := 44) dX12_wrongCovers_35 rfl (fun c1 => ?_) (fun c1 => ?_)
        · have h := o_if_t c1 h
          refine s_iconst dX12_wrongCovers_44 kI_1 ?_
          exact s_ireturn rfl dX12_wrongCovers_45 ⟨_, rfl, o_ret h⟩
        · have h := o_if_f c1 h
          refine s_iload_n (i := 3) dX12_wrongCovers_38 rfl rfl ?_
          refine s_iload dX12_wrongCovers_39 rfl ?_
          refine s_icmp_ne (tgt := 46) dX12_wrongCovers_41 rfl (fun c1 => ?_) (fun c1 => ?_)
          · have h := o_if_f c1 h
            refine s_aload_n (i := 0) dX12_wrongCovers_46 rfl rfl ?_
            refine s_getR hX h0 flX12_24 rfl dX12_wrongCovers_47 (fun (g1 : o_is X (o_rf X a0 6) (.inr (0, 4))) => ?_)
            refine s_iload_n (i := 1) dX12_wrongCovers_50 rfl rfl ?_
            have hc := o_ck_c h
            have h := o_ck_k h
            refine s_ialdK g1 hc rfl dX12_wrongCovers_51 ?_
            refine s_iconst dX12_wrongCovers_52 kI_m1 ?_
            refine s_icmp_ne (tgt := 58) dX12_wrongCovers_53 rfl (fun c1 => ?_) (fun c1 => ?_)
            · have h := o_if_f c1 h
              refine s_aload_n (i := 0) dX12_wrongCovers_58 rfl rfl ?_
              refine s_getR hX h0 flX12_24 rfl dX12_wrongCovers_59 (fun (g2 : o_is X (o_rf X a0 6) (.inr (0, 4))) => ?_)
              refine s_iload_n (i := 1) dX12_wrongCovers_62 rfl rfl ?_
              have hc := o_ck_c h
              have h := o_ck_k h
              refine s_ialdK g2 hc rfl dX12_wrongCovers_63 ?_
              refine s_iconst dX12_wrongCovers_64 kI_2 ?_
              refine s_iload_n (i := 2) dX12_wrongCovers_65 rfl rfl ?_
              refine s_imul dX12_wrongCovers_66 ?_
              refine s_icmp_ge (tgt := 72) dX12_wrongCovers_67 rfl (fun c1 => ?_) (fun c1 => ?_)
              · have h := o_if_t c1 h
                refine s_iconst dX12_wrongCovers_72 kI_0 ?_
                refine s_istore dX12_wrongCovers_73 (Nat.le_of_ble_eq_true rfl) rfl ?_
                refine s_mask [true, true, true, true, true, true, false, false] (L' := [some (.ref (o_ad X a0)), some (.int x1), some (.int x2), some (.int x3), some (.int x4), some (.int 0), none, none]) rfl ?_
                refine o_lp_ev (fun τ75 => [some (.ref (o_ad X a0)), some (.int x1), some (.int x2), some (.int x3), some (.int x4), some (.int τ75), none, none]) (fun τ75 μ _K h kv ke75 => dnX12_wrongCovers_s75 hX h0 h kv (fun τ75 μ5 h => ?_) (fun τ75 μ5 h => ?_)) o_fuel 0 μ4 (o_bdp h)
                · have h := o_if_t rfl (ke75 (136, τ75) μ5 (o_ne rfl) h)
                  refine s_iconst dX12_wrongCovers_136 kI_5 ?_
                  exact s_ireturn rfl dX12_wrongCovers_137 ⟨_, rfl, o_ret h⟩
                · have h := o_if_t rfl (o_if_f (o_ne rfl) (ke75 (144, τ75) μ5 (o_ne rfl) h))
                  refine s_iconst dX12_wrongCovers_144 kI_0 ?_
                  exact s_ireturn rfl dX12_wrongCovers_145 ⟨_, rfl, o_ret h⟩
              · have h := o_if_f c1 h
                refine s_iconst dX12_wrongCovers_70 kI_3 ?_
                exact s_ireturn rfl dX12_wrongCovers_71 ⟨_, rfl, o_ret h⟩
            · have h := o_if_t c1 h
              refine s_iconst dX12_wrongCovers_56 kI_2 ?_
              exact s_ireturn rfl dX12_wrongCovers_57 ⟨_, rfl, o_ret h⟩
          · have h := o_if_t c1 h
            refine s_iconst dX12_wrongCovers_44 kI_1 ?_
            exact s_ireturn rfl dX12_wrongCovers_45 ⟨_, rfl, o_ret h⟩
theorem dX12_isLine_0 : decode cX12_isLine 0 = .ok (.iconst 0, 1) := by decide +kernel
theorem dX12_isLine_1 : decode cX12_isLine 1 = .ok (.istore 5, 2) := by decide +kernel
theorem dX12_isLine_3 : decode cX12_isLine 3 = .ok (.iload 5, 2) := by decide +kernel
theorem dX12_isLine_5 : decode cX12_isLine 5 = .ok (.iload_n 2, 1) := by decide +kernel
theorem dX12_isLine_6 : decode cX12_isLine 6 = .ok (.if_icmp .ge 67, 3) := by decide +kernel
theorem dX12_isLine_9 : decode cX12_isLine 9 = .ok (.aload_n 0, 1) := by decide +kernel
theorem dX12_isLine_10 : decode cX12_isLine 10 = .ok (.getfield 27, 3) := by decide +kernel
theorem dX12_isLine_13 : decode cX12_isLine 13 = .ok (.bipush 60, 2) := by decide +kernel
theorem dX12_isLine_15 : decode cX12_isLine 15 = .ok (.iload_n 1, 1) := by decide +kernel
theorem dX12_isLine_16 : decode cX12_isLine 16 = .ok (.imul, 1) := by decide +kernel
theorem dX12_isLine_17 : decode cX12_isLine 17 = .ok (.iconst 2, 1) := by decide +kernel
theorem dX12_isLine_18 : decode cX12_isLine 18 = .ok (.iload 5, 2) := by decide +kernel
theorem dX12_isLine_20 : decode cX12_isLine 20 = .ok (.imul, 1) := by decide +kernel
theorem dX12_isLine_21 : decode cX12_isLine 21 = .ok (.iadd, 1) := by decide +kernel
theorem dX12_isLine_22 : decode cX12_isLine 22 = .ok (.laload, 1) := by decide +kernel
theorem dX12_isLine_23 : decode cX12_isLine 23 = .ok (.iload 4, 2) := by decide +kernel
theorem dX12_isLine_25 : decode cX12_isLine 25 = .ok (.i2l, 1) := by decide +kernel
theorem dX12_isLine_26 : decode cX12_isLine 26 = .ok (.lcmp, 1) := by decide +kernel
theorem dX12_isLine_27 : decode cX12_isLine 27 = .ok (.ifCond .ge 7, 3) := by decide +kernel
theorem dX12_isLine_30 : decode cX12_isLine 30 = .ok (.iconst 1, 1) := by decide +kernel
theorem dX12_isLine_31 : decode cX12_isLine 31 = .ok (.goto 4, 3) := by decide +kernel
theorem dX12_isLine_34 : decode cX12_isLine 34 = .ok (.iconst 0, 1) := by decide +kernel
theorem dX12_isLine_35 : decode cX12_isLine 35 = .ok (.aload_n 0, 1) := by decide +kernel
theorem dX12_isLine_36 : decode cX12_isLine 36 = .ok (.getfield 27, 3) := by decide +kernel
theorem dX12_isLine_39 : decode cX12_isLine 39 = .ok (.bipush 60, 2) := by decide +kernel
theorem dX12_isLine_41 : decode cX12_isLine 41 = .ok (.iload_n 1, 1) := by decide +kernel
theorem dX12_isLine_42 : decode cX12_isLine 42 = .ok (.imul, 1) := by decide +kernel
theorem dX12_isLine_43 : decode cX12_isLine 43 = .ok (.iconst 2, 1) := by decide +kernel
theorem dX12_isLine_44 : decode cX12_isLine 44 = .ok (.iload 5, 2) := by decide +kernel
theorem dX12_isLine_46 : decode cX12_isLine 46 = .ok (.imul, 1) := by decide +kernel
theorem dX12_isLine_47 : decode cX12_isLine 47 = .ok (.iadd, 1) := by decide +kernel
theorem dX12_isLine_48 : decode cX12_isLine 48 = .ok (.iconst 1, 1) := by decide +kernel
theorem dX12_isLine_49 : decode cX12_isLine 49 = .ok (.iadd, 1) := by decide +kernel
theorem dX12_isLine_50 : decode cX12_isLine 50 = .ok (.laload, 1) := by decide +kernel
theorem dX12_isLine_51 : decode cX12_isLine 51 = .ok (.iload_n 3, 1) := by decide +kernel
theorem dX12_isLine_52 : decode cX12_isLine 52 = .ok (.i2l, 1) := by decide +kernel
theorem dX12_isLine_53 : decode cX12_isLine 53 = .ok (.lcmp, 1) := by decide +kernel
theorem dX12_isLine_54 : decode cX12_isLine 54 = .ok (.ifCond .ne 7, 3) := by decide +kernel
theorem dX12_isLine_57 : decode cX12_isLine 57 = .ok (.iconst 1, 1) := by decide +kernel
theorem dX12_isLine_58 : decode cX12_isLine 58 = .ok (.goto 4, 3) := by decide +kernel
theorem dX12_isLine_61 : decode cX12_isLine 61 = .ok (.iconst 0, 1) := by decide +kernel
theorem dX12_isLine_62 : decode cX12_isLine 62 = .ok (.if_icmp .eq 5, 3) := by decide +kernel
theorem dX12_isLine_65 : decode cX12_isLine 65 = .ok (.iconst 0, 1) := by decide +kernel
theorem dX12_isLine_66 : decode cX12_isLine 66 = .ok (.ireturn, 1) := by decide +kernel
theorem dX12_isLine_67 : decode cX12_isLine 67 = .ok (.iinc 5 1, 3) := by decide +kernel
theorem dX12_isLine_70 : decode cX12_isLine 70 = .ok (.goto (-67), 3) := by decide +kernel
theorem dX12_isLine_73 : decode cX12_isLine 73 = .ok (.iconst 1, 1) := by decide +kernel
theorem dX12_isLine_74 : decode cX12_isLine 74 = .ok (.ireturn, 1) := by decide +kernel
noncomputable def fX12_isLine_j62 (rf : Nat → Nat → Nat) (a0 : Nat) (x1 : Int32) (x2 : Int32) (x3 : Int32) (x4 : Int32) (x5 : Int32) (y0 : Int32) (y1 : Int32) (μ0 : o_Mem) : Option ((Nat × (Int32)) × o_Mem) :=
  if y0 = y1 then (
    some ((3, (x5 + 1)), μ0))
  else (
    some ((65, 0), μ0))
noncomputable def fX12_isLine_j35 (rf : Nat → Nat → Nat) (a0 : Nat) (x1 : Int32) (x2 : Int32) (x3 : Int32) (x4 : Int32) (x5 : Int32) (y0 : Int32) (μ0 : o_Mem) : Option ((Nat × (Int32)) × o_Mem) :=
  o_ck (0 ≤ ((((60 * x1) + (2 * x5)) + 1)).toInt ∧ ((((60 * x1) + (2 * x5)) + 1)).toInt < 240) <|
  if (μ0.2 (rf a0 7) ((((60 * x1) + (2 * x5)) + 1)).toNatClampNeg) = x3.toInt64 then (
    fX12_isLine_j62 rf a0 x1 x2 x3 x4 x5 y0 1 μ0)
  else (
    fX12_isLine_j62 rf a0 x1 x2 x3 x4 x5 y0 0 μ0)
noncomputable def fX12_isLine_s3 (rf : Nat → Nat → Nat) (a0 : Nat) (x1 : Int32) (x2 : Int32) (x3 : Int32) (x4 : Int32) (τ3 : Int32) (μ0 : o_Mem) : Option ((Nat × (Int32)) × o_Mem) :=
  if x2 ≤ τ3 then (
    some ((73, 0), μ0))
  else (
    o_ck (0 ≤ (((60 * x1) + (2 * τ3))).toInt ∧ (((60 * x1) + (2 * τ3))).toInt < 240) <|
    if x4.toInt64 ≤ (μ0.2 (rf a0 7) (((60 * x1) + (2 * τ3))).toNatClampNeg) then (
      fX12_isLine_j35 rf a0 x1 x2 x3 x4 τ3 0 μ0)
    else (
      fX12_isLine_j35 rf a0 x1 x2 x3 x4 τ3 1 μ0))
noncomputable def fX12_isLine (rf : Nat → Nat → Nat) (a0 : Nat) (x1 : Int32) (x2 : Int32) (x3 : Int32) (x4 : Int32) (μ0 : o_Mem) : Option (Int32 × o_Mem) :=
  o_bd (o_lp 3 (fX12_isLine_s3 rf a0 x1 x2 x3 x4) o_fuel (0 : Int32) μ0) fun ex1 μ1 =>
  if ex1.1 = 65 then (
    some (0, μ1))
  else
  if ex1.1 = 73 then (
    some (1, μ1))
  else
    none
set_option maxRecDepth 20000 in
theorem dnX12_isLine_j62 {X : o_Cx} (hX : o_ok X) {d : Nat} {a0 : Nat} {x1 : Int32} {x2 : Int32} {x3 : Int32} {x4 : Int32} {x5 : Int32} {y0 : Int32} {y1 : Int32} {μ0 : o_Mem} {K : (Nat × (Int32)) → o_Mem → Prop} {Q : Option Value → o_Mem → Prop} (h0 : o_is X a0 (.inl 12)) (h : o_Post (fX12_isLine_j62 (o_rf X) a0 x1 x2 x3 x4 x5 y0 y1 μ0) K) (kh : ∀ (τ3 : Int32) (μ : o_Mem), K (3, τ3) μ → o_Ev X (d + 0) mX12_isLine 3 [some (.ref (o_ad X a0)), some (.int x1), some (.int x2), some (.int x3), some (.int x4), some (.int τ3)] [] μ Q) (k65 : ∀ (τ3 : Int32) (μ : o_Mem), K (65, τ3) μ → o_Ev X (d + 0) mX12_isLine 65 [none, none, none, none, none, none] [] μ Q) (k73 : ∀ (τ3 : Int32) (μ : o_Mem), K (73, τ3) μ → o_Ev X (d + 0) mX12_isLine 73 [none, none, none, none, none, none] [] μ Q) : o_Ev X (d + 0) mX12_isLine 62 [some (.ref (o_ad X a0)), some (.int x1), some (.int x2), some (.int x3), some (.int x4), some (.int x5)] [.int y1, .int y0] μ0 Q := by
  unfold fX12_isLine_j62 at h
  refine s_icmp_eq (tgt := 67) dX12_isLine_62 rfl (fun c1 => ?_) (fun c1 => ?_)
  · have h := o_if_t c1 h
    refine s_iinc (v := (x5 + 1)) dX12_isLine_67 rfl rfl (Nat.le_of_ble_eq_true rfl) rfl ?_
    refine s_goto (tgt := 3) dX12_isLine_70 rfl ?_
    refine s_mask [true, true, true, true, true, true] (L' := [some (.ref (o_ad X a0)), some (.int x1), some (.int x2), some (.int x3), some (.int x4), some (.int (x5 + 1))]) rfl ?_
    exact kh (x5 + 1) _ (o_ret h)
  · have h := o_if_f c1 h
    refine s_mask [false, false, false, false, false, false] (L' := [none, none, none, none, none, none]) rfl ?_
    exact k65 0 _ (o_ret h)
set_option maxRecDepth 20000 in
theorem dnX12_isLine_j35 {X : o_Cx} (hX : o_ok X) {d : Nat} {a0 : Nat} {x1 : Int32} {x2 : Int32} {x3 : Int32} {x4 : Int32} {x5 : Int32} {y0 : Int32} {μ0 : o_Mem} {K : (Nat × (Int32)) → o_Mem → Prop} {Q : Option Value → o_Mem → Prop} (h0 : o_is X a0 (.inl 12)) (h : o_Post (fX12_isLine_j35 (o_rf X) a0 x1 x2 x3 x4 x5 y0 μ0) K) (kh : ∀ (τ3 : Int32) (μ : o_Mem), K (3, τ3) μ → o_Ev X (d + 0) mX12_isLine 3 [some (.ref (o_ad X a0)), some (.int x1), some (.int x2), some (.int x3), some (.int x4), some (.int τ3)] [] μ Q) (k65 : ∀ (τ3 : Int32) (μ : o_Mem), K (65, τ3) μ → o_Ev X (d + 0) mX12_isLine 65 [none, none, none, none, none, none] [] μ Q) (k73 : ∀ (τ3 : Int32) (μ : o_Mem), K (73, τ3) μ → o_Ev X (d + 0) mX12_isLine 73 [none, none, none, none, none, none] [] μ Q) : o_Ev X (d + 0) mX12_isLine 35 [some (.ref (o_ad X a0)), some (.int x1), some (.int x2), some (.int x3), some (.int x4), some (.int x5)] [.int y0] μ0 Q := by
  unfold fX12_isLine_j35 at h
  refine s_aload_n (i := 0) dX12_isLine_35 rfl rfl ?_
  refine s_getR hX h0 flX12_27 rfl dX12_isLine_36 (fun (g1 : o_is X (o_rf X a0 7) (.inr (2, 240))) => ?_)
  refine s_bipush dX12_isLine_39 kB_60 ?_
  refine s_iload_n (i := 1) dX12_isLine_41 rfl rfl ?_
  refine s_imul dX12_isLine_42 ?_
  refine s_iconst dX12_isLine_43 kI_2 ?_
  refine s_iload dX12_isLine_44 rfl ?_
  refine s_imul dX12_isLine_46 ?_
  refine s_iadd dX12_isLine_47 ?_
  refine s_iconst dX12_isLine_48 kI_1 ?_
  refine s_iadd dX12_isLine_49 ?_
  have hc := o_ck_c h
  have h := o_ck_k h
  refine s_laldK g1 hc rfl dX12_isLine_50 ?_
  refine s_iload_n (i := 3) dX12_isLine_51 rfl rfl ?_
  refine s_i2l dX12_isLine_52 ?_
  refine s_lif_ne (tgt := 61) dX12_isLine_53 dX12_isLine_54 rfl (fun c1 => ?_) (fun c1 => ?_)
  · have h := o_if_f c1 h
    refine s_iconst dX12_isLine_61 kI_0 ?_
    refine s_mask [true, true, true, true, true, true] (L' := [some (.ref (o_ad X a0)), some (.int x1), some (.int x2), some (.int x3), some (.int x4), some (.int x5)]) rfl ?_
    exact dnX12_isLine_j62 hX h0 h kh k65 k73
  · have h := o_if_t c1 h
    refine s_iconst dX12_isLine_57 kI_1 ?_
    refine s_goto (tgt := 62) dX12_isLine_58 rfl ?_
    refine s_mask [true, true, true, true, true, true] (L' := [some (.ref (o_ad X a0)), some (.int x1), some (.int x2), some (.int x3), some (.int x4), some (.int x5)]) rfl ?_
    exact dnX12_isLine_j62 hX h0 h kh k65 k73
set_option maxRecDepth 20000 in
theorem dnX12_isLine_s3 {X : o_Cx} (hX : o_ok X) {d : Nat} {a0 : Nat} {x1 : Int32} {x2 : Int32} {x3 : Int32} {x4 : Int32} {τ3 : Int32} {μ0 : o_Mem} {K : (Nat × (Int32)) → o_Mem → Prop} {Q : Option Value → o_Mem → Prop} (h0 : o_is X a0 (.inl 12)) (h : o_Post (fX12_isLine_s3 (o_rf X) a0 x1 x2 x3 x4 τ3 μ0) K) (kh : ∀ (τ3 : Int32) (μ : o_Mem), K (3, τ3) μ → o_Ev X (d + 0) mX12_isLine 3 [some (.ref (o_ad X a0)), some (.int x1), some (.int x2), some (.int x3), some (.int x4), some (.int τ3)] [] μ Q) (k65 : ∀ (τ3 : Int32) (μ : o_Mem), K (65, τ3) μ → o_Ev X (d + 0) mX12_isLine 65 [none, none, none, none, none, none] [] μ Q) (k73 : ∀ (τ3 : Int32) (μ : o_Mem), K (73, τ3) μ → o_Ev X (d + 0) mX12_isLine 73 [none, none, none, none, none, none] [] μ Q) : o_Ev X (d + 0) mX12_isLine 3 [some (.ref (o_ad X a0)), some (.int x1), some (.int x2), some (.int x3), some (.int x4), some (.int τ3)] [] μ0 Q := by
  unfold fX12_isLine_s3 at h
  refine s_iload dX12_isLine_3 rfl ?_
  refine s_iload_n (i := 2) dX12_isLine_5 rfl rfl ?_
  refine s_icmp_ge (tgt := 73) dX12_isLine_6 rfl (fun c1 => ?_) (fun c1 => ?_)
  · have h := o_if_t c1 h
    refine s_mask [false, false, false, false, false, false] (L' := [none, none, none, none, none, none]) rfl ?_
    exact k73 0 _ (o_ret h)
  · have h := o_if_f c1 h
    refine s_aload_n (i := 0) dX12_isLine_9 rfl rfl ?_
    refine s_getR hX h0 flX12_27 rfl dX12_isLine_10 (fun (g1 : o_is X (o_rf X a0 7) (.inr (2, 240))) => ?_)
    refine s_bipush dX12_isLine_13 kB_60 ?_
    refine s_iload_n (i := 1) dX12_isLine_15 rfl rfl ?_
    refine s_imul dX12_isLine_16 ?_
    refine s_iconst dX12_isLine_17 kI_2 ?_
    refine s_iload dX12_isLine_18 rfl ?_
    refine s_imul dX12_isLine_20 ?_
    refine s_iadd dX12_isLine_21 ?_
    have hc := o_ck_c h
    have h := o_ck_k h
    refine s_laldK g1 hc rfl dX12_isLine_22 ?_
    refine s_iload dX12_isLine_23 rfl ?_
    refine s_i2l dX12_isLine_25 ?_
    refine s_lif_ge (tgt := 34) dX12_isLine_26 dX12_isLine_27 rfl (fun c1 => ?_) (fun c1 => ?_)
    · have h := o_if_t c1 h
      refine s_iconst dX12_isLine_34 kI_0 ?_
      refine s_mask [true, true, true, true, true, true] (L' := [some (.ref (o_ad X a0)), some (.int x1), some (.int x2), some (.int x3), some (.int x4), some (.int τ3)]) rfl ?_
      exact dnX12_isLine_j35 hX h0 h kh k65 k73
    · have h := o_if_f c1 h
      refine s_iconst dX12_isLine_30 kI_1 ?_
      refine s_goto (tgt := 35) dX12_isLine_31 rfl ?_
      refine s_mask [true, true, true, true, true, true] (L' := [some (.ref (o_ad X a0)), some (.int x1), some (.int x2), some (.int x3), some (.int x4), some (.int τ3)]) rfl ?_
      exact dnX12_isLine_j35 hX h0 h kh k65 k73
set_option maxRecDepth 20000 in
theorem dnX12_isLine {X : o_Cx} (hX : o_ok X) {d : Nat} {a0 : Nat} {x1 : Int32} {x2 : Int32} {x3 : Int32} {x4 : Int32} {μ0 : o_Mem} {q : Int32 → o_Mem → Prop} (h0 : o_is X a0 (.inl 12)) (h : o_Post (fX12_isLine (o_rf X) a0 x1 x2 x3 x4 μ0) q) : o_Ev X (d + 0) mX12_isLine 0 [some (.ref (o_ad X a0)), some (.int x1), some (.int x2), some (.int x3), some (.int x4), none] [] μ0 (o_QZ q) := by
  unfold fX12_isLine at h
  refine s_iconst dX12_isLine_0 kI_0 ?_
  refine s_istore dX12_isLine_1 (Nat.le_of_ble_eq_true rfl) rfl ?_
  refine s_mask [true, true, true, true, true, true] (L' := [some (.ref (o_ad X a0)), some (.int x1), some (.int x2), some (.int x3), some (.int x4), some (.int 0)]) rfl ?_
  refine o_lp_ev (fun τ3 => [some (.ref (o_ad X a0)), some (.int x1), some (.int x2), some (.int x3), some (.int x4), some (.int τ3)]) (fun τ3 μ _K h kv ke3 => dnX12_isLine_s3 hX h0 h kv (fun τ3 μ1 h => ?_) (fun τ3 μ1 h => ?_)) o_fuel 0 μ0 (o_bdp h)
  · have h := o_if_t rfl (ke3 (65, τ3) μ1 (o_ne rfl) h)
    refine s_iconst dX12_isLine_65 kI_0 ?_
    exact s_zreturn rfl (Or.inl rfl) dX12_isLine_66 ⟨_, rfl, (Or.inl rfl), o_ret h⟩
  · have h := o_if_t rfl (o_if_f (o_ne rfl) (ke3 (73, τ3) μ1 (o_ne rfl) h))
    refine s_iconst dX12_isLine_73 kI_1 ?_
    exact s_zreturn rfl (Or.inr rfl) dX12_isLine_74 ⟨_, rfl, (Or.inr rfl), o_ret h⟩
theorem dX12_linesFrom_0 : decode cX12_linesFrom 0 = .ok (.iconst 0, 1) := by decide +kernel
theorem dX12_linesFrom_1 : decode cX12_linesFrom 1 = .ok (.istore 6, 2) := by decide +kernel
theorem dX12_linesFrom_3 : decode cX12_linesFrom 3 = .ok (.iload 4, 2) := by decide +kernel
theorem dX12_linesFrom_5 : decode cX12_linesFrom 5 = .ok (.istore 7, 2) := by decide +kernel
theorem dX12_linesFrom_7 : decode cX12_linesFrom 7 = .ok (.iload 7, 2) := by decide +kernel
theorem dX12_linesFrom_9 : decode cX12_linesFrom 9 = .ok (.iload 5, 2) := by decide +kernel
theorem dX12_linesFrom_11 : decode cX12_linesFrom 11 = .ok (.if_icmp .gt 31, 3) := by decide +kernel
theorem dX12_linesFrom_14 : decode cX12_linesFrom 14 = .ok (.iload 6, 2) := by decide +kernel
theorem dX12_linesFrom_16 : decode cX12_linesFrom 16 = .ok (.aload_n 0, 1) := by decide +kernel
theorem dX12_linesFrom_17 : decode cX12_linesFrom 17 = .ok (.iload_n 1, 1) := by decide +kernel
theorem dX12_linesFrom_18 : decode cX12_linesFrom 18 = .ok (.iload_n 2, 1) := by decide +kernel
theorem dX12_linesFrom_19 : decode cX12_linesFrom 19 = .ok (.iload_n 3, 1) := by decide +kernel
theorem dX12_linesFrom_20 : decode cX12_linesFrom 20 = .ok (.iload 7, 2) := by decide +kernel
theorem dX12_linesFrom_22 : decode cX12_linesFrom 22 = .ok (.invokevirtual 410, 3) := by decide +kernel
theorem dX12_linesFrom_25 : decode cX12_linesFrom 25 = .ok (.ifCond .eq 7, 3) := by decide +kernel
theorem dX12_linesFrom_28 : decode cX12_linesFrom 28 = .ok (.iconst 1, 1) := by decide +kernel
theorem dX12_linesFrom_29 : decode cX12_linesFrom 29 = .ok (.goto 4, 3) := by decide +kernel
theorem dX12_linesFrom_32 : decode cX12_linesFrom 32 = .ok (.iconst 0, 1) := by decide +kernel
theorem dX12_linesFrom_33 : decode cX12_linesFrom 33 = .ok (.iadd, 1) := by decide +kernel
theorem dX12_linesFrom_34 : decode cX12_linesFrom 34 = .ok (.istore 6, 2) := by decide +kernel
theorem dX12_linesFrom_36 : decode cX12_linesFrom 36 = .ok (.iinc 7 1, 3) := by decide +kernel
theorem dX12_linesFrom_39 : decode cX12_linesFrom 39 = .ok (.goto (-32), 3) := by decide +kernel
theorem dX12_linesFrom_42 : decode cX12_linesFrom 42 = .ok (.iload 6, 2) := by decide +kernel
theorem dX12_linesFrom_44 : decode cX12_linesFrom 44 = .ok (.ireturn, 1) := by decide +kernel
noncomputable def fX12_linesFrom_j33 (rf : Nat → Nat → Nat) (a0 : Nat) (x1 : Int32) (x2 : Int32) (x3 : Int32) (x5 : Int32) (x7 : Int32) (y0 : Int32) (y1 : Int32) (μ0 : o_Mem) : Option ((Nat × (Int32 × Int32)) × o_Mem) :=
  some ((7, ((y0 + y1), (x7 + 1))), μ0)
noncomputable def fX12_linesFrom_s7 (rf : Nat → Nat → Nat) (a0 : Nat) (x1 : Int32) (x2 : Int32) (x3 : Int32) (x5 : Int32) (τ7 : Int32 × Int32) (μ0 : o_Mem) : Option ((Nat × (Int32 × Int32)) × o_Mem) :=
  if x5 < τ7.2 then (
    some ((42, (τ7.1, 0)), μ0))
  else (
    o_bd (fX12_isLine rf a0 x1 x2 x3 τ7.2 μ0) fun r1 μ1 =>
    if r1 = 0 then (
      fX12_linesFrom_j33 rf a0 x1 x2 x3 x5 τ7.2 τ7.1 0 μ1)
    else (
      fX12_linesFrom_j33 rf a0 x1 x2 x3 x5 τ7.2 τ7.1 1 μ1))
noncomputable def fX12_linesFrom (rf : Nat → Nat → Nat) (a0 : Nat) (x1 : Int32) (x2 : Int32) (x3 : Int32) (x4 : Int32) (x5 : Int32) (μ0 : o_Mem) : Option (Int32 × o_Mem) :=
  o_bd (o_lp 7 (fX12_linesFrom_s7 rf a0 x1 x2 x3 x5) o_fuel (0, x4) μ0) fun ex1 μ1 =>
  if ex1.1 = 42 then (
    some (ex1.2.1, μ1))
  else
    none
set_option maxRecDepth 20000 in
theorem dnX12_linesFrom_j33 {X : o_Cx} (hX : o_ok X) {d : Nat} {a0 : Nat} {x1 : Int32} {x2 : Int32} {x3 : Int32} {x5 : Int32} {x7 : Int32} {y0 : Int32} {y1 : Int32} {μ0 : o_Mem} {K : (Nat × (Int32 × Int32)) → o_Mem → Prop} {Q : Option Value → o_Mem → Prop} (h0 : o_is X a0 (.inl 12)) (h : o_Post (fX12_linesFrom_j33 (o_rf X) a0 x1 x2 x3 x5 x7 y0 y1 μ0) K) (kh : ∀ (τ7 : Int32 × Int32) (μ : o_Mem), K (7, τ7) μ → o_Ev X (d + 1) mX12_linesFrom 7 [some (.ref (o_ad X a0)), some (.int x1), some (.int x2), some (.int x3), none, some (.int x5), some (.int τ7.1), some (.int τ7.2)] [] μ Q) (k42 : ∀ (τ7 : Int32 × Int32) (μ : o_Mem), K (42, τ7) μ → o_Ev X (d + 1) mX12_linesFrom 42 [none, none, none, none, none, none, some (.int τ7.1), none] [] μ Q) : o_Ev X (d + 1) mX12_linesFrom 33 [some (.ref (o_ad X a0)), some (.int x1), some (.int x2), some (.int x3), none, some (.int x5), none, some (.int x7)] [.int y1, .int y0] μ0 Q := by
  unfold fX12_linesFrom_j33 at h
  refine s_iadd dX12_linesFrom_33 ?_
  refine s_istore dX12_linesFrom_34 (Nat.le_of_ble_eq_true rfl) rfl ?_
  refine s_iinc (v := (x7 + 1)) dX12_linesFrom_36 rfl rfl (Nat.le_of_ble_eq_true rfl) rfl ?_
  refine s_goto (tgt := 7) dX12_linesFrom_39 rfl ?_
  refine s_mask [true, true, true, true, false, true, true, true] (L' := [some (.ref (o_ad X a0)), some (.int x1), some (.int x2), some (.int x3), none, some (.int x5), some (.int (y0 + y1)), some (.int (x7 + 1))]) rfl ?_
  exact kh ((y0 + y1), (x7 + 1)) _ (o_ret h)
set_option maxRecDepth 20000 in
theorem dnX12_linesFrom_s7 {X : o_Cx} (hX : o_ok X) {d : Nat} {a0 : Nat} {x1 : Int32} {x2 : Int32} {x3 : Int32} {x5 : Int32} {τ7 : Int32 × Int32} {μ0 : o_Mem} {K : (Nat × (Int32 × Int32)) → o_Mem → Prop} {Q : Option Value → o_Mem → Prop} (h0 : o_is X a0 (.inl 12)) (h : o_Post (fX12_linesFrom_s7 (o_rf X) a0 x1 x2 x3 x5 τ7 μ0) K) (kh : ∀ (τ7 : Int32 × Int32) (μ : o_Mem), K (7, τ7) μ → o_Ev X (d + 1) mX12_linesFrom 7 [some (.ref (o_ad X a0)), some (.int x1), some (.int x2), some (.int x3), none, some (.int x5), some (.int τ7.1), some (.int τ7.2)] [] μ Q) (k42 : ∀ (τ7 : Int32 × Int32) (μ : o_Mem), K (42, τ7) μ → o_Ev X (d + 1) mX12_linesFrom 42 [none, none, none, none, none, none, some (.int τ7.1), none] [] μ Q) : o_Ev X (d + 1) mX12_linesFrom 7 [some (.ref (o_ad X a0)), some (.int x1), some (.int x2), some (.int x3), none, some (.int x5), some (.int τ7.1), some (.int τ7.2)] [] μ0 Q := by
  unfold fX12_linesFrom_s7 at h
  refine s_iload dX12_linesFrom_7 rfl ?_
  refine s_iload dX12_linesFrom_9 rfl ?_
  refine s_icmp_gt (tgt := 42) dX12_linesFrom_11 rfl (fun c1 => ?_) (fun c1 => ?_)
  · have h := o_if_t c1 h
    refine s_mask [false, false, false, false, false, false, true, false] (L' := [none, none, none, none, none, none, some (.int τ7.1), none]) rfl ?_
    exact k42 (τ7.1, 0) _ (o_ret h)
  · have h := o_if_f c1 h
    refine s_iload dX12_linesFrom_14 rfl ?_
    refine s_aload_n (i := 0) dX12_linesFrom_16 rfl rfl ?_
    refine s_iload_n (i := 1) dX12_linesFrom_17 rfl rfl ?_
    refine s_iload_n (i := 2) dX12_linesFrom_18 rfl rfl ?_
    refine s_iload_n (i := 3) dX12_linesFrom_19 rfl rfl ?_
    refine s_iload dX12_linesFrom_20 rfl ?_
    refine s_callVz (C := mX12_isLine) (As := [.int x1, .int x2, .int x3, .int τ7.2]) (rest := [.int τ7.1]) (L0 := [some (.ref (o_ad X a0)), some (.int x1), some (.int x2), some (.int x3), some (.int τ7.2), none]) hX h0 clX12_410 dX12_linesFrom_22 rfl rfl (Nat.le_of_ble_eq_true rfl) (Nat.le_of_ble_eq_true rfl) (dnX12_isLine hX h0 (o_bdp h)) (fun r1 μ1 zr1 h => ?_)
    refine s_if_eq (tgt := 32) dX12_linesFrom_25 rfl (fun c1 => ?_) (fun c1 => ?_)
    · have h := o_if_t c1 h
      refine s_iconst dX12_linesFrom_32 kI_0 ?_
      refine s_mask [true, true, true, true, false, true, false, true] (L' := [some (.ref (o_ad X a0)), some (.int x1), some (.int x2), some (.int x3), none, some (.int x5), none, some (.int τ7.2)]) rfl ?_
      exact dnX12_linesFrom_j33 hX h0 h kh k42
    · have h := o_if_f c1 h
      refine s_iconst dX12_linesFrom_28 kI_1 ?_
      refine s_goto (tgt := 33) dX12_linesFrom_29 rfl ?_
      refine s_mask [true, true, true, true, false, true, false, true] (L' := [some (.ref (o_ad X a0)), some (.int x1), some (.int x2), some (.int x3), none, some (.int x5), none, some (.int τ7.2)]) rfl ?_
      exact dnX12_linesFrom_j33 hX h0 h kh k42
set_option maxRecDepth 20000 in
theorem dnX12_linesFrom {X : o_Cx} (hX : o_ok X) {d : Nat} {a0 : Nat} {x1 : Int32} {x2 : Int32} {x3 : Int32} {x4 : Int32} {x5 : Int32} {μ0 : o_Mem} {q : Int32 → o_Mem → Prop} (h0 : o_is X a0 (.inl 12)) (h : o_Post (fX12_linesFrom (o_rf X) a0 x1 x2 x3 x4 x5 μ0) q) : o_Ev X (d + 1) mX12_linesFrom 0 [some (.ref (o_ad X a0)), some (.int x1), some (.int x2), some (.int x3), some (.int x4), some (.int x5), none, none] [] μ0 (o_QI q) := by
  unfold fX12_linesFrom at h
  refine s_iconst dX12_linesFrom_0 kI_0 ?_
  refine s_istore dX12_linesFrom_1 (Nat.le_of_ble_eq_true rfl) rfl ?_
  refine s_iload dX12_linesFrom_3 rfl ?_
  refine s_istore dX12_linesFrom_5 (Nat.le_of_ble_eq_true rfl) rfl ?_
  refine s_mask [true, true, true, true, false, true, true, true] (L' := [some (.ref (o_ad X a0)), some (.int x1), some (.int x2), some (.int x3), none, some (.int x5), some (.int 0), some (.int x4)]) rfl ?_
  refine o_lp_ev (fun τ7 => [some (.ref (o_ad X a0)), some (.int x1), some (.int x2), some (.int x3), none, some (.int x5), some (.int τ7.1), some (.int τ7.2)]) (fun τ7 μ _K h kv ke7 => dnX12_linesFrom_s7 hX h0 h kv (fun τ7 μ1 h => ?_)) o_fuel (0, x4) μ0 (o_bdp h)
  · have h := o_if_t rfl (ke7 (42, τ7) μ1 (o_ne rfl) h)
    refine s_iload dX12_linesFrom_42 rfl ?_
    exact s_ireturn rfl dX12_linesFrom_44 ⟨_, rfl, o_ret h⟩
theorem dX12_split_0 : decode cX12_split 0 = .ok (.aload_n 0, 1) := by decide +kernel
theorem dX12_split_1 : decode cX12_split 1 = .ok (.iload_n 1, 1) := by decide +kernel
theorem dX12_split_2 : decode cX12_split 2 = .ok (.iload_n 2, 1) := by decide +kernel
theorem dX12_split_3 : decode cX12_split 3 = .ok (.iload_n 3, 1) := by decide +kernel
theorem dX12_split_4 : decode cX12_split 4 = .ok (.iload 4, 2) := by decide +kernel
theorem dX12_split_6 : decode cX12_split 6 = .ok (.invokevirtual 413, 3) := by decide +kernel
theorem dX12_split_9 : decode cX12_split 9 = .ok (.istore 5, 2) := by decide +kernel
theorem dX12_split_11 : decode cX12_split 11 = .ok (.iload 5, 2) := by decide +kernel
theorem dX12_split_13 : decode cX12_split 13 = .ok (.ifCond .le 12, 3) := by decide +kernel
theorem dX12_split_16 : decode cX12_split 16 = .ok (.aload_n 0, 1) := by decide +kernel
theorem dX12_split_17 : decode cX12_split 17 = .ok (.iload 5, 2) := by decide +kernel
theorem dX12_split_19 : decode cX12_split 19 = .ok (.invokevirtual 87, 3) := by decide +kernel
theorem dX12_split_22 : decode cX12_split 22 = .ok (.goto 17, 3) := by decide +kernel
theorem dX12_split_25 : decode cX12_split 25 = .ok (.aload_n 0, 1) := by decide +kernel
theorem dX12_split_26 : decode cX12_split 26 = .ok (.aload_n 0, 1) := by decide +kernel
theorem dX12_split_27 : decode cX12_split 27 = .ok (.iload_n 1, 1) := by decide +kernel
theorem dX12_split_28 : decode cX12_split 28 = .ok (.iload_n 2, 1) := by decide +kernel
theorem dX12_split_29 : decode cX12_split 29 = .ok (.iload_n 3, 1) := by decide +kernel
theorem dX12_split_30 : decode cX12_split 30 = .ok (.iconst 1, 1) := by decide +kernel
theorem dX12_split_31 : decode cX12_split 31 = .ok (.bipush 100, 2) := by decide +kernel
theorem dX12_split_33 : decode cX12_split 33 = .ok (.invokevirtual 416, 3) := by decide +kernel
theorem dX12_split_36 : decode cX12_split 36 = .ok (.invokevirtual 91, 3) := by decide +kernel
theorem dX12_split_39 : decode cX12_split 39 = .ok (.ireturn, 1) := by decide +kernel
noncomputable def fX12_split (rf : Nat → Nat → Nat) (a0 : Nat) (x1 : Int32) (x2 : Int32) (x3 : Int32) (x4 : Int32) (μ0 : o_Mem) : Option (Int32 × o_Mem) :=
  o_bd (fX12_wrongCovers rf a0 x1 x2 x3 x4 μ0) fun r1 μ1 =>
  if r1 ≤ 0 then (
    o_bd (fX12_linesFrom rf a0 x1 x2 x3 1 100 μ1) fun r2 μ2 =>
    o_bd (fX12_gives rf a0 r2 μ2) fun r3 μ3 =>
    some (r3, μ3))
  else (
    o_bd (fX12_refuse rf a0 r1 μ1) fun r4 μ4 =>
    some (r4, μ4))
set_option maxRecDepth 20000 in
theorem dnX12_split {X : o_Cx} (hX : o_ok X) {d : Nat} {a0 : Nat} {x1 : Int32} {x2 : Int32} {x3 : Int32} {x4 : Int32} {μ0 : o_Mem} {q : Int32 → o_Mem → Prop} (h0 : o_is X a0 (.inl 12)) (h : o_Post (fX12_split (o_rf X) a0 x1 x2 x3 x4 μ0) q) : o_Ev X (d + 2) mX12_split 0 [some (.ref (o_ad X a0)), some (.int x1), some (.int x2), some (.int x3), some (.int x4), none] [] μ0 (o_QI q) := by
  unfold fX12_split at h
  refine s_aload_n (i := 0) dX12_split_0 rfl rfl ?_
  refine s_iload_n (i := 1) dX12_split_1 rfl rfl ?_
  refine s_iload_n (i := 2) dX12_split_2 rfl rfl ?_
  refine s_iload_n (i := 3) dX12_split_3 rfl rfl ?_
  refine s_iload dX12_split_4 rfl ?_
  refine s_callVi (C := mX12_wrongCovers) (As := [.int x1, .int x2, .int x3, .int x4]) (rest := []) (L0 := [some (.ref (o_ad X a0)), some (.int x1), some (.int x2), some (.int x3), some (.int x4), none, none, none]) hX h0 clX12_413 dX12_split_6 rfl rfl (Nat.le_of_ble_eq_true rfl) (Nat.le_of_ble_eq_true rfl) (dnX12_wrongCovers hX h0 (o_bdp h)) (fun r1 μ1 h => ?_)
  refine s_istore dX12_split_9 (Nat.le_of_ble_eq_true rfl) rfl ?_
  refine s_iload dX12_split_11 rfl ?_
  refine s_if_le (tgt := 25) dX12_split_13 rfl (fun c1 => ?_) (fun c1 => ?_)
  · have h := o_if_t c1 h
    refine s_aload_n (i := 0) dX12_split_25 rfl rfl ?_
    refine s_aload_n (i := 0) dX12_split_26 rfl rfl ?_
    refine s_iload_n (i := 1) dX12_split_27 rfl rfl ?_
    refine s_iload_n (i := 2) dX12_split_28 rfl rfl ?_
    refine s_iload_n (i := 3) dX12_split_29 rfl rfl ?_
    refine s_iconst dX12_split_30 kI_1 ?_
    refine s_bipush dX12_split_31 kB_100 ?_
    refine s_callVi (C := mX12_linesFrom) (As := [.int x1, .int x2, .int x3, .int 1, .int 100]) (rest := [.ref (o_ad X a0)]) (L0 := [some (.ref (o_ad X a0)), some (.int x1), some (.int x2), some (.int x3), some (.int 1), some (.int 100), none, none]) hX h0 clX12_416 dX12_split_33 rfl rfl (Nat.le_of_ble_eq_true rfl) (Nat.le_of_ble_eq_true rfl) (dnX12_linesFrom hX h0 (o_bdp h)) (fun r2 μ2 h => ?_)
    refine s_callVi (C := mX12_gives) (As := [.int r2]) (rest := []) (L0 := [some (.ref (o_ad X a0)), some (.int r2)]) hX h0 clX12_91 dX12_split_36 rfl rfl (Nat.le_of_ble_eq_true rfl) (Nat.le_of_ble_eq_true rfl) (dnX12_gives hX h0 (o_bdp h)) (fun r3 μ3 h => ?_)
    exact s_ireturn rfl dX12_split_39 ⟨_, rfl, o_ret h⟩
  · have h := o_if_f c1 h
    refine s_aload_n (i := 0) dX12_split_16 rfl rfl ?_
    refine s_iload dX12_split_17 rfl ?_
    refine s_callVi (C := mX12_refuse) (As := [.int r1]) (rest := []) (L0 := [some (.ref (o_ad X a0)), some (.int r1)]) hX h0 clX12_87 dX12_split_19 rfl rfl (Nat.le_of_ble_eq_true rfl) (Nat.le_of_ble_eq_true rfl) (dnX12_refuse hX h0 (o_bdp h)) (fun r4 μ4 h => ?_)
    refine s_goto (tgt := 39) dX12_split_22 rfl ?_
    exact s_ireturn rfl dX12_split_39 ⟨_, rfl, o_ret h⟩
theorem dX12_splitNext_0 : decode cX12_splitNext 0 = .ok (.aload_n 0, 1) := by decide +kernel
theorem dX12_splitNext_1 : decode cX12_splitNext 1 = .ok (.iload_n 1, 1) := by decide +kernel
theorem dX12_splitNext_2 : decode cX12_splitNext 2 = .ok (.iload_n 2, 1) := by decide +kernel
theorem dX12_splitNext_3 : decode cX12_splitNext 3 = .ok (.iload_n 3, 1) := by decide +kernel
theorem dX12_splitNext_4 : decode cX12_splitNext 4 = .ok (.iload 4, 2) := by decide +kernel
theorem dX12_splitNext_6 : decode cX12_splitNext 6 = .ok (.invokevirtual 413, 3) := by decide +kernel
theorem dX12_splitNext_9 : decode cX12_splitNext 9 = .ok (.istore 5, 2) := by decide +kernel
theorem dX12_splitNext_11 : decode cX12_splitNext 11 = .ok (.iload 5, 2) := by decide +kernel
theorem dX12_splitNext_13 : decode cX12_splitNext 13 = .ok (.ifCond .le 10, 3) := by decide +kernel
theorem dX12_splitNext_16 : decode cX12_splitNext 16 = .ok (.aload_n 0, 1) := by decide +kernel
theorem dX12_splitNext_17 : decode cX12_splitNext 17 = .ok (.iload 5, 2) := by decide +kernel
theorem dX12_splitNext_19 : decode cX12_splitNext 19 = .ok (.invokevirtual 87, 3) := by decide +kernel
theorem dX12_splitNext_22 : decode cX12_splitNext 22 = .ok (.ireturn, 1) := by decide +kernel
theorem dX12_splitNext_23 : decode cX12_splitNext 23 = .ok (.aload_n 0, 1) := by decide +kernel
theorem dX12_splitNext_24 : decode cX12_splitNext 24 = .ok (.iload_n 1, 1) := by decide +kernel
theorem dX12_splitNext_25 : decode cX12_splitNext 25 = .ok (.iload_n 2, 1) := by decide +kernel
theorem dX12_splitNext_26 : decode cX12_splitNext 26 = .ok (.iload_n 3, 1) := by decide +kernel
theorem dX12_splitNext_27 : decode cX12_splitNext 27 = .ok (.iconst 1, 1) := by decide +kernel
theorem dX12_splitNext_28 : decode cX12_splitNext 28 = .ok (.bipush 100, 2) := by decide +kernel
theorem dX12_splitNext_30 : decode cX12_splitNext 30 = .ok (.invokevirtual 416, 3) := by decide +kernel
theorem dX12_splitNext_33 : decode cX12_splitNext 33 = .ok (.iconst 2, 1) := by decide +kernel
theorem dX12_splitNext_34 : decode cX12_splitNext 34 = .ok (.if_icmp .ge 10, 3) := by decide +kernel
theorem dX12_splitNext_37 : decode cX12_splitNext 37 = .ok (.aload_n 0, 1) := by decide +kernel
theorem dX12_splitNext_38 : decode cX12_splitNext 38 = .ok (.bipush 6, 2) := by decide +kernel
theorem dX12_splitNext_40 : decode cX12_splitNext 40 = .ok (.invokevirtual 87, 3) := by decide +kernel
theorem dX12_splitNext_43 : decode cX12_splitNext 43 = .ok (.ireturn, 1) := by decide +kernel
theorem dX12_splitNext_44 : decode cX12_splitNext 44 = .ok (.iconst (-1), 1) := by decide +kernel
theorem dX12_splitNext_45 : decode cX12_splitNext 45 = .ok (.istore 6, 2) := by decide +kernel
theorem dX12_splitNext_47 : decode cX12_splitNext 47 = .ok (.ldc_w 366, 3) := by decide +kernel
theorem dX12_splitNext_50 : decode cX12_splitNext 50 = .ok (.istore 7, 2) := by decide +kernel
theorem dX12_splitNext_52 : decode cX12_splitNext 52 = .ok (.iconst 1, 1) := by decide +kernel
theorem dX12_splitNext_53 : decode cX12_splitNext 53 = .ok (.istore 8, 2) := by decide +kernel
theorem dX12_splitNext_55 : decode cX12_splitNext 55 = .ok (.iload 8, 2) := by decide +kernel
theorem dX12_splitNext_57 : decode cX12_splitNext 57 = .ok (.bipush 99, 2) := by decide +kernel
theorem dX12_splitNext_59 : decode cX12_splitNext 59 = .ok (.if_icmp .gt 55, 3) := by decide +kernel
theorem dX12_splitNext_62 : decode cX12_splitNext 62 = .ok (.aload_n 0, 1) := by decide +kernel
theorem dX12_splitNext_63 : decode cX12_splitNext 63 = .ok (.iload_n 1, 1) := by decide +kernel
theorem dX12_splitNext_64 : decode cX12_splitNext 64 = .ok (.iload_n 2, 1) := by decide +kernel
theorem dX12_splitNext_65 : decode cX12_splitNext 65 = .ok (.iload_n 3, 1) := by decide +kernel
theorem dX12_splitNext_66 : decode cX12_splitNext 66 = .ok (.iconst 1, 1) := by decide +kernel
theorem dX12_splitNext_67 : decode cX12_splitNext 67 = .ok (.iload 8, 2) := by decide +kernel
theorem dX12_splitNext_69 : decode cX12_splitNext 69 = .ok (.invokevirtual 416, 3) := by decide +kernel
theorem dX12_splitNext_72 : decode cX12_splitNext 72 = .ok (.aload_n 0, 1) := by decide +kernel
theorem dX12_splitNext_73 : decode cX12_splitNext 73 = .ok (.iload_n 1, 1) := by decide +kernel
theorem dX12_splitNext_74 : decode cX12_splitNext 74 = .ok (.iload_n 2, 1) := by decide +kernel
theorem dX12_splitNext_75 : decode cX12_splitNext 75 = .ok (.iload_n 3, 1) := by decide +kernel
theorem dX12_splitNext_76 : decode cX12_splitNext 76 = .ok (.iload 8, 2) := by decide +kernel
theorem dX12_splitNext_78 : decode cX12_splitNext 78 = .ok (.iconst 1, 1) := by decide +kernel
theorem dX12_splitNext_79 : decode cX12_splitNext 79 = .ok (.iadd, 1) := by decide +kernel
theorem dX12_splitNext_80 : decode cX12_splitNext 80 = .ok (.bipush 100, 2) := by decide +kernel
theorem dX12_splitNext_82 : decode cX12_splitNext 82 = .ok (.invokevirtual 416, 3) := by decide +kernel
theorem dX12_splitNext_85 : decode cX12_splitNext 85 = .ok (.invokestatic 420, 3) := by decide +kernel
theorem dX12_splitNext_88 : decode cX12_splitNext 88 = .ok (.istore 9, 2) := by decide +kernel
theorem dX12_splitNext_90 : decode cX12_splitNext 90 = .ok (.iload 9, 2) := by decide +kernel
theorem dX12_splitNext_92 : decode cX12_splitNext 92 = .ok (.iload 7, 2) := by decide +kernel
theorem dX12_splitNext_94 : decode cX12_splitNext 94 = .ok (.if_icmp .lt 6, 3) := by decide +kernel
theorem dX12_splitNext_97 : decode cX12_splitNext 97 = .ok (.goto 11, 3) := by decide +kernel
theorem dX12_splitNext_100 : decode cX12_splitNext 100 = .ok (.iload 9, 2) := by decide +kernel
theorem dX12_splitNext_102 : decode cX12_splitNext 102 = .ok (.istore 7, 2) := by decide +kernel
theorem dX12_splitNext_104 : decode cX12_splitNext 104 = .ok (.iload 8, 2) := by decide +kernel
theorem dX12_splitNext_106 : decode cX12_splitNext 106 = .ok (.istore 6, 2) := by decide +kernel
theorem dX12_splitNext_108 : decode cX12_splitNext 108 = .ok (.iinc 8 1, 3) := by decide +kernel
theorem dX12_splitNext_111 : decode cX12_splitNext 111 = .ok (.goto (-56), 3) := by decide +kernel
theorem dX12_splitNext_114 : decode cX12_splitNext 114 = .ok (.aload_n 0, 1) := by decide +kernel
theorem dX12_splitNext_115 : decode cX12_splitNext 115 = .ok (.iload 6, 2) := by decide +kernel
theorem dX12_splitNext_117 : decode cX12_splitNext 117 = .ok (.invokevirtual 91, 3) := by decide +kernel
theorem dX12_splitNext_120 : decode cX12_splitNext 120 = .ok (.ireturn, 1) := by decide +kernel
noncomputable def fX12_splitNext_s55 (rf : Nat → Nat → Nat) (a0 : Nat) (x1 : Int32) (x2 : Int32) (x3 : Int32) (τ55 : Int32 × Int32 × Int32) (μ0 : o_Mem) : Option ((Nat × (Int32 × Int32 × Int32)) × o_Mem) :=
  if 99 < τ55.2.2 then (
    some ((114, (τ55.1, 0, 0)), μ0))
  else (
    o_bd (fX12_linesFrom rf a0 x1 x2 x3 1 τ55.2.2 μ0) fun r1 μ1 =>
    o_bd (fX12_linesFrom rf a0 x1 x2 x3 (τ55.2.2 + 1) 100 μ1) fun r2 μ2 =>
    if (if r1 < r2 then r2 else r1) < τ55.2.1 then (
      some ((55, (τ55.2.2, (if r1 < r2 then r2 else r1), (τ55.2.2 + 1))), μ2))
    else (
      some ((55, (τ55.1, τ55.2.1, (τ55.2.2 + 1))), μ2)))
noncomputable def fX12_splitNext (rf : Nat → Nat → Nat) (a0 : Nat) (x1 : Int32) (x2 : Int32) (x3 : Int32) (x4 : Int32) (μ0 : o_Mem) : Option (Int32 × o_Mem) :=
  o_bd (fX12_wrongCovers rf a0 x1 x2 x3 x4 μ0) fun r1 μ1 =>
  if r1 ≤ 0 then (
    o_bd (fX12_linesFrom rf a0 x1 x2 x3 1 100 μ1) fun r2 μ2 =>
    if 2 ≤ r2 then (
      o_bd (o_lp 55 (fX12_splitNext_s55 rf a0 x1 x2 x3) o_fuel ((-1), 1000000, 1) μ2) fun ex3 μ3 =>
      if ex3.1 = 114 then (
        o_bd (fX12_gives rf a0 ex3.2.1 μ3) fun r3 μ4 =>
        some (r3, μ4))
      else
        none)
    else (
      o_bd (fX12_refuse rf a0 6 μ2) fun r4 μ5 =>
      some (r4, μ5)))
  else (
    o_bd (fX12_refuse rf a0 r1 μ1) fun r5 μ6 =>
    some (r5, μ6))
set_option maxRecDepth 20000 in
theorem dnX12_splitNext_s55 {X : o_Cx} (hX : o_ok X) {d : Nat} {a0 : Nat} {x1 : Int32} {x2 : Int32} {x3 : Int32} {τ55 : Int32 × Int32 × Int32} {μ0 : o_Mem} {K : (Nat × (Int32 × Int32 × Int32)) → o_Mem → Prop} {Q : Option Value → o_Mem → Prop} (h0 : o_is X a0 (.inl 12)) (h : o_Post (fX12_splitNext_s55 (o_rf X) a0 x1 x2 x3 τ55 μ0) K) (kh : ∀ (τ55 : Int32 × Int32 × Int32) (μ : o_Mem), K (55, τ55) μ → o_Ev X (d + 2) mX12_splitNext 55 [some (.ref (o_ad X a0)), some (.int x1), some (.int x2), some (.int x3), none, none, some (.int τ55.1), some (.int τ55.2.1), some (.int τ55.2.2), none] [] μ Q) (k114 : ∀ (τ55 : Int32 × Int32 × Int32) (μ : o_Mem), K (114, τ55) μ → o_Ev X (d + 2) mX12_splitNext 114 [some (.ref (o_ad X a0)), none, none, none, none, none, some (.int τ55.1), none, none, none] [] μ Q) : o_Ev X (d + 2) mX12_splitNext 55 [some (.ref (o_ad X a0)), some (.int x1), some (.int x2), some (.int x3), none, none, some (.int τ55.1), some (.int τ55.2.1), some (.int τ55.2.2), none] [] μ0 Q := by
  unfold fX12_splitNext_s55 at h
  refine s_iload dX12_splitNext_55 rfl ?_
  refine s_bipush dX12_splitNext_57 kB_99 ?_
  refine s_icmp_gt (tgt := 114) dX12_splitNext_59 rfl (fun c1 => ?_) (fun c1 => ?_)
  · have h := o_if_t c1 h
    refine s_mask [true, false, false, false, false, false, true, false, false, false] (L' := [some (.ref (o_ad X a0)), none, none, none, none, none, some (.int τ55.1), none, none, none]) rfl ?_
    exact k114 (τ55.1, 0, 0) _ (o_ret h)
  · have h := o_if_f c1 h
    refine s_aload_n (i := 0) dX12_splitNext_62 rfl rfl ?_
    refine s_iload_n (i := 1) dX12_splitNext_63 rfl rfl ?_
    refine s_iload_n (i := 2) dX12_splitNext_64 rfl rfl ?_
    refine s_iload_n (i := 3) dX12_splitNext_65 rfl rfl ?_
    refine s_iconst dX12_splitNext_66 kI_1 ?_
    refine s_iload dX12_splitNext_67 rfl ?_
    refine s_callVi (C := mX12_linesFrom) (As := [.int x1, .int x2, .int x3, .int 1, .int τ55.2.2]) (rest := []) (L0 := [some (.ref (o_ad X a0)), some (.int x1), some (.int x2), some (.int x3), some (.int 1), some (.int τ55.2.2), none, none]) hX h0 clX12_416 dX12_splitNext_69 rfl rfl (Nat.le_of_ble_eq_true rfl) (Nat.le_of_ble_eq_true rfl) (dnX12_linesFrom hX h0 (o_bdp h)) (fun r1 μ1 h => ?_)
    refine s_aload_n (i := 0) dX12_splitNext_72 rfl rfl ?_
    refine s_iload_n (i := 1) dX12_splitNext_73 rfl rfl ?_
    refine s_iload_n (i := 2) dX12_splitNext_74 rfl rfl ?_
    refine s_iload_n (i := 3) dX12_splitNext_75 rfl rfl ?_
    refine s_iload dX12_splitNext_76 rfl ?_
    refine s_iconst dX12_splitNext_78 kI_1 ?_
    refine s_iadd dX12_splitNext_79 ?_
    refine s_bipush dX12_splitNext_80 kB_100 ?_
    refine s_callVi (C := mX12_linesFrom) (As := [.int x1, .int x2, .int x3, .int (τ55.2.2 + 1), .int 100]) (rest := [.int r1]) (L0 := [some (.ref (o_ad X a0)), some (.int x1), some (.int x2), some (.int x3), some (.int (τ55.2.2 + 1)), some (.int 100), none, none]) hX h0 clX12_416 dX12_splitNext_82 rfl rfl (Nat.le_of_ble_eq_true rfl) (Nat.le_of_ble_eq_true rfl) (dnX12_linesFrom hX h0 (o_bdp h)) (fun r2 μ2 h => ?_)
    refine s_max mlX12_420 mst_max mini mco_max (Nat.le_of_ble_eq_true rfl) dX12_splitNext_85 ?_
    refine s_istore dX12_splitNext_88 (Nat.le_of_ble_eq_true rfl) rfl ?_
    refine s_iload dX12_splitNext_90 rfl ?_
    refine s_iload dX12_splitNext_92 rfl ?_
    refine s_icmp_lt (tgt := 100) dX12_splitNext_94 rfl (fun c1 => ?_) (fun c1 => ?_)
    · have h := o_if_t c1 h
      refine s_iload dX12_splitNext_100 rfl ?_
      refine s_istore dX12_splitNext_102 (Nat.le_of_ble_eq_true rfl) rfl ?_
      refine s_iload dX12_splitNext_104 rfl ?_
      refine s_istore dX12_splitNext_106 (Nat.le_of_ble_eq_true rfl) rfl ?_
      refine s_iinc (v := (τ55.2.2 + 1)) dX12_splitNext_108 rfl rfl (Nat.le_of_ble_eq_true rfl) rfl ?_
      refine s_goto (tgt := 55) dX12_splitNext_111 rfl ?_
      refine s_mask [true, true, true, true, false, false, true, true, true, false] (L' := [some (.ref (o_ad X a0)), some (.int x1), some (.int x2), some (.int x3), none, none, some (.int τ55.2.2), some (.int (if r1 < r2 then r2 else r1)), some (.int (τ55.2.2 + 1)), none]) rfl ?_
      exact kh (τ55.2.2, (if r1 < r2 then r2 else r1), (τ55.2.2 + 1)) _ (o_ret h)
    · have h := o_if_f c1 h
      refine s_goto (tgt := 108) dX12_splitNext_97 rfl ?_
      refine s_iinc (v := (τ55.2.2 + 1)) dX12_splitNext_108 rfl rfl (Nat.le_of_ble_eq_true rfl) rfl ?_
      refine s_goto (tgt := 55) dX12_splitNext_111 rfl ?_
      refine s_mask [true, true, true, true, false, false, true, true, true, false] (L' := [some (.ref (o_ad X a0)), some (.int x1), some (.int x2), some (.int x3), none, none, some (.int τ55.1), some (.int τ55.2.1), some (.int (τ55.2.2 + 1)), none]) rfl ?_
      exact kh (τ55.1, τ55.2.1, (τ55.2.2 + 1)) _ (o_ret h)
set_option maxRecDepth 20000 in
theorem dnX12_splitNext {X : o_Cx} (hX : o_ok X) {d : Nat} {a0 : Nat} {x1 : Int32} {x2 : Int32} {x3 : Int32} {x4 : Int32} {μ0 : o_Mem} {q : Int32 → o_Mem → Prop} (h0 : o_is X a0 (.inl 12)) (h : o_Post (fX12_splitNext (o_rf X) a0 x1 x2 x3 x4 μ0) q) : o_Ev X (d + 2) mX12_splitNext 0 [some (.ref (o_ad X a0)), some (.int x1), some (.int x2), some (.int x3), some (.int x4), none, none, none, none, none] [] μ0 (o_QI q) := by
  unfold fX12_splitNext at h
  refine s_aload_n (i := 0) dX12_splitNext_0 rfl rfl ?_
  refine s_iload_n (i := 1) dX12_splitNext_1 rfl rfl ?_
  refine s_iload_n (i := 2) dX12_splitNext_2 rfl rfl ?_
  refine s_iload_n (i := 3) dX12_splitNext_3 rfl rfl ?_
  refine s_iload dX12_splitNext_4 rfl ?_
  refine s_callVi (C := mX12_wrongCovers) (As := [.int x1, .int x2, .int x3, .int x4]) (rest := []) (L0 := [some (.ref (o_ad X a0)), some (.int x1), some (.int x2), some (.int x3), some (.int x4), none, none, none]) hX h0 clX12_413 dX12_splitNext_6 rfl rfl (Nat.le_of_ble_eq_true rfl) (Nat.le_of_ble_eq_true rfl) (dnX12_wrongCovers hX h0 (o_bdp h)) (fun r1 μ1 h => ?_)
  refine s_istore dX12_splitNext_9 (Nat.le_of_ble_eq_true rfl) rfl ?_
  refine s_iload dX12_splitNext_11 rfl ?_
  refine s_if_le (tgt := 23) dX12_splitNext_13 rfl (fun c1 => ?_) (fun c1 => ?_)
  · have h := o_if_t c1 h
    refine s_aload_n (i := 0) dX12_splitNext_23 rfl rfl ?_
    refine s_iload_n (i := 1) dX12_splitNext_24 rfl rfl ?_
    refine s_iload_n (i := 2) dX12_splitNext_25 rfl rfl ?_
    refine s_iload_n (i := 3) dX12_splitNext_26 rfl rfl ?_
    refine s_iconst dX12_splitNext_27 kI_1 ?_
    refine s_bipush dX12_splitNext_28 kB_100 ?_
    refine s_callVi (C := mX12_linesFrom) (As := [.int x1, .int x2, .int x3, .int 1, .int 100]) (rest := []) (L0 := [some (.ref (o_ad X a0)), some (.int x1), some (.int x2), some (.int x3), some (.int 1), some (.int 100), none, none]) hX h0 clX12_416 dX12_splitNext_30 rfl rfl (Nat.le_of_ble_eq_true rfl) (Nat.le_of_ble_eq_true rfl) (dnX12_linesFrom hX h0 (o_bdp h)) (fun r2 μ2 h => ?_)
    refine s_iconst dX12_splitNext_33 kI_2 ?_
    refine s_icmp_ge (tgt := 44) dX12_splitNext_34 rfl (fun c1 => ?_) (fun c1 => ?_)
    · have h := o_if_t c1 h
      refine s_iconst dX12_splitNext_44 kI_m1 ?_
      refine s_istore dX12_splitNext_45 (Nat.le_of_ble_eq_true rfl) rfl ?_
      refine s_ldcw (v := 1000000) w_8_188 dX12_splitNext_47 ?_
      refine s_istore dX12_splitNext_50 (Nat.le_of_ble_eq_true rfl) rfl ?_
      refine s_iconst dX12_splitNext_52 kI_1 ?_
      refine s_istore dX12_splitNext_53 (Nat.le_of_ble_eq_true rfl) rfl ?_
      refine s_mask [true, true, true, true, false, false, true, true, true, false] (L' := [some (.ref (o_ad X a0)), some (.int x1), some (.int x2), some (.int x3), none, none, some (.int (-1)), some (.int 1000000), some (.int 1), none]) rfl ?_
      refine o_lp_ev (fun τ55 => [some (.ref (o_ad X a0)), some (.int x1), some (.int x2), some (.int x3), none, none, some (.int τ55.1), some (.int τ55.2.1), some (.int τ55.2.2), none]) (fun τ55 μ _K h kv ke55 => dnX12_splitNext_s55 hX h0 h kv (fun τ55 μ3 h => ?_)) o_fuel ((-1), 1000000, 1) μ2 (o_bdp h)
      · have h := o_if_t rfl (ke55 (114, τ55) μ3 (o_ne rfl) h)
        refine s_aload_n (i := 0) dX12_splitNext_114 rfl rfl ?_
        refine s_iload dX12_splitNext_115 rfl ?_
        refine s_callVi (C := mX12_gives) (As := [.int τ55.1]) (rest := []) (L0 := [some (.ref (o_ad X a0)), some (.int τ55.1)]) hX h0 clX12_91 dX12_splitNext_117 rfl rfl (Nat.le_of_ble_eq_true rfl) (Nat.le_of_ble_eq_true rfl) (dnX12_gives hX h0 (o_bdp h)) (fun r3 μ4 h => ?_)
        exact s_ireturn rfl dX12_splitNext_120 ⟨_, rfl, o_ret h⟩
    · have h := o_if_f c1 h
      refine s_aload_n (i := 0) dX12_splitNext_37 rfl rfl ?_
      refine s_bipush dX12_splitNext_38 kB_6 ?_
      refine s_callVi (C := mX12_refuse) (As := [.int 6]) (rest := []) (L0 := [some (.ref (o_ad X a0)), some (.int 6)]) hX h0 clX12_87 dX12_splitNext_40 rfl rfl (Nat.le_of_ble_eq_true rfl) (Nat.le_of_ble_eq_true rfl) (dnX12_refuse hX h0 (o_bdp h)) (fun r4 μ5 h => ?_)
      exact s_ireturn rfl dX12_splitNext_43 ⟨_, rfl, o_ret h⟩
  · have h := o_if_f c1 h
    refine s_aload_n (i := 0) dX12_splitNext_16 rfl rfl ?_
    refine s_iload dX12_splitNext_17 rfl ?_
    refine s_callVi (C := mX12_refuse) (As := [.int r1]) (rest := []) (L0 := [some (.ref (o_ad X a0)), some (.int r1)]) hX h0 clX12_87 dX12_splitNext_19 rfl rfl (Nat.le_of_ble_eq_true rfl) (Nat.le_of_ble_eq_true rfl) (dnX12_refuse hX h0 (o_bdp h)) (fun r5 μ6 h => ?_)
    exact s_ireturn rfl dX12_splitNext_22 ⟨_, rfl, o_ret h⟩
theorem dX12_lawsUsed_0 : decode cX12_lawsUsed 0 = .ok (.iconst 0, 1) := by decide +kernel
theorem dX12_lawsUsed_1 : decode cX12_lawsUsed 1 = .ok (.istore_n 1, 1) := by decide +kernel
theorem dX12_lawsUsed_2 : decode cX12_lawsUsed 2 = .ok (.iconst 0, 1) := by decide +kernel
theorem dX12_lawsUsed_3 : decode cX12_lawsUsed 3 = .ok (.istore_n 2, 1) := by decide +kernel
theorem dX12_lawsUsed_4 : decode cX12_lawsUsed 4 = .ok (.iload_n 2, 1) := by decide +kernel
theorem dX12_lawsUsed_5 : decode cX12_lawsUsed 5 = .ok (.aload_n 0, 1) := by decide +kernel
theorem dX12_lawsUsed_6 : decode cX12_lawsUsed 6 = .ok (.getfield 7, 3) := by decide +kernel
theorem dX12_lawsUsed_9 : decode cX12_lawsUsed 9 = .ok (.iconst 5, 1) := by decide +kernel
theorem dX12_lawsUsed_10 : decode cX12_lawsUsed 10 = .ok (.iaload, 1) := by decide +kernel
theorem dX12_lawsUsed_11 : decode cX12_lawsUsed 11 = .ok (.if_icmp .ge 67, 3) := by decide +kernel
theorem dX12_lawsUsed_14 : decode cX12_lawsUsed 14 = .ok (.iload_n 2, 1) := by decide +kernel
theorem dX12_lawsUsed_15 : decode cX12_lawsUsed 15 = .ok (.invokestatic 311, 3) := by decide +kernel
theorem dX12_lawsUsed_18 : decode cX12_lawsUsed 18 = .ok (.istore_n 3, 1) := by decide +kernel
theorem dX12_lawsUsed_19 : decode cX12_lawsUsed 19 = .ok (.aload_n 0, 1) := by decide +kernel
theorem dX12_lawsUsed_20 : decode cX12_lawsUsed 20 = .ok (.aload_n 0, 1) := by decide +kernel
theorem dX12_lawsUsed_21 : decode cX12_lawsUsed 21 = .ok (.getfield 7, 3) := by decide +kernel
theorem dX12_lawsUsed_24 : decode cX12_lawsUsed 24 = .ok (.iload_n 3, 1) := by decide +kernel
theorem dX12_lawsUsed_25 : decode cX12_lawsUsed 25 = .ok (.iaload, 1) := by decide +kernel
theorem dX12_lawsUsed_26 : decode cX12_lawsUsed 26 = .ok (.aload_n 0, 1) := by decide +kernel
theorem dX12_lawsUsed_27 : decode cX12_lawsUsed 27 = .ok (.getfield 7, 3) := by decide +kernel
theorem dX12_lawsUsed_30 : decode cX12_lawsUsed 30 = .ok (.iload_n 3, 1) := by decide +kernel
theorem dX12_lawsUsed_31 : decode cX12_lawsUsed 31 = .ok (.iconst 1, 1) := by decide +kernel
theorem dX12_lawsUsed_32 : decode cX12_lawsUsed 32 = .ok (.iadd, 1) := by decide +kernel
theorem dX12_lawsUsed_33 : decode cX12_lawsUsed 33 = .ok (.iaload, 1) := by decide +kernel
theorem dX12_lawsUsed_34 : decode cX12_lawsUsed 34 = .ok (.aload_n 0, 1) := by decide +kernel
theorem dX12_lawsUsed_35 : decode cX12_lawsUsed 35 = .ok (.getfield 7, 3) := by decide +kernel
theorem dX12_lawsUsed_38 : decode cX12_lawsUsed 38 = .ok (.iload_n 3, 1) := by decide +kernel
theorem dX12_lawsUsed_39 : decode cX12_lawsUsed 39 = .ok (.iconst 2, 1) := by decide +kernel
theorem dX12_lawsUsed_40 : decode cX12_lawsUsed 40 = .ok (.iadd, 1) := by decide +kernel
theorem dX12_lawsUsed_41 : decode cX12_lawsUsed 41 = .ok (.iaload, 1) := by decide +kernel
theorem dX12_lawsUsed_42 : decode cX12_lawsUsed 42 = .ok (.aload_n 0, 1) := by decide +kernel
theorem dX12_lawsUsed_43 : decode cX12_lawsUsed 43 = .ok (.getfield 7, 3) := by decide +kernel
theorem dX12_lawsUsed_46 : decode cX12_lawsUsed 46 = .ok (.iload_n 3, 1) := by decide +kernel
theorem dX12_lawsUsed_47 : decode cX12_lawsUsed 47 = .ok (.iconst 3, 1) := by decide +kernel
theorem dX12_lawsUsed_48 : decode cX12_lawsUsed 48 = .ok (.iadd, 1) := by decide +kernel
theorem dX12_lawsUsed_49 : decode cX12_lawsUsed 49 = .ok (.iaload, 1) := by decide +kernel
theorem dX12_lawsUsed_50 : decode cX12_lawsUsed 50 = .ok (.invokevirtual 318, 3) := by decide +kernel
theorem dX12_lawsUsed_53 : decode cX12_lawsUsed 53 = .ok (.istore 4, 2) := by decide +kernel
theorem dX12_lawsUsed_55 : decode cX12_lawsUsed 55 = .ok (.iload_n 1, 1) := by decide +kernel
theorem dX12_lawsUsed_56 : decode cX12_lawsUsed 56 = .ok (.iload 4, 2) := by decide +kernel
theorem dX12_lawsUsed_58 : decode cX12_lawsUsed 58 = .ok (.iconst (-1), 1) := by decide +kernel
theorem dX12_lawsUsed_59 : decode cX12_lawsUsed 59 = .ok (.if_icmp .ne 7, 3) := by decide +kernel
theorem dX12_lawsUsed_62 : decode cX12_lawsUsed 62 = .ok (.iconst 0, 1) := by decide +kernel
theorem dX12_lawsUsed_63 : decode cX12_lawsUsed 63 = .ok (.goto 7, 3) := by decide +kernel
theorem dX12_lawsUsed_66 : decode cX12_lawsUsed 66 = .ok (.iconst 1, 1) := by decide +kernel
theorem dX12_lawsUsed_67 : decode cX12_lawsUsed 67 = .ok (.iload 4, 2) := by decide +kernel
theorem dX12_lawsUsed_69 : decode cX12_lawsUsed 69 = .ok (.ishl, 1) := by decide +kernel
theorem dX12_lawsUsed_70 : decode cX12_lawsUsed 70 = .ok (.ior, 1) := by decide +kernel
theorem dX12_lawsUsed_71 : decode cX12_lawsUsed 71 = .ok (.istore_n 1, 1) := by decide +kernel
theorem dX12_lawsUsed_72 : decode cX12_lawsUsed 72 = .ok (.iinc 2 1, 3) := by decide +kernel
theorem dX12_lawsUsed_75 : decode cX12_lawsUsed 75 = .ok (.goto (-71), 3) := by decide +kernel
theorem dX12_lawsUsed_78 : decode cX12_lawsUsed 78 = .ok (.aload_n 0, 1) := by decide +kernel
theorem dX12_lawsUsed_79 : decode cX12_lawsUsed 79 = .ok (.iload_n 1, 1) := by decide +kernel
theorem dX12_lawsUsed_80 : decode cX12_lawsUsed 80 = .ok (.invokestatic 423, 3) := by decide +kernel
theorem dX12_lawsUsed_83 : decode cX12_lawsUsed 83 = .ok (.invokevirtual 91, 3) := by decide +kernel
theorem dX12_lawsUsed_86 : decode cX12_lawsUsed 86 = .ok (.ireturn, 1) := by decide +kernel
noncomputable def fX12_lawsUsed_j70 (rf : Nat → Nat → Nat) (a0 : Nat) (x2 : Int32) (y0 : Int32) (y1 : Int32) (μ0 : o_Mem) : Option ((Nat × (Int32 × Int32)) × o_Mem) :=
  some ((4, ((y0 ||| y1), (x2 + 1))), μ0)
noncomputable def fX12_lawsUsed_s4 (rf : Nat → Nat → Nat) (a0 : Nat) (τ4 : Int32 × Int32) (μ0 : o_Mem) : Option ((Nat × (Int32 × Int32)) × o_Mem) :=
  if (μ0.1 (rf a0 0) 5) ≤ τ4.2 then (
    some ((78, (τ4.1, 0)), μ0))
  else (
    o_bd (fX12_coverRow rf τ4.2 μ0) fun r1 μ1 =>
    o_ck (0 ≤ (r1).toInt ∧ (r1).toInt < 3756) <|
    o_ck (0 ≤ ((r1 + 1)).toInt ∧ ((r1 + 1)).toInt < 3756) <|
    o_ck (0 ≤ ((r1 + 2)).toInt ∧ ((r1 + 2)).toInt < 3756) <|
    o_ck (0 ≤ ((r1 + 3)).toInt ∧ ((r1 + 3)).toInt < 3756) <|
    o_bd (fX12_firstLaw rf a0 (μ1.1 (rf a0 0) r1.toNatClampNeg) (μ1.1 (rf a0 0) ((r1 + 1)).toNatClampNeg) (μ1.1 (rf a0 0) ((r1 + 2)).toNatClampNeg) (μ1.1 (rf a0 0) ((r1 + 3)).toNatClampNeg) μ1) fun r2 μ2 =>
    if r2 = (-1) then (
      fX12_lawsUsed_j70 rf a0 τ4.2 τ4.1 0 μ2)
    else (
      fX12_lawsUsed_j70 rf a0 τ4.2 τ4.1 (1 <<< (r2 &&& 31)) μ2))
noncomputable def fX12_lawsUsed (rf : Nat → Nat → Nat) (a0 : Nat) (μ0 : o_Mem) : Option (Int32 × o_Mem) :=
  o_bd (o_lp 4 (fX12_lawsUsed_s4 rf a0) o_fuel (0, 0) μ0) fun ex1 μ1 =>
  if ex1.1 = 78 then (
    o_bd (fX12_bits rf ex1.2.1 μ1) fun r1 μ2 =>
    o_bd (fX12_gives rf a0 r1 μ2) fun r2 μ3 =>
    some (r2, μ3))
  else
    none
set_option maxRecDepth 20000 in
theorem dnX12_lawsUsed_j70 {X : o_Cx} (hX : o_ok X) {d : Nat} {a0 : Nat} {x2 : Int32} {y0 : Int32} {y1 : Int32} {μ0 : o_Mem} {K : (Nat × (Int32 × Int32)) → o_Mem → Prop} {Q : Option Value → o_Mem → Prop} (h0 : o_is X a0 (.inl 12)) (h : o_Post (fX12_lawsUsed_j70 (o_rf X) a0 x2 y0 y1 μ0) K) (kh : ∀ (τ4 : Int32 × Int32) (μ : o_Mem), K (4, τ4) μ → o_Ev X (d + 3) mX12_lawsUsed 4 [some (.ref (o_ad X a0)), some (.int τ4.1), some (.int τ4.2), none, none] [] μ Q) (k78 : ∀ (τ4 : Int32 × Int32) (μ : o_Mem), K (78, τ4) μ → o_Ev X (d + 3) mX12_lawsUsed 78 [some (.ref (o_ad X a0)), some (.int τ4.1), none, none, none] [] μ Q) : o_Ev X (d + 3) mX12_lawsUsed 70 [some (.ref (o_ad X a0)), none, some (.int x2), none, none] [.int y1, .int y0] μ0 Q := by
  unfold fX12_lawsUsed_j70 at h
  refine s_ior dX12_lawsUsed_70 ?_
  refine s_istore_n (i := 1) dX12_lawsUsed_71 rfl (Nat.le_of_ble_eq_true rfl) rfl ?_
  refine s_iinc (v := (x2 + 1)) dX12_lawsUsed_72 rfl rfl (Nat.le_of_ble_eq_true rfl) rfl ?_
  refine s_goto (tgt := 4) dX12_lawsUsed_75 rfl ?_
  refine s_mask [true, true, true, false, false] (L' := [some (.ref (o_ad X a0)), some (.int (y0 ||| y1)), some (.int (x2 + 1)), none, none]) rfl ?_
  exact kh ((y0 ||| y1), (x2 + 1)) _ (o_ret h)
set_option maxRecDepth 20000 in
theorem dnX12_lawsUsed_s4 {X : o_Cx} (hX : o_ok X) {d : Nat} {a0 : Nat} {τ4 : Int32 × Int32} {μ0 : o_Mem} {K : (Nat × (Int32 × Int32)) → o_Mem → Prop} {Q : Option Value → o_Mem → Prop} (h0 : o_is X a0 (.inl 12)) (h : o_Post (fX12_lawsUsed_s4 (o_rf X) a0 τ4 μ0) K) (kh : ∀ (τ4 : Int32 × Int32) (μ : o_Mem), K (4, τ4) μ → o_Ev X (d + 3) mX12_lawsUsed 4 [some (.ref (o_ad X a0)), some (.int τ4.1), some (.int τ4.2), none, none] [] μ Q) (k78 : ∀ (τ4 : Int32 × Int32) (μ : o_Mem), K (78, τ4) μ → o_Ev X (d + 3) mX12_lawsUsed 78 [some (.ref (o_ad X a0)), some (.int τ4.1), none, none, none] [] μ Q) : o_Ev X (d + 3) mX12_lawsUsed 4 [some (.ref (o_ad X a0)), some (.int τ4.1), some (.int τ4.2), none, none] [] μ0 Q := by
  unfold fX12_lawsUsed_s4 at h
  refine s_iload_n (i := 2) dX12_lawsUsed_4 rfl rfl ?_
  refine s_aload_n (i := 0) dX12_lawsUsed_5 rfl rfl ?_
  refine s_getR hX h0 flX12_7 rfl dX12_lawsUsed_6 (fun (g1 : o_is X (o_rf X a0 0) (.inr (0, 3756))) => ?_)
  refine s_iconst dX12_lawsUsed_9 kI_5 ?_
  refine s_ialdK g1 ⟨by decide, by decide⟩ kN_5 dX12_lawsUsed_10 ?_
  refine s_icmp_ge (tgt := 78) dX12_lawsUsed_11 rfl (fun c1 => ?_) (fun c1 => ?_)
  · have h := o_if_t c1 h
    refine s_mask [true, true, false, false, false] (L' := [some (.ref (o_ad X a0)), some (.int τ4.1), none, none, none]) rfl ?_
    exact k78 (τ4.1, 0) _ (o_ret h)
  · have h := o_if_f c1 h
    refine s_iload_n (i := 2) dX12_lawsUsed_14 rfl rfl ?_
    refine s_callSi (C := mX12_coverRow) (As := [.int τ4.2]) (rest := []) (L0 := [some (.int τ4.2)]) clX12_311 dX12_lawsUsed_15 rfl rfl (Nat.le_of_ble_eq_true rfl) (Nat.le_of_ble_eq_true rfl) (dnX12_coverRow hX  (o_bdp h)) (fun r1 μ1 h => ?_)
    refine s_istore_n (i := 3) dX12_lawsUsed_18 rfl (Nat.le_of_ble_eq_true rfl) rfl ?_
    refine s_aload_n (i := 0) dX12_lawsUsed_19 rfl rfl ?_
    refine s_aload_n (i := 0) dX12_lawsUsed_20 rfl rfl ?_
    refine s_getR hX h0 flX12_7 rfl dX12_lawsUsed_21 (fun (g2 : o_is X (o_rf X a0 0) (.inr (0, 3756))) => ?_)
    refine s_iload_n (i := 3) dX12_lawsUsed_24 rfl rfl ?_
    have hc := o_ck_c h
    have h := o_ck_k h
    refine s_ialdK g2 hc rfl dX12_lawsUsed_25 ?_
    refine s_aload_n (i := 0) dX12_lawsUsed_26 rfl rfl ?_
    refine s_getR hX h0 flX12_7 rfl dX12_lawsUsed_27 (fun (g3 : o_is X (o_rf X a0 0) (.inr (0, 3756))) => ?_)
    refine s_iload_n (i := 3) dX12_lawsUsed_30 rfl rfl ?_
    refine s_iconst dX12_lawsUsed_31 kI_1 ?_
    refine s_iadd dX12_lawsUsed_32 ?_
    have hc := o_ck_c h
    have h := o_ck_k h
    refine s_ialdK g3 hc rfl dX12_lawsUsed_33 ?_
    refine s_aload_n (i := 0) dX12_lawsUsed_34 rfl rfl ?_
    refine s_getR hX h0 flX12_7 rfl dX12_lawsUsed_35 (fun (g4 : o_is X (o_rf X a0 0) (.inr (0, 3756))) => ?_)
    refine s_iload_n (i := 3) dX12_lawsUsed_38 rfl rfl ?_
    refine s_iconst dX12_lawsUsed_39 kI_2 ?_
    refine s_iadd dX12_lawsUsed_40 ?_
    have hc := o_ck_c h
    have h := o_ck_k h
    refine s_ialdK g4 hc rfl dX12_lawsUsed_41 ?_
    refine s_aload_n (i := 0) dX12_lawsUsed_42 rfl rfl ?_
    refine s_getR hX h0 flX12_7 rfl dX12_lawsUsed_43 (fun (g5 : o_is X (o_rf X a0 0) (.inr (0, 3756))) => ?_)
    refine s_iload_n (i := 3) dX12_lawsUsed_46 rfl rfl ?_
    refine s_iconst dX12_lawsUsed_47 kI_3 ?_
    refine s_iadd dX12_lawsUsed_48 ?_
    have hc := o_ck_c h
    have h := o_ck_k h
    refine s_ialdK g5 hc rfl dX12_lawsUsed_49 ?_
    refine s_callVi (C := mX12_firstLaw) (As := [.int (μ1.1 (o_rf X a0 0) r1.toNatClampNeg), .int (μ1.1 (o_rf X a0 0) ((r1 + 1)).toNatClampNeg), .int (μ1.1 (o_rf X a0 0) ((r1 + 2)).toNatClampNeg), .int (μ1.1 (o_rf X a0 0) ((r1 + 3)).toNatClampNeg)]) (rest := []) (L0 := [some (.ref (o_ad X a0)), some (.int (μ1.1 (o_rf X a0 0) r1.toNatClampNeg)), some (.int (μ1.1 (o_rf X a0 0) ((r1 + 1)).toNatClampNeg)), some (.int (μ1.1 (o_rf X a0 0) ((r1 + 2)).toNatClampNeg)), some (.int (μ1.1 (o_rf X a0 0) ((r1 + 3)).toNatClampNeg)), none]) hX h0 clX12_318 dX12_lawsUsed_50 rfl rfl (Nat.le_of_ble_eq_true rfl) (Nat.le_of_ble_eq_true rfl) (dnX12_firstLaw hX h0 (o_bdp h)) (fun r2 μ2 h => ?_)
    refine s_istore dX12_lawsUsed_53 (Nat.le_of_ble_eq_true rfl) rfl ?_
    refine s_iload_n (i := 1) dX12_lawsUsed_55 rfl rfl ?_
    refine s_iload dX12_lawsUsed_56 rfl ?_
    refine s_iconst dX12_lawsUsed_58 kI_m1 ?_
    refine s_icmp_ne (tgt := 66) dX12_lawsUsed_59 rfl (fun c1 => ?_) (fun c1 => ?_)
    · have h := o_if_f c1 h
      refine s_iconst dX12_lawsUsed_66 kI_1 ?_
      refine s_iload dX12_lawsUsed_67 rfl ?_
      refine s_ishl dX12_lawsUsed_69 ?_
      refine s_mask [true, false, true, false, false] (L' := [some (.ref (o_ad X a0)), none, some (.int τ4.2), none, none]) rfl ?_
      exact dnX12_lawsUsed_j70 hX h0 h kh k78
    · have h := o_if_t c1 h
      refine s_iconst dX12_lawsUsed_62 kI_0 ?_
      refine s_goto (tgt := 70) dX12_lawsUsed_63 rfl ?_
      refine s_mask [true, false, true, false, false] (L' := [some (.ref (o_ad X a0)), none, some (.int τ4.2), none, none]) rfl ?_
      exact dnX12_lawsUsed_j70 hX h0 h kh k78
set_option maxRecDepth 20000 in
theorem dnX12_lawsUsed {X : o_Cx} (hX : o_ok X) {d : Nat} {a0 : Nat} {μ0 : o_Mem} {q : Int32 → o_Mem → Prop} (h0 : o_is X a0 (.inl 12)) (h : o_Post (fX12_lawsUsed (o_rf X) a0 μ0) q) : o_Ev X (d + 3) mX12_lawsUsed 0 [some (.ref (o_ad X a0)), none, none, none, none] [] μ0 (o_QI q) := by
  unfold fX12_lawsUsed at h
  refine s_iconst dX12_lawsUsed_0 kI_0 ?_
  refine s_istore_n (i := 1) dX12_lawsUsed_1 rfl (Nat.le_of_ble_eq_true rfl) rfl ?_
  refine s_iconst dX12_lawsUsed_2 kI_0 ?_
  refine s_istore_n (i := 2) dX12_lawsUsed_3 rfl (Nat.le_of_ble_eq_true rfl) rfl ?_
  refine s_mask [true, true, true, false, false] (L' := [some (.ref (o_ad X a0)), some (.int 0), some (.int 0), none, none]) rfl ?_
  refine o_lp_ev (fun τ4 => [some (.ref (o_ad X a0)), some (.int τ4.1), some (.int τ4.2), none, none]) (fun τ4 μ _K h kv ke4 => dnX12_lawsUsed_s4 hX h0 h kv (fun τ4 μ1 h => ?_)) o_fuel (0, 0) μ0 (o_bdp h)
  · have h := o_if_t rfl (ke4 (78, τ4) μ1 (o_ne rfl) h)
    refine s_aload_n (i := 0) dX12_lawsUsed_78 rfl rfl ?_
    refine s_iload_n (i := 1) dX12_lawsUsed_79 rfl rfl ?_
    refine s_callSi (C := mX12_bits) (As := [.int τ4.1]) (rest := [.ref (o_ad X a0)]) (L0 := [some (.int τ4.1), none, none]) clX12_423 dX12_lawsUsed_80 rfl rfl (Nat.le_of_ble_eq_true rfl) (Nat.le_of_ble_eq_true rfl) (dnX12_bits hX  (o_bdp h)) (fun r1 μ2 h => ?_)
    refine s_callVi (C := mX12_gives) (As := [.int r1]) (rest := []) (L0 := [some (.ref (o_ad X a0)), some (.int r1)]) hX h0 clX12_91 dX12_lawsUsed_83 rfl rfl (Nat.le_of_ble_eq_true rfl) (Nat.le_of_ble_eq_true rfl) (dnX12_gives hX h0 (o_bdp h)) (fun r2 μ3 h => ?_)
    exact s_ireturn rfl dX12_lawsUsed_86 ⟨_, rfl, o_ret h⟩
