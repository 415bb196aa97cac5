theorem dX12_isTray_0 : decode cX12_isTray 0 = .ok (.iload_n 0, 1) := by decide +kernel
theorem dX12_isTray_1 : decode cX12_isTray 1 = .ok (.ifCond .lt 12, 3) := by decide +kernel
theorem dX12_isTray_4 : decode cX12_isTray 4 = .ok (.iload_n 0, 1) := by decide +kernel
theorem dX12_isTray_5 : decode cX12_isTray 5 = .ok (.iconst 4, 1) := by decide +kernel
theorem dX12_isTray_6 : decode cX12_isTray 6 = .ok (.if_icmp .ge 7, 3) := by decide +kernel
theorem dX12_isTray_9 : decode cX12_isTray 9 = .ok (.iconst 1, 1) := by decide +kernel
theorem dX12_isTray_10 : decode cX12_isTray 10 = .ok (.goto 4, 3) := by decide +kernel
theorem dX12_isTray_13 : decode cX12_isTray 13 = .ok (.iconst 0, 1) := by decide +kernel
theorem dX12_isTray_14 : decode cX12_isTray 14 = .ok (.ireturn, 1) := by decide +kernel
noncomputable def fX12_isTray (rf : Nat → Nat → Nat) (x0 : Int32) (μ0 : o_Mem) : Option (Int32 × o_Mem) :=
  if x0 < 0 then (
    some (0, μ0))
  else (
    if 4 ≤ x0 then (
      some (0, μ0))
    else (
      some (1, μ0)))
set_option maxRecDepth 20000 in
theorem dnX12_isTray {X : o_Cx} (hX : o_ok X) {d : Nat} {x0 : Int32} {μ0 : o_Mem} {q : Int32 → o_Mem → Prop}  (h : o_Post (fX12_isTray (o_rf X) x0 μ0) q) : o_Ev X (d + 0) mX12_isTray 0 [some (.int x0)] [] μ0 (o_QZ q) := by
  unfold fX12_isTray at h
  refine s_iload_n (i := 0) dX12_isTray_0 rfl rfl ?_
  refine s_if_lt (tgt := 13) dX12_isTray_1 rfl (fun c1 => ?_) (fun c1 => ?_)
  · have h := o_if_t c1 h
    refine s_iconst dX12_isTray_13 kI_0 ?_
    exact s_zreturn rfl (Or.inl rfl) dX12_isTray_14 ⟨_, rfl, (Or.inl rfl), o_ret h⟩
  · have h := o_if_f c1 h
    refine s_iload_n (i := 0) dX12_isTray_4 rfl rfl ?_
    refine s_iconst dX12_isTray_5 kI_4 ?_
    refine s_icmp_ge (tgt := 13) dX12_isTray_6 rfl (fun c1 => ?_) (fun c1 => ?_)
    · have h := o_if_t c1 h
      refine s_iconst dX12_isTray_13 kI_0 ?_
      exact s_zreturn rfl (Or.inl rfl) dX12_isTray_14 ⟨_, rfl, (Or.inl rfl), o_ret h⟩
    · have h := o_if_f c1 h
      refine s_iconst dX12_isTray_9 kI_1 ?_
      refine s_goto (tgt := 14) dX12_isTray_10 rfl ?_
      exact s_zreturn rfl (Or.inr rfl) dX12_isTray_14 ⟨_, rfl, (Or.inr rfl), o_ret h⟩
theorem dX12_cut_0 : decode cX12_cut 0 = .ok (.iload_n 2, 1) := by decide +kernel
theorem dX12_cut_1 : decode cX12_cut 1 = .ok (.ifCond .ne 10, 3) := by decide +kernel
theorem dX12_cut_4 : decode cX12_cut 4 = .ok (.lload_n 0, 1) := by decide +kernel
theorem dX12_cut_5 : decode cX12_cut 5 = .ok (.l2i, 1) := by decide +kernel
theorem dX12_cut_6 : decode cX12_cut 6 = .ok (.i2b, 1) := by decide +kernel
theorem dX12_cut_7 : decode cX12_cut 7 = .ok (.i2l, 1) := by decide +kernel
theorem dX12_cut_8 : decode cX12_cut 8 = .ok (.goto 27, 3) := by decide +kernel
theorem dX12_cut_11 : decode cX12_cut 11 = .ok (.iload_n 2, 1) := by decide +kernel
theorem dX12_cut_12 : decode cX12_cut 12 = .ok (.iconst 1, 1) := by decide +kernel
theorem dX12_cut_13 : decode cX12_cut 13 = .ok (.if_icmp .ne 10, 3) := by decide +kernel
theorem dX12_cut_16 : decode cX12_cut 16 = .ok (.lload_n 0, 1) := by decide +kernel
theorem dX12_cut_17 : decode cX12_cut 17 = .ok (.l2i, 1) := by decide +kernel
theorem dX12_cut_18 : decode cX12_cut 18 = .ok (.i2s, 1) := by decide +kernel
theorem dX12_cut_19 : decode cX12_cut 19 = .ok (.i2l, 1) := by decide +kernel
theorem dX12_cut_20 : decode cX12_cut 20 = .ok (.goto 15, 3) := by decide +kernel
theorem dX12_cut_23 : decode cX12_cut 23 = .ok (.iload_n 2, 1) := by decide +kernel
theorem dX12_cut_24 : decode cX12_cut 24 = .ok (.iconst 2, 1) := by decide +kernel
theorem dX12_cut_25 : decode cX12_cut 25 = .ok (.if_icmp .ne 9, 3) := by decide +kernel
theorem dX12_cut_28 : decode cX12_cut 28 = .ok (.lload_n 0, 1) := by decide +kernel
theorem dX12_cut_29 : decode cX12_cut 29 = .ok (.l2i, 1) := by decide +kernel
theorem dX12_cut_30 : decode cX12_cut 30 = .ok (.i2l, 1) := by decide +kernel
theorem dX12_cut_31 : decode cX12_cut 31 = .ok (.goto 4, 3) := by decide +kernel
theorem dX12_cut_34 : decode cX12_cut 34 = .ok (.lload_n 0, 1) := by decide +kernel
theorem dX12_cut_35 : decode cX12_cut 35 = .ok (.lreturn, 1) := by decide +kernel
noncomputable def fX12_cut (rf : Nat → Nat → Nat) (x0 : Int64) (x2 : Int32) (μ0 : o_Mem) : Option (Int64 × o_Mem) :=
  if x2 = 0 then (
    some (x0.toInt32.toInt8.toInt32.toInt64, μ0))
  else (
    if x2 = 1 then (
      some (x0.toInt32.toInt16.toInt32.toInt64, μ0))
    else (
      if x2 = 2 then (
        some (x0.toInt32.toInt64, μ0))
      else (
        some (x0, μ0))))
set_option maxRecDepth 20000 in
theorem dnX12_cut {X : o_Cx} (hX : o_ok X) {d : Nat} {x0 : Int64} {x2 : Int32} {μ0 : o_Mem} {q : Int64 → o_Mem → Prop}  (h : o_Post (fX12_cut (o_rf X) x0 x2 μ0) q) : o_Ev X (d + 0) mX12_cut 0 [some (.long x0), none, some (.int x2)] [] μ0 (o_QL q) := by
  unfold fX12_cut at h
  refine s_iload_n (i := 2) dX12_cut_0 rfl rfl ?_
  refine s_if_ne (tgt := 11) dX12_cut_1 rfl (fun c1 => ?_) (fun c1 => ?_)
  · have h := o_if_f c1 h
    refine s_iload_n (i := 2) dX12_cut_11 rfl rfl ?_
    refine s_iconst dX12_cut_12 kI_1 ?_
    refine s_icmp_ne (tgt := 23) dX12_cut_13 rfl (fun c1 => ?_) (fun c1 => ?_)
    · have h := o_if_f c1 h
      refine s_iload_n (i := 2) dX12_cut_23 rfl rfl ?_
      refine s_iconst dX12_cut_24 kI_2 ?_
      refine s_icmp_ne (tgt := 34) dX12_cut_25 rfl (fun c1 => ?_) (fun c1 => ?_)
      · have h := o_if_f c1 h
        refine s_lload_n (i := 0) dX12_cut_34 rfl rfl ?_
        exact s_lreturn rfl dX12_cut_35 ⟨_, rfl, o_ret h⟩
      · have h := o_if_t c1 h
        refine s_lload_n (i := 0) dX12_cut_28 rfl rfl ?_
        refine s_l2i dX12_cut_29 ?_
        refine s_i2l dX12_cut_30 ?_
        refine s_goto (tgt := 35) dX12_cut_31 rfl ?_
        exact s_lreturn rfl dX12_cut_35 ⟨_, rfl, o_ret h⟩
    · have h := o_if_t c1 h
      refine s_lload_n (i := 0) dX12_cut_16 rfl rfl ?_
      refine s_l2i dX12_cut_17 ?_
      refine s_i2s dX12_cut_18 ?_
      refine s_i2l dX12_cut_19 ?_
      refine s_goto (tgt := 35) dX12_cut_20 rfl ?_
      exact s_lreturn rfl dX12_cut_35 ⟨_, rfl, o_ret h⟩
  · have h := o_if_t c1 h
    refine s_lload_n (i := 0) dX12_cut_4 rfl rfl ?_
    refine s_l2i dX12_cut_5 ?_
    refine s_i2b dX12_cut_6 ?_
    refine s_i2l dX12_cut_7 ?_
    refine s_goto (tgt := 35) dX12_cut_8 rfl ?_
    exact s_lreturn rfl dX12_cut_35 ⟨_, rfl, o_ret h⟩
theorem dX12_tray_0 : decode cX12_tray 0 = .ok (.iload_n 1, 1) := by decide +kernel
theorem dX12_tray_1 : decode cX12_tray 1 = .ok (.invokestatic 98, 3) := by decide +kernel
theorem dX12_tray_4 : decode cX12_tray 4 = .ok (.ifCond .eq 22, 3) := by decide +kernel
theorem dX12_tray_7 : decode cX12_tray 7 = .ok (.iload_n 2, 1) := by decide +kernel
theorem dX12_tray_8 : decode cX12_tray 8 = .ok (.ifCond .lt 18, 3) := by decide +kernel
theorem dX12_tray_11 : decode cX12_tray 11 = .ok (.iload_n 2, 1) := by decide +kernel
theorem dX12_tray_12 : decode cX12_tray 12 = .ok (.iconst 3, 1) := by decide +kernel
theorem dX12_tray_13 : decode cX12_tray 13 = .ok (.if_icmp .gt 13, 3) := by decide +kernel
theorem dX12_tray_16 : decode cX12_tray 16 = .ok (.iload_n 3, 1) := by decide +kernel
theorem dX12_tray_17 : decode cX12_tray 17 = .ok (.ifCond .lt 9, 3) := by decide +kernel
theorem dX12_tray_20 : decode cX12_tray 20 = .ok (.iload_n 3, 1) := by decide +kernel
theorem dX12_tray_21 : decode cX12_tray 21 = .ok (.bipush 60, 2) := by decide +kernel
theorem dX12_tray_23 : decode cX12_tray 23 = .ok (.if_icmp .le 9, 3) := by decide +kernel
theorem dX12_tray_26 : decode cX12_tray 26 = .ok (.aload_n 0, 1) := by decide +kernel
theorem dX12_tray_27 : decode cX12_tray 27 = .ok (.iconst 1, 1) := by decide +kernel
theorem dX12_tray_28 : decode cX12_tray 28 = .ok (.invokevirtual 94, 3) := by decide +kernel
theorem dX12_tray_31 : decode cX12_tray 31 = .ok (.ireturn, 1) := by decide +kernel
theorem dX12_tray_32 : decode cX12_tray 32 = .ok (.aload_n 0, 1) := by decide +kernel
theorem dX12_tray_33 : decode cX12_tray 33 = .ok (.getfield 21, 3) := by decide +kernel
theorem dX12_tray_36 : decode cX12_tray 36 = .ok (.iload_n 1, 1) := by decide +kernel
theorem dX12_tray_37 : decode cX12_tray 37 = .ok (.iload_n 2, 1) := by decide +kernel
theorem dX12_tray_38 : decode cX12_tray 38 = .ok (.iastore, 1) := by decide +kernel
theorem dX12_tray_39 : decode cX12_tray 39 = .ok (.aload_n 0, 1) := by decide +kernel
theorem dX12_tray_40 : decode cX12_tray 40 = .ok (.getfield 24, 3) := by decide +kernel
theorem dX12_tray_43 : decode cX12_tray 43 = .ok (.iload_n 1, 1) := by decide +kernel
theorem dX12_tray_44 : decode cX12_tray 44 = .ok (.iload_n 3, 1) := by decide +kernel
theorem dX12_tray_45 : decode cX12_tray 45 = .ok (.iastore, 1) := by decide +kernel
theorem dX12_tray_46 : decode cX12_tray 46 = .ok (.iconst 0, 1) := by decide +kernel
theorem dX12_tray_47 : decode cX12_tray 47 = .ok (.istore 4, 2) := by decide +kernel
theorem dX12_tray_49 : decode cX12_tray 49 = .ok (.iload 4, 2) := by decide +kernel
theorem dX12_tray_51 : decode cX12_tray 51 = .ok (.iload_n 3, 1) := by decide +kernel
theorem dX12_tray_52 : decode cX12_tray 52 = .ok (.if_icmp .ge 22, 3) := by decide +kernel
theorem dX12_tray_55 : decode cX12_tray 55 = .ok (.aload_n 0, 1) := by decide +kernel
theorem dX12_tray_56 : decode cX12_tray 56 = .ok (.getfield 27, 3) := by decide +kernel
theorem dX12_tray_59 : decode cX12_tray 59 = .ok (.bipush 60, 2) := by decide +kernel
theorem dX12_tray_61 : decode cX12_tray 61 = .ok (.iload_n 1, 1) := by decide +kernel
theorem dX12_tray_62 : decode cX12_tray 62 = .ok (.imul, 1) := by decide +kernel
theorem dX12_tray_63 : decode cX12_tray 63 = .ok (.iload 4, 2) := by decide +kernel
theorem dX12_tray_65 : decode cX12_tray 65 = .ok (.iadd, 1) := by decide +kernel
theorem dX12_tray_66 : decode cX12_tray 66 = .ok (.lconst 0, 1) := by decide +kernel
theorem dX12_tray_67 : decode cX12_tray 67 = .ok (.lastore, 1) := by decide +kernel
theorem dX12_tray_68 : decode cX12_tray 68 = .ok (.iinc 4 1, 3) := by decide +kernel
theorem dX12_tray_71 : decode cX12_tray 71 = .ok (.goto (-22), 3) := by decide +kernel
theorem dX12_tray_74 : decode cX12_tray 74 = .ok (.aload_n 0, 1) := by decide +kernel
theorem dX12_tray_75 : decode cX12_tray 75 = .ok (.iconst 0, 1) := by decide +kernel
theorem dX12_tray_76 : decode cX12_tray 76 = .ok (.invokevirtual 94, 3) := by decide +kernel
theorem dX12_tray_79 : decode cX12_tray 79 = .ok (.ireturn, 1) := by decide +kernel
noncomputable def fX12_tray_j26 (rf : Nat → Nat → Nat) (a0 : Nat) (μ0 : o_Mem) : Option (Int32 × o_Mem) :=
  o_bd (fX12_is rf a0 1 μ0) fun r1 μ1 =>
  some (r1, μ1)
noncomputable def fX12_tray_s49 (rf : Nat → Nat → Nat) (a0 : Nat) (x1 : Int32) (x3 : Int32) (τ49 : Int32) (μ0 : o_Mem) : Option ((Nat × (Int32)) × o_Mem) :=
  if x3 ≤ τ49 then (
    some ((74, 0), μ0))
  else (
    o_ck (0 ≤ (((60 * x1) + τ49)).toInt ∧ (((60 * x1) + τ49)).toInt < 240) <|
    o_seq (o_wL μ0 (rf a0 7) ((((60 * x1) + τ49)).toNatClampNeg) (0 : Int64)) fun μ1 =>
    some ((49, (τ49 + 1)), μ1))
noncomputable def fX12_tray (rf : Nat → Nat → Nat) (a0 : Nat) (x1 : Int32) (x2 : Int32) (x3 : Int32) (μ0 : o_Mem) : Option (Int32 × o_Mem) :=
  o_bd (fX12_isTray rf x1 μ0) fun r1 μ1 =>
  if r1 = 0 then (
    fX12_tray_j26 rf a0 μ1)
  else (
    if x2 < 0 then (
      fX12_tray_j26 rf a0 μ1)
    else (
      if 3 < x2 then (
        fX12_tray_j26 rf a0 μ1)
      else (
        if x3 < 0 then (
          fX12_tray_j26 rf a0 μ1)
        else (
          if x3 ≤ 60 then (
            o_ck (0 ≤ (x1).toInt ∧ (x1).toInt < 4) <|
            o_seq (o_wI μ1 (rf a0 5) x1.toNatClampNeg x2) fun μ2 =>
            o_ck (0 ≤ (x1).toInt ∧ (x1).toInt < 4) <|
            o_seq (o_wI μ2 (rf a0 6) x1.toNatClampNeg x3) fun μ3 =>
            o_bd (o_lp 49 (fX12_tray_s49 rf a0 x1 x3) o_fuel (0 : Int32) μ3) fun ex4 μ4 =>
            if ex4.1 = 74 then (
              o_bd (fX12_is rf a0 0 μ4) fun r2 μ5 =>
              some (r2, μ5))
            else
              none)
          else (
            fX12_tray_j26 rf a0 μ1)))))
set_option maxRecDepth 20000 in
theorem dnX12_tray_j26 {X : o_Cx} (hX : o_ok X) {d : Nat} {a0 : Nat} {μ0 : o_Mem} {q : Int32 → o_Mem → Prop} (h0 : o_is X a0 (.inl 12)) (h : o_Post (fX12_tray_j26 (o_rf X) a0 μ0) q) : o_Ev X (d + 1) mX12_tray 26 [some (.ref (o_ad X a0)), none, none, none, none] [] μ0 (o_QZ q) := by
  unfold fX12_tray_j26 at h
  refine s_aload_n (i := 0) dX12_tray_26 rfl rfl ?_
  refine s_iconst dX12_tray_27 kI_1 ?_
  refine s_callVz (C := mX12_is) (As := [.int 1]) (rest := []) (L0 := [some (.ref (o_ad X a0)), some (.int 1)]) hX h0 clX12_94 dX12_tray_28 rfl rfl (Nat.le_of_ble_eq_true rfl) (Nat.le_of_ble_eq_true rfl) (dnX12_is hX h0 (o_bdp h)) (fun r1 μ1 zr1 h => ?_)
  exact s_zreturn rfl zr1 dX12_tray_31 ⟨_, rfl, zr1, o_ret h⟩
set_option maxRecDepth 20000 in
theorem dnX12_tray_s49 {X : o_Cx} (hX : o_ok X) {d : Nat} {a0 : Nat} {x1 : Int32} {x3 : Int32} {τ49 : Int32} {μ0 : o_Mem} {K : (Nat × (Int32)) → o_Mem → Prop} {Q : Option Value → o_Mem → Prop} (h0 : o_is X a0 (.inl 12)) (h : o_Post (fX12_tray_s49 (o_rf X) a0 x1 x3 τ49 μ0) K) (kh : ∀ (τ49 : Int32) (μ : o_Mem), K (49, τ49) μ → o_Ev X (d + 1) mX12_tray 49 [some (.ref (o_ad X a0)), some (.int x1), none, some (.int x3), some (.int τ49)] [] μ Q) (k74 : ∀ (τ49 : Int32) (μ : o_Mem), K (74, τ49) μ → o_Ev X (d + 1) mX12_tray 74 [some (.ref (o_ad X a0)), none, none, none, none] [] μ Q) : o_Ev X (d + 1) mX12_tray 49 [some (.ref (o_ad X a0)), some (.int x1), none, some (.int x3), some (.int τ49)] [] μ0 Q := by
  unfold fX12_tray_s49 at h
  refine s_iload dX12_tray_49 rfl ?_
  refine s_iload_n (i := 3) dX12_tray_51 rfl rfl ?_
  refine s_icmp_ge (tgt := 74) dX12_tray_52 rfl (fun c1 => ?_) (fun c1 => ?_)
  · have h := o_if_t c1 h
    refine s_mask [true, false, false, false, false] (L' := [some (.ref (o_ad X a0)), none, none, none, none]) rfl ?_
    exact k74 0 _ (o_ret h)
  · have h := o_if_f c1 h
    refine s_aload_n (i := 0) dX12_tray_55 rfl rfl ?_
    refine s_getR hX h0 flX12_27 rfl dX12_tray_56 (fun (g1 : o_is X (o_rf X a0 7) (.inr (2, 240))) => ?_)
    refine s_bipush dX12_tray_59 kB_60 ?_
    refine s_iload_n (i := 1) dX12_tray_61 rfl rfl ?_
    refine s_imul dX12_tray_62 ?_
    refine s_iload dX12_tray_63 rfl ?_
    refine s_iadd dX12_tray_65 ?_
    refine s_lconst (v := 0) dX12_tray_66 rfl ?_
    have hc := o_ck_c h
    have h := o_ck_k h
    refine s_lastK hX g1 hc rfl dX12_tray_67 (o_gen h (fun μ1 h => ?_))
    refine s_iinc (v := (τ49 + 1)) dX12_tray_68 rfl rfl (Nat.le_of_ble_eq_true rfl) rfl ?_
    refine s_goto (tgt := 49) dX12_tray_71 rfl ?_
    refine s_mask [true, true, false, true, true] (L' := [some (.ref (o_ad X a0)), some (.int x1), none, some (.int x3), some (.int (τ49 + 1))]) rfl ?_
    exact kh (τ49 + 1) _ (o_ret h)
set_option maxRecDepth 20000 in
theorem dnX12_tray {X : o_Cx} (hX : o_ok X) {d : Nat} {a0 : Nat} {x1 : Int32} {x2 : Int32} {x3 : Int32} {μ0 : o_Mem} {q : Int32 → o_Mem → Prop} (h0 : o_is X a0 (.inl 12)) (h : o_Post (fX12_tray (o_rf X) a0 x1 x2 x3 μ0) q) : o_Ev X (d + 1) mX12_tray 0 [some (.ref (o_ad X a0)), some (.int x1), some (.int x2), some (.int x3), none] [] μ0 (o_QZ q) := by
  unfold fX12_tray at h
  refine s_iload_n (i := 1) dX12_tray_0 rfl rfl ?_
  refine s_callSz (C := mX12_isTray) (As := [.int x1]) (rest := []) (L0 := [some (.int x1)]) clX12_98 dX12_tray_1 rfl rfl (Nat.le_of_ble_eq_true rfl) (Nat.le_of_ble_eq_true rfl) (dnX12_isTray hX  (o_bdp h)) (fun r1 μ1 zr1 h => ?_)
  refine s_if_eq (tgt := 26) dX12_tray_4 rfl (fun c1 => ?_) (fun c1 => ?_)
  · have h := o_if_t c1 h
    refine s_mask [true, false, false, false, false] (L' := [some (.ref (o_ad X a0)), none, none, none, none]) rfl ?_
    exact dnX12_tray_j26 hX h0 h
  · have h := o_if_f c1 h
    refine s_iload_n (i := 2) dX12_tray_7 rfl rfl ?_
    refine s_if_lt (tgt := 26) dX12_tray_8 rfl (fun c1 => ?_) (fun c1 => ?_)
    · have h := o_if_t c1 h
      refine s_mask [true, false, false, false, false] (L' := [some (.ref (o_ad X a0)), none, none, none, none]) rfl ?_
      exact dnX12_tray_j26 hX h0 h
    · have h := o_if_f c1 h
      refine s_iload_n (i := 2) dX12_tray_11 rfl rfl ?_
      refine s_iconst dX12_tray_12 kI_3 ?_
      refine s_icmp_gt (tgt := 26) dX12_tray_13 rfl (fun c1 => ?_) (fun c1 => ?_)
      · have h := o_if_t c1 h
        refine s_mask [true, false, false, false, false] (L' := [some (.ref (o_ad X a0)), none, none, none, none]) rfl ?_
        exact dnX12_tray_j26 hX h0 h
      · have h := o_if_f c1 h
        refine s_iload_n (i := 3) dX12_tray_16 rfl rfl ?_
        refine s_if_lt (tgt := 26) dX12_tray_17 rfl (fun c1 => ?_) (fun c1 => ?_)
        · have h := o_if_t c1 h
          refine s_mask [true, false, false, false, false] (L' := [some (.ref (o_ad X a0)), none, none, none, none]) rfl ?_
          exact dnX12_tray_j26 hX h0 h
        · have h := o_if_f c1 h
          refine s_iload_n (i := 3) dX12_tray_20 rfl rfl ?_
          refine s_bipush dX12_tray_21 kB_60 ?_
          refine s_icmp_le (tgt := 32) dX12_tray_23 rfl (fun c1 => ?_) (fun c1 => ?_)
          · have h := o_if_t c1 h
            refine s_aload_n (i := 0) dX12_tray_32 rfl rfl ?_
            refine s_getR hX h0 flX12_21 rfl dX12_tray_33 (fun (g1 : o_is X (o_rf X a0 5) (.inr (0, 4))) => ?_)
            refine s_iload_n (i := 1) dX12_tray_36 rfl rfl ?_
            refine s_iload_n (i := 2) dX12_tray_37 rfl rfl ?_
            have hc := o_ck_c h
            have h := o_ck_k h
            refine s_iastK hX g1 hc rfl dX12_tray_38 (o_gen h (fun μ2 h => ?_))
            refine s_aload_n (i := 0) dX12_tray_39 rfl rfl ?_
            refine s_getR hX h0 flX12_24 rfl dX12_tray_40 (fun (g2 : o_is X (o_rf X a0 6) (.inr (0, 4))) => ?_)
            refine s_iload_n (i := 1) dX12_tray_43 rfl rfl ?_
            refine s_iload_n (i := 3) dX12_tray_44 rfl rfl ?_
            have hc := o_ck_c h
            have h := o_ck_k h
            refine s_iastK hX g2 hc rfl dX12_tray_45 (o_gen h (fun μ3 h => ?_))
            refine s_iconst dX12_tray_46 kI_0 ?_
            refine s_istore dX12_tray_47 (Nat.le_of_ble_eq_true rfl) rfl ?_
            refine s_mask [true, true, false, true, true] (L' := [some (.ref (o_ad X a0)), some (.int x1), none, some (.int x3), some (.int 0)]) rfl ?_
            refine o_lp_ev (fun τ49 => [some (.ref (o_ad X a0)), some (.int x1), none, some (.int x3), some (.int τ49)]) (fun τ49 μ _K h kv ke49 => dnX12_tray_s49 hX h0 h kv (fun τ49 μ4 h => ?_)) o_fuel 0 μ3 (o_bdp h)
            · have h := o_if_t rfl (ke49 (74, τ49) μ4 (o_ne rfl) h)
              refine s_aload_n (i := 0) dX12_tray_74 rfl rfl ?_
              refine s_iconst dX12_tray_75 kI_0 ?_
              refine s_callVz (C := mX12_is) (As := [.int 0]) (rest := []) (L0 := [some (.ref (o_ad X a0)), some (.int 0)]) hX h0 clX12_94 dX12_tray_76 rfl rfl (Nat.le_of_ble_eq_true rfl) (Nat.le_of_ble_eq_true rfl) (dnX12_is hX h0 (o_bdp h)) (fun r2 μ5 zr2 h => ?_)
              exact s_zreturn rfl zr2 dX12_tray_79 ⟨_, rfl, zr2, o_ret h⟩
          · have h := o_if_f c1 h
            refine s_mask [true, false, false, false, false] (L' := [some (.ref (o_ad X a0)), none, none, none, none]) rfl ?_
            exact dnX12_tray_j26 hX h0 h
theorem dX12_wrongPlace_0 : decode cX12_wrongPlace 0 = .ok (.iload_n 1, 1) := by decide +kernel
theorem dX12_wrongPlace_1 : decode cX12_wrongPlace 1 = .ok (.invokestatic 98, 3) := by decide +kernel
theorem dX12_wrongPlace_4 : decode cX12_wrongPlace 4 = .ok (.ifCond .ne 7, 3) := by decide +kernel
theorem dX12_wrongPlace_7 : decode cX12_wrongPlace 7 = .ok (.iconst 1, 1) := by decide +kernel
theorem dX12_wrongPlace_8 : decode cX12_wrongPlace 8 = .ok (.goto 36, 3) := by decide +kernel
theorem dX12_wrongPlace_11 : decode cX12_wrongPlace 11 = .ok (.aload_n 0, 1) := by decide +kernel
theorem dX12_wrongPlace_12 : decode cX12_wrongPlace 12 = .ok (.getfield 24, 3) := by decide +kernel
theorem dX12_wrongPlace_15 : decode cX12_wrongPlace 15 = .ok (.iload_n 1, 1) := by decide +kernel
theorem dX12_wrongPlace_16 : decode cX12_wrongPlace 16 = .ok (.iaload, 1) := by decide +kernel
theorem dX12_wrongPlace_17 : decode cX12_wrongPlace 17 = .ok (.iconst (-1), 1) := by decide +kernel
theorem dX12_wrongPlace_18 : decode cX12_wrongPlace 18 = .ok (.if_icmp .ne 7, 3) := by decide +kernel
theorem dX12_wrongPlace_21 : decode cX12_wrongPlace 21 = .ok (.iconst 2, 1) := by decide +kernel
theorem dX12_wrongPlace_22 : decode cX12_wrongPlace 22 = .ok (.goto 22, 3) := by decide +kernel
theorem dX12_wrongPlace_25 : decode cX12_wrongPlace 25 = .ok (.iload_n 2, 1) := by decide +kernel
theorem dX12_wrongPlace_26 : decode cX12_wrongPlace 26 = .ok (.ifCond .lt 13, 3) := by decide +kernel
theorem dX12_wrongPlace_29 : decode cX12_wrongPlace 29 = .ok (.iload_n 2, 1) := by decide +kernel
theorem dX12_wrongPlace_30 : decode cX12_wrongPlace 30 = .ok (.aload_n 0, 1) := by decide +kernel
theorem dX12_wrongPlace_31 : decode cX12_wrongPlace 31 = .ok (.getfield 24, 3) := by decide +kernel
theorem dX12_wrongPlace_34 : decode cX12_wrongPlace 34 = .ok (.iload_n 1, 1) := by decide +kernel
theorem dX12_wrongPlace_35 : decode cX12_wrongPlace 35 = .ok (.iaload, 1) := by decide +kernel
theorem dX12_wrongPlace_36 : decode cX12_wrongPlace 36 = .ok (.if_icmp .lt 7, 3) := by decide +kernel
theorem dX12_wrongPlace_39 : decode cX12_wrongPlace 39 = .ok (.iconst 3, 1) := by decide +kernel
theorem dX12_wrongPlace_40 : decode cX12_wrongPlace 40 = .ok (.goto 4, 3) := by decide +kernel
theorem dX12_wrongPlace_43 : decode cX12_wrongPlace 43 = .ok (.iconst 0, 1) := by decide +kernel
theorem dX12_wrongPlace_44 : decode cX12_wrongPlace 44 = .ok (.ireturn, 1) := by decide +kernel
noncomputable def fX12_wrongPlace (rf : Nat → Nat → Nat) (a0 : Nat) (x1 : Int32) (x2 : Int32) (μ0 : o_Mem) : Option (Int32 × o_Mem) :=
  o_bd (fX12_isTray rf x1 μ0) fun r1 μ1 =>
  if r1 = 0 then (
    some (1, μ1))
  else (
    o_ck (0 ≤ (x1).toInt ∧ (x1).toInt < 4) <|
    if (μ1.1 (rf a0 6) x1.toNatClampNeg) = (-1) then (
      some (2, μ1))
    else (
      if x2 < 0 then (
        some (3, μ1))
      else (
        o_ck (0 ≤ (x1).toInt ∧ (x1).toInt < 4) <|
        if x2 < (μ1.1 (rf a0 6) x1.toNatClampNeg) then (
          some (0, μ1))
        else (
          some (3, μ1)))))
set_option maxRecDepth 20000 in
theorem dnX12_wrongPlace {X : o_Cx} (hX : o_ok X) {d : Nat} {a0 : Nat} {x1 : Int32} {x2 : Int32} {μ0 : o_Mem} {q : Int32 → o_Mem → Prop} (h0 : o_is X a0 (.inl 12)) (h : o_Post (fX12_wrongPlace (o_rf X) a0 x1 x2 μ0) q) : o_Ev X (d + 1) mX12_wrongPlace 0 [some (.ref (o_ad X a0)), some (.int x1), some (.int x2)] [] μ0 (o_QI q) := by
  unfold fX12_wrongPlace at h
  refine s_iload_n (i := 1) dX12_wrongPlace_0 rfl rfl ?_
  refine s_callSz (C := mX12_isTray) (As := [.int x1]) (rest := []) (L0 := [some (.int x1)]) clX12_98 dX12_wrongPlace_1 rfl rfl (Nat.le_of_ble_eq_true rfl) (Nat.le_of_ble_eq_true rfl) (dnX12_isTray hX  (o_bdp h)) (fun r1 μ1 zr1 h => ?_)
  refine s_if_ne (tgt := 11) dX12_wrongPlace_4 rfl (fun c1 => ?_) (fun c1 => ?_)
  · have h := o_if_f c1 h
    refine s_aload_n (i := 0) dX12_wrongPlace_11 rfl rfl ?_
    refine s_getR hX h0 flX12_24 rfl dX12_wrongPlace_12 (fun (g1 : o_is X (o_rf X a0 6) (.inr (0, 4))) => ?_)
    refine s_iload_n (i := 1) dX12_wrongPlace_15 rfl rfl ?_
    have hc := o_ck_c h
    have h := o_ck_k h
    refine s_ialdK g1 hc rfl dX12_wrongPlace_16 ?_
    refine s_iconst dX12_wrongPlace_17 kI_m1 ?_
    refine s_icmp_ne (tgt := 25) dX12_wrongPlace_18 rfl (fun c1 => ?_) (fun c1 => ?_)
    · have h := o_if_f c1 h
      refine s_iload_n (i := 2) dX12_wrongPlace_25 rfl rfl ?_
      refine s_if_lt (tgt := 39) dX12_wrongPlace_26 rfl (fun c1 => ?_) (fun c1 => ?_)
      · have h := o_if_t c1 h
        refine s_iconst dX12_wrongPlace_39 kI_3 ?_
        refine s_goto (tgt := 44) dX12_wrongPlace_40 rfl ?_
        exact s_ireturn rfl dX12_wrongPlace_44 ⟨_, rfl, o_ret h⟩
      · have h := o_if_f c1 h
        refine s_iload_n (i := 2) dX12_wrongPlace_29 rfl rfl ?_
        refine s_aload_n (i := 0) dX12_wrongPlace_30 rfl rfl ?_
        refine s_getR hX h0 flX12_24 rfl dX12_wrongPlace_31 (fun (g2 : o_is X (o_rf X a0 6) (.inr (0, 4))) => ?_)
        refine s_iload_n (i := 1) dX12_wrongPlace_34 rfl rfl ?_
        have hc := o_ck_c h
        have h := o_ck_k h
        refine s_ialdK g2 hc rfl dX12_wrongPlace_35 ?_
        refine s_icmp_lt (tgt := 43) dX12_wrongPlace_36 rfl (fun c1 => ?_) (fun c1 => ?_)
        · have h := o_if_t c1 h
          refine s_iconst dX12_wrongPlace_43 kI_0 ?_
          exact s_ireturn rfl dX12_wrongPlace_44 ⟨_, rfl, o_ret h⟩
        · have h := o_if_f c1 h
          refine s_iconst dX12_wrongPlace_39 kI_3 ?_
          refine s_goto (tgt := 44) dX12_wrongPlace_40 rfl ?_
          exact s_ireturn rfl dX12_wrongPlace_44 ⟨_, rfl, o_ret h⟩
    · have h := o_if_t c1 h
      refine s_iconst dX12_wrongPlace_21 kI_2 ?_
      refine s_goto (tgt := 44) dX12_wrongPlace_22 rfl ?_
      exact s_ireturn rfl dX12_wrongPlace_44 ⟨_, rfl, o_ret h⟩
  · have h := o_if_t c1 h
    refine s_iconst dX12_wrongPlace_7 kI_1 ?_
    refine s_goto (tgt := 44) dX12_wrongPlace_8 rfl ?_
    exact s_ireturn rfl dX12_wrongPlace_44 ⟨_, rfl, o_ret h⟩
theorem dX12_write_0 : decode cX12_write 0 = .ok (.aload_n 0, 1) := by decide +kernel
theorem dX12_write_1 : decode cX12_write 1 = .ok (.iload_n 1, 1) := by decide +kernel
theorem dX12_write_2 : decode cX12_write 2 = .ok (.iload_n 2, 1) := by decide +kernel
theorem dX12_write_3 : decode cX12_write 3 = .ok (.invokevirtual 101, 3) := by decide +kernel
theorem dX12_write_6 : decode cX12_write 6 = .ok (.istore 5, 2) := by decide +kernel
theorem dX12_write_8 : decode cX12_write 8 = .ok (.iload 5, 2) := by decide +kernel
theorem dX12_write_10 : decode cX12_write 10 = .ok (.ifCond .ne 24, 3) := by decide +kernel
theorem dX12_write_13 : decode cX12_write 13 = .ok (.aload_n 0, 1) := by decide +kernel
theorem dX12_write_14 : decode cX12_write 14 = .ok (.getfield 27, 3) := by decide +kernel
theorem dX12_write_17 : decode cX12_write 17 = .ok (.bipush 60, 2) := by decide +kernel
theorem dX12_write_19 : decode cX12_write 19 = .ok (.iload_n 1, 1) := by decide +kernel
theorem dX12_write_20 : decode cX12_write 20 = .ok (.imul, 1) := by decide +kernel
theorem dX12_write_21 : decode cX12_write 21 = .ok (.iload_n 2, 1) := by decide +kernel
theorem dX12_write_22 : decode cX12_write 22 = .ok (.iadd, 1) := by decide +kernel
theorem dX12_write_23 : decode cX12_write 23 = .ok (.lload_n 3, 1) := by decide +kernel
theorem dX12_write_24 : decode cX12_write 24 = .ok (.aload_n 0, 1) := by decide +kernel
theorem dX12_write_25 : decode cX12_write 25 = .ok (.getfield 21, 3) := by decide +kernel
theorem dX12_write_28 : decode cX12_write 28 = .ok (.iload_n 1, 1) := by decide +kernel
theorem dX12_write_29 : decode cX12_write 29 = .ok (.iaload, 1) := by decide +kernel
theorem dX12_write_30 : decode cX12_write 30 = .ok (.invokestatic 105, 3) := by decide +kernel
theorem dX12_write_33 : decode cX12_write 33 = .ok (.lastore, 1) := by decide +kernel
theorem dX12_write_34 : decode cX12_write 34 = .ok (.aload_n 0, 1) := by decide +kernel
theorem dX12_write_35 : decode cX12_write 35 = .ok (.iload 5, 2) := by decide +kernel
theorem dX12_write_37 : decode cX12_write 37 = .ok (.invokevirtual 94, 3) := by decide +kernel
theorem dX12_write_40 : decode cX12_write 40 = .ok (.ireturn, 1) := by decide +kernel
noncomputable def fX12_write_j34 (rf : Nat → Nat → Nat) (a0 : Nat) (x5 : Int32) (μ0 : o_Mem) : Option (Int32 × o_Mem) :=
  o_bd (fX12_is rf a0 x5 μ0) fun r1 μ1 =>
  some (r1, μ1)
noncomputable def fX12_write (rf : Nat → Nat → Nat) (a0 : Nat) (x1 : Int32) (x2 : Int32) (x3 : Int64) (μ0 : o_Mem) : Option (Int32 × o_Mem) :=
  o_bd (fX12_wrongPlace rf a0 x1 x2 μ0) fun r1 μ1 =>
  if r1 = 0 then (
    o_ck (0 ≤ (x1).toInt ∧ (x1).toInt < 4) <|
    o_bd (fX12_cut rf x3 (μ1.1 (rf a0 5) x1.toNatClampNeg) μ1) fun r2 μ2 =>
    o_ck (0 ≤ (((60 * x1) + x2)).toInt ∧ (((60 * x1) + x2)).toInt < 240) <|
    o_seq (o_wL μ2 (rf a0 7) ((((60 * x1) + x2)).toNatClampNeg) r2) fun μ3 =>
    fX12_write_j34 rf a0 r1 μ3)
  else (
    fX12_write_j34 rf a0 r1 μ1)
set_option maxRecDepth 20000 in
theorem dnX12_write_j34 {X : o_Cx} (hX : o_ok X) {d : Nat} {a0 : Nat} {x5 : Int32} {μ0 : o_Mem} {q : Int32 → o_Mem → Prop} (h0 : o_is X a0 (.inl 12)) (h : o_Post (fX12_write_j34 (o_rf X) a0 x5 μ0) q) : o_Ev X (d + 2) mX12_write 34 [some (.ref (o_ad X a0)), none, none, none, none, some (.int x5)] [] μ0 (o_QZ q) := by
  unfold fX12_write_j34 at h
  refine s_aload_n (i := 0) dX12_write_34 rfl rfl ?_
  refine s_iload dX12_write_35 rfl ?_
  refine s_callVz (C := mX12_is) (As := [.int x5]) (rest := []) (L0 := [some (.ref (o_ad X a0)), some (.int x5)]) hX h0 clX12_94 dX12_write_37 rfl rfl (Nat.le_of_ble_eq_true rfl) (Nat.le_of_ble_eq_true rfl) (dnX12_is hX h0 (o_bdp h)) (fun r1 μ1 zr1 h => ?_)
  exact s_zreturn rfl zr1 dX12_write_40 ⟨_, rfl, zr1, o_ret h⟩
set_option maxRecDepth 20000 in
theorem dnX12_write {X : o_Cx} (hX : o_ok X) {d : Nat} {a0 : Nat} {x1 : Int32} {x2 : Int32} {x3 : Int64} {μ0 : o_Mem} {q : Int32 → o_Mem → Prop} (h0 : o_is X a0 (.inl 12)) (h : o_Post (fX12_write (o_rf X) a0 x1 x2 x3 μ0) q) : o_Ev X (d + 2) mX12_write 0 [some (.ref (o_ad X a0)), some (.int x1), some (.int x2), some (.long x3), none, none] [] μ0 (o_QZ q) := by
  unfold fX12_write at h
  refine s_aload_n (i := 0) dX12_write_0 rfl rfl ?_
  refine s_iload_n (i := 1) dX12_write_1 rfl rfl ?_
  refine s_iload_n (i := 2) dX12_write_2 rfl rfl ?_
  refine s_callVi (C := mX12_wrongPlace) (As := [.int x1, .int x2]) (rest := []) (L0 := [some (.ref (o_ad X a0)), some (.int x1), some (.int x2)]) hX h0 clX12_101 dX12_write_3 rfl rfl (Nat.le_of_ble_eq_true rfl) (Nat.le_of_ble_eq_true rfl) (dnX12_wrongPlace hX h0 (o_bdp h)) (fun r1 μ1 h => ?_)
  refine s_istore dX12_write_6 (Nat.le_of_ble_eq_true rfl) rfl ?_
  refine s_iload dX12_write_8 rfl ?_
  refine s_if_ne (tgt := 34) dX12_write_10 rfl (fun c1 => ?_) (fun c1 => ?_)
  · have h := o_if_f c1 h
    refine s_mask [true, false, false, false, false, true] (L' := [some (.ref (o_ad X a0)), none, none, none, none, some (.int r1)]) rfl ?_
    exact dnX12_write_j34 hX h0 h
  · have h := o_if_t c1 h
    refine s_aload_n (i := 0) dX12_write_13 rfl rfl ?_
    refine s_getR hX h0 flX12_27 rfl dX12_write_14 (fun (g1 : o_is X (o_rf X a0 7) (.inr (2, 240))) => ?_)
    refine s_bipush dX12_write_17 kB_60 ?_
    refine s_iload_n (i := 1) dX12_write_19 rfl rfl ?_
    refine s_imul dX12_write_20 ?_
    refine s_iload_n (i := 2) dX12_write_21 rfl rfl ?_
    refine s_iadd dX12_write_22 ?_
    refine s_lload_n (i := 3) dX12_write_23 rfl rfl ?_
    refine s_aload_n (i := 0) dX12_write_24 rfl rfl ?_
    refine s_getR hX h0 flX12_21 rfl dX12_write_25 (fun (g2 : o_is X (o_rf X a0 5) (.inr (0, 4))) => ?_)
    refine s_iload_n (i := 1) dX12_write_28 rfl rfl ?_
    have hc := o_ck_c h
    have h := o_ck_k h
    refine s_ialdK g2 hc rfl dX12_write_29 ?_
    refine s_callSl (C := mX12_cut) (As := [.long x3, .int (μ1.1 (o_rf X a0 5) x1.toNatClampNeg)]) (rest := [.int ((60 * x1) + x2), .ref (o_ad X (o_rf X a0 7))]) (L0 := [some (.long x3), none, some (.int (μ1.1 (o_rf X a0 5) x1.toNatClampNeg))]) clX12_105 dX12_write_30 rfl rfl (Nat.le_of_ble_eq_true rfl) (Nat.le_of_ble_eq_true rfl) (dnX12_cut hX  (o_bdp h)) (fun r2 μ2 h => ?_)
    have hc := o_ck_c h
    have h := o_ck_k h
    refine s_lastK hX g1 hc rfl dX12_write_33 (o_gen h (fun μ3 h => ?_))
    refine s_mask [true, false, false, false, false, true] (L' := [some (.ref (o_ad X a0)), none, none, none, none, some (.int r1)]) rfl ?_
    exact dnX12_write_j34 hX h0 h
theorem dX12_read_0 : decode cX12_read 0 = .ok (.aload_n 0, 1) := by decide +kernel
theorem dX12_read_1 : decode cX12_read 1 = .ok (.aload_n 0, 1) := by decide +kernel
theorem dX12_read_2 : decode cX12_read 2 = .ok (.iload_n 1, 1) := by decide +kernel
theorem dX12_read_3 : decode cX12_read 3 = .ok (.iload_n 2, 1) := by decide +kernel
theorem dX12_read_4 : decode cX12_read 4 = .ok (.invokevirtual 101, 3) := by decide +kernel
theorem dX12_read_7 : decode cX12_read 7 = .ok (.putfield 81, 3) := by decide +kernel
theorem dX12_read_10 : decode cX12_read 10 = .ok (.aload_n 0, 1) := by decide +kernel
theorem dX12_read_11 : decode cX12_read 11 = .ok (.getfield 81, 3) := by decide +kernel
theorem dX12_read_14 : decode cX12_read 14 = .ok (.ifCond .le 9, 3) := by decide +kernel
theorem dX12_read_17 : decode cX12_read 17 = .ok (.ldc2_w 109, 3) := by decide +kernel
theorem dX12_read_20 : decode cX12_read 20 = .ok (.goto 14, 3) := by decide +kernel
theorem dX12_read_23 : decode cX12_read 23 = .ok (.aload_n 0, 1) := by decide +kernel
theorem dX12_read_24 : decode cX12_read 24 = .ok (.getfield 27, 3) := by decide +kernel
theorem dX12_read_27 : decode cX12_read 27 = .ok (.bipush 60, 2) := by decide +kernel
theorem dX12_read_29 : decode cX12_read 29 = .ok (.iload_n 1, 1) := by decide +kernel
theorem dX12_read_30 : decode cX12_read 30 = .ok (.imul, 1) := by decide +kernel
theorem dX12_read_31 : decode cX12_read 31 = .ok (.iload_n 2, 1) := by decide +kernel
theorem dX12_read_32 : decode cX12_read 32 = .ok (.iadd, 1) := by decide +kernel
theorem dX12_read_33 : decode cX12_read 33 = .ok (.laload, 1) := by decide +kernel
theorem dX12_read_34 : decode cX12_read 34 = .ok (.lreturn, 1) := by decide +kernel
noncomputable def fX12_read (rf : Nat → Nat → Nat) (a0 : Nat) (x1 : Int32) (x2 : Int32) (μ0 : o_Mem) : Option (Int64 × o_Mem) :=
  o_bd (fX12_wrongPlace rf a0 x1 x2 μ0) fun r1 μ1 =>
  o_seq (o_wI μ1 a0 2 r1) fun μ2 =>
  if (μ2.1 a0 2) ≤ 0 then (
    o_ck (0 ≤ (((60 * x1) + x2)).toInt ∧ (((60 * x1) + x2)).toInt < 240) <|
    some ((μ2.2 (rf a0 7) (((60 * x1) + x2)).toNatClampNeg), μ2))
  else (
    some (((-1) : Int64), μ2))
set_option maxRecDepth 20000 in
theorem dnX12_read {X : o_Cx} (hX : o_ok X) {d : Nat} {a0 : Nat} {x1 : Int32} {x2 : Int32} {μ0 : o_Mem} {q : Int64 → o_Mem → Prop} (h0 : o_is X a0 (.inl 12)) (h : o_Post (fX12_read (o_rf X) a0 x1 x2 μ0) q) : o_Ev X (d + 2) mX12_read 0 [some (.ref (o_ad X a0)), some (.int x1), some (.int x2)] [] μ0 (o_QL q) := by
  unfold fX12_read at h
  refine s_aload_n (i := 0) dX12_read_0 rfl rfl ?_
  refine s_aload_n (i := 0) dX12_read_1 rfl rfl ?_
  refine s_iload_n (i := 1) dX12_read_2 rfl rfl ?_
  refine s_iload_n (i := 2) dX12_read_3 rfl rfl ?_
  refine s_callVi (C := mX12_wrongPlace) (As := [.int x1, .int x2]) (rest := [.ref (o_ad X a0)]) (L0 := [some (.ref (o_ad X a0)), some (.int x1), some (.int x2)]) hX h0 clX12_101 dX12_read_4 rfl rfl (Nat.le_of_ble_eq_true rfl) (Nat.le_of_ble_eq_true rfl) (dnX12_wrongPlace hX h0 (o_bdp h)) (fun r1 μ1 h => ?_)
  refine s_putI hX h0 fwX12_81 rfl dX12_read_7 (o_gen h (fun μ2 h => ?_))
  refine s_aload_n (i := 0) dX12_read_10 rfl rfl ?_
  refine s_getI h0 flX12_81 rfl dX12_read_11 ?_
  refine s_if_le (tgt := 23) dX12_read_14 rfl (fun c1 => ?_) (fun c1 => ?_)
  · have h := o_if_t c1 h
    refine s_aload_n (i := 0) dX12_read_23 rfl rfl ?_
    refine s_getR hX h0 flX12_27 rfl dX12_read_24 (fun (g1 : o_is X (o_rf X a0 7) (.inr (2, 240))) => ?_)
    refine s_bipush dX12_read_27 kB_60 ?_
    refine s_iload_n (i := 1) dX12_read_29 rfl rfl ?_
    refine s_imul dX12_read_30 ?_
    refine s_iload_n (i := 2) dX12_read_31 rfl rfl ?_
    refine s_iadd dX12_read_32 ?_
    have hc := o_ck_c h
    have h := o_ck_k h
    refine s_laldK g1 hc rfl dX12_read_33 ?_
    exact s_lreturn rfl dX12_read_34 ⟨_, rfl, o_ret h⟩
  · have h := o_if_f c1 h
    refine s_ldc2 (v := (-1)) w_7_32 dX12_read_17 ?_
    refine s_goto (tgt := 34) dX12_read_20 rfl ?_
    exact s_lreturn rfl dX12_read_34 ⟨_, rfl, o_ret h⟩
theorem dX12_pour_0 : decode cX12_pour 0 = .ok (.iload_n 1, 1) := by decide +kernel
theorem dX12_pour_1 : decode cX12_pour 1 = .ok (.invokestatic 98, 3) := by decide +kernel
theorem dX12_pour_4 : decode cX12_pour 4 = .ok (.ifCond .eq 24, 3) := by decide +kernel
theorem dX12_pour_7 : decode cX12_pour 7 = .ok (.iload_n 3, 1) := by decide +kernel
theorem dX12_pour_8 : decode cX12_pour 8 = .ok (.invokestatic 98, 3) := by decide +kernel
theorem dX12_pour_11 : decode cX12_pour 11 = .ok (.ifCond .eq 17, 3) := by decide +kernel
theorem dX12_pour_14 : decode cX12_pour 14 = .ok (.iload_n 2, 1) := by decide +kernel
theorem dX12_pour_15 : decode cX12_pour 15 = .ok (.ifCond .lt 13, 3) := by decide +kernel
theorem dX12_pour_18 : decode cX12_pour 18 = .ok (.iload 4, 2) := by decide +kernel
theorem dX12_pour_20 : decode cX12_pour 20 = .ok (.ifCond .lt 8, 3) := by decide +kernel
theorem dX12_pour_23 : decode cX12_pour 23 = .ok (.iload 5, 2) := by decide +kernel
theorem dX12_pour_25 : decode cX12_pour 25 = .ok (.ifCond .ge 9, 3) := by decide +kernel
theorem dX12_pour_28 : decode cX12_pour 28 = .ok (.aload_n 0, 1) := by decide +kernel
theorem dX12_pour_29 : decode cX12_pour 29 = .ok (.iconst 1, 1) := by decide +kernel
theorem dX12_pour_30 : decode cX12_pour 30 = .ok (.invokevirtual 94, 3) := by decide +kernel
theorem dX12_pour_33 : decode cX12_pour 33 = .ok (.ireturn, 1) := by decide +kernel
theorem dX12_pour_34 : decode cX12_pour 34 = .ok (.aload_n 0, 1) := by decide +kernel
theorem dX12_pour_35 : decode cX12_pour 35 = .ok (.getfield 24, 3) := by decide +kernel
theorem dX12_pour_38 : decode cX12_pour 38 = .ok (.iload_n 1, 1) := by decide +kernel
theorem dX12_pour_39 : decode cX12_pour 39 = .ok (.iaload, 1) := by decide +kernel
theorem dX12_pour_40 : decode cX12_pour 40 = .ok (.iconst (-1), 1) := by decide +kernel
theorem dX12_pour_41 : decode cX12_pour 41 = .ok (.if_icmp .eq 13, 3) := by decide +kernel
theorem dX12_pour_44 : decode cX12_pour 44 = .ok (.aload_n 0, 1) := by decide +kernel
theorem dX12_pour_45 : decode cX12_pour 45 = .ok (.getfield 24, 3) := by decide +kernel
theorem dX12_pour_48 : decode cX12_pour 48 = .ok (.iload_n 3, 1) := by decide +kernel
theorem dX12_pour_49 : decode cX12_pour 49 = .ok (.iaload, 1) := by decide +kernel
theorem dX12_pour_50 : decode cX12_pour 50 = .ok (.iconst (-1), 1) := by decide +kernel
theorem dX12_pour_51 : decode cX12_pour 51 = .ok (.if_icmp .ne 9, 3) := by decide +kernel
theorem dX12_pour_54 : decode cX12_pour 54 = .ok (.aload_n 0, 1) := by decide +kernel
theorem dX12_pour_55 : decode cX12_pour 55 = .ok (.iconst 2, 1) := by decide +kernel
theorem dX12_pour_56 : decode cX12_pour 56 = .ok (.invokevirtual 94, 3) := by decide +kernel
theorem dX12_pour_59 : decode cX12_pour 59 = .ok (.ireturn, 1) := by decide +kernel
theorem dX12_pour_60 : decode cX12_pour 60 = .ok (.aload_n 0, 1) := by decide +kernel
theorem dX12_pour_61 : decode cX12_pour 61 = .ok (.getfield 21, 3) := by decide +kernel
theorem dX12_pour_64 : decode cX12_pour 64 = .ok (.iload_n 1, 1) := by decide +kernel
theorem dX12_pour_65 : decode cX12_pour 65 = .ok (.iaload, 1) := by decide +kernel
theorem dX12_pour_66 : decode cX12_pour 66 = .ok (.aload_n 0, 1) := by decide +kernel
theorem dX12_pour_67 : decode cX12_pour 67 = .ok (.getfield 21, 3) := by decide +kernel
theorem dX12_pour_70 : decode cX12_pour 70 = .ok (.iload_n 3, 1) := by decide +kernel
theorem dX12_pour_71 : decode cX12_pour 71 = .ok (.iaload, 1) := by decide +kernel
theorem dX12_pour_72 : decode cX12_pour 72 = .ok (.if_icmp .eq 10, 3) := by decide +kernel
theorem dX12_pour_75 : decode cX12_pour 75 = .ok (.aload_n 0, 1) := by decide +kernel
theorem dX12_pour_76 : decode cX12_pour 76 = .ok (.bipush 8, 2) := by decide +kernel
theorem dX12_pour_78 : decode cX12_pour 78 = .ok (.invokevirtual 94, 3) := by decide +kernel
theorem dX12_pour_81 : decode cX12_pour 81 = .ok (.ireturn, 1) := by decide +kernel
theorem dX12_pour_82 : decode cX12_pour 82 = .ok (.iload 5, 2) := by decide +kernel
theorem dX12_pour_84 : decode cX12_pour 84 = .ok (.aload_n 0, 1) := by decide +kernel
theorem dX12_pour_85 : decode cX12_pour 85 = .ok (.getfield 24, 3) := by decide +kernel
theorem dX12_pour_88 : decode cX12_pour 88 = .ok (.iload_n 1, 1) := by decide +kernel
theorem dX12_pour_89 : decode cX12_pour 89 = .ok (.iaload, 1) := by decide +kernel
theorem dX12_pour_90 : decode cX12_pour 90 = .ok (.iload_n 2, 1) := by decide +kernel
theorem dX12_pour_91 : decode cX12_pour 91 = .ok (.isub, 1) := by decide +kernel
theorem dX12_pour_92 : decode cX12_pour 92 = .ok (.if_icmp .gt 17, 3) := by decide +kernel
theorem dX12_pour_95 : decode cX12_pour 95 = .ok (.iload 5, 2) := by decide +kernel
theorem dX12_pour_97 : decode cX12_pour 97 = .ok (.aload_n 0, 1) := by decide +kernel
theorem dX12_pour_98 : decode cX12_pour 98 = .ok (.getfield 24, 3) := by decide +kernel
theorem dX12_pour_101 : decode cX12_pour 101 = .ok (.iload_n 3, 1) := by decide +kernel
theorem dX12_pour_102 : decode cX12_pour 102 = .ok (.iaload, 1) := by decide +kernel
theorem dX12_pour_103 : decode cX12_pour 103 = .ok (.iload 4, 2) := by decide +kernel
theorem dX12_pour_105 : decode cX12_pour 105 = .ok (.isub, 1) := by decide +kernel
theorem dX12_pour_106 : decode cX12_pour 106 = .ok (.if_icmp .le 9, 3) := by decide +kernel
theorem dX12_pour_109 : decode cX12_pour 109 = .ok (.aload_n 0, 1) := by decide +kernel
theorem dX12_pour_110 : decode cX12_pour 110 = .ok (.iconst 3, 1) := by decide +kernel
theorem dX12_pour_111 : decode cX12_pour 111 = .ok (.invokevirtual 94, 3) := by decide +kernel
theorem dX12_pour_114 : decode cX12_pour 114 = .ok (.ireturn, 1) := by decide +kernel
theorem dX12_pour_115 : decode cX12_pour 115 = .ok (.iconst 0, 1) := by decide +kernel
theorem dX12_pour_116 : decode cX12_pour 116 = .ok (.istore 6, 2) := by decide +kernel
theorem dX12_pour_118 : decode cX12_pour 118 = .ok (.iload 6, 2) := by decide +kernel
theorem dX12_pour_120 : decode cX12_pour 120 = .ok (.iload 5, 2) := by decide +kernel
theorem dX12_pour_122 : decode cX12_pour 122 = .ok (.if_icmp .ge 58, 3) := by decide +kernel
theorem dX12_pour_125 : decode cX12_pour 125 = .ok (.iload_n 2, 1) := by decide +kernel
theorem dX12_pour_126 : decode cX12_pour 126 = .ok (.iload 4, 2) := by decide +kernel
theorem dX12_pour_128 : decode cX12_pour 128 = .ok (.if_icmp .ge 13, 3) := by decide +kernel
theorem dX12_pour_131 : decode cX12_pour 131 = .ok (.iload 5, 2) := by decide +kernel
theorem dX12_pour_133 : decode cX12_pour 133 = .ok (.iconst 1, 1) := by decide +kernel
theorem dX12_pour_134 : decode cX12_pour 134 = .ok (.isub, 1) := by decide +kernel
theorem dX12_pour_135 : decode cX12_pour 135 = .ok (.iload 6, 2) := by decide +kernel
theorem dX12_pour_137 : decode cX12_pour 137 = .ok (.isub, 1) := by decide +kernel
theorem dX12_pour_138 : decode cX12_pour 138 = .ok (.goto 5, 3) := by decide +kernel
theorem dX12_pour_141 : decode cX12_pour 141 = .ok (.iload 6, 2) := by decide +kernel
theorem dX12_pour_143 : decode cX12_pour 143 = .ok (.istore 7, 2) := by decide +kernel
theorem dX12_pour_145 : decode cX12_pour 145 = .ok (.aload_n 0, 1) := by decide +kernel
theorem dX12_pour_146 : decode cX12_pour 146 = .ok (.getfield 27, 3) := by decide +kernel
theorem dX12_pour_149 : decode cX12_pour 149 = .ok (.bipush 60, 2) := by decide +kernel
theorem dX12_pour_151 : decode cX12_pour 151 = .ok (.iload_n 3, 1) := by decide +kernel
theorem dX12_pour_152 : decode cX12_pour 152 = .ok (.imul, 1) := by decide +kernel
theorem dX12_pour_153 : decode cX12_pour 153 = .ok (.iload 4, 2) := by decide +kernel
theorem dX12_pour_155 : decode cX12_pour 155 = .ok (.iadd, 1) := by decide +kernel
theorem dX12_pour_156 : decode cX12_pour 156 = .ok (.iload 7, 2) := by decide +kernel
theorem dX12_pour_158 : decode cX12_pour 158 = .ok (.iadd, 1) := by decide +kernel
theorem dX12_pour_159 : decode cX12_pour 159 = .ok (.aload_n 0, 1) := by decide +kernel
theorem dX12_pour_160 : decode cX12_pour 160 = .ok (.getfield 27, 3) := by decide +kernel
theorem dX12_pour_163 : decode cX12_pour 163 = .ok (.bipush 60, 2) := by decide +kernel
theorem dX12_pour_165 : decode cX12_pour 165 = .ok (.iload_n 1, 1) := by decide +kernel
theorem dX12_pour_166 : decode cX12_pour 166 = .ok (.imul, 1) := by decide +kernel
theorem dX12_pour_167 : decode cX12_pour 167 = .ok (.iload_n 2, 1) := by decide +kernel
theorem dX12_pour_168 : decode cX12_pour 168 = .ok (.iadd, 1) := by decide +kernel
theorem dX12_pour_169 : decode cX12_pour 169 = .ok (.iload 7, 2) := by decide +kernel
theorem dX12_pour_171 : decode cX12_pour 171 = .ok (.iadd, 1) := by decide +kernel
theorem dX12_pour_172 : decode cX12_pour 172 = .ok (.laload, 1) := by decide +kernel
theorem dX12_pour_173 : decode cX12_pour 173 = .ok (.lastore, 1) := by decide +kernel
theorem dX12_pour_174 : decode cX12_pour 174 = .ok (.iinc 6 1, 3) := by decide +kernel
theorem dX12_pour_177 : decode cX12_pour 177 = .ok (.goto (-59), 3) := by decide +kernel
theorem dX12_pour_180 : decode cX12_pour 180 = .ok (.aload_n 0, 1) := by decide +kernel
theorem dX12_pour_181 : decode cX12_pour 181 = .ok (.iconst 0, 1) := by decide +kernel
theorem dX12_pour_182 : decode cX12_pour 182 = .ok (.invokevirtual 94, 3) := by decide +kernel
theorem dX12_pour_185 : decode cX12_pour 185 = .ok (.ireturn, 1) := by decide +kernel
noncomputable def fX12_pour_j28 (rf : Nat → Nat → Nat) (a0 : Nat) (μ0 : o_Mem) : Option (Int32 × o_Mem) :=
  o_bd (fX12_is rf a0 1 μ0) fun r1 μ1 =>
  some (r1, μ1)
noncomputable def fX12_pour_j54 (rf : Nat → Nat → Nat) (a0 : Nat) (μ0 : o_Mem) : Option (Int32 × o_Mem) :=
  o_bd (fX12_is rf a0 2 μ0) fun r1 μ1 =>
  some (r1, μ1)
noncomputable def fX12_pour_j109 (rf : Nat → Nat → Nat) (a0 : Nat) (μ0 : o_Mem) : Option (Int32 × o_Mem) :=
  o_bd (fX12_is rf a0 3 μ0) fun r1 μ1 =>
  some (r1, μ1)
noncomputable def fX12_pour_j143 (rf : Nat → Nat → Nat) (a0 : Nat) (x1 : Int32) (x2 : Int32) (x3 : Int32) (x4 : Int32) (x5 : Int32) (x6 : Int32) (y0 : Int32) (μ0 : o_Mem) : Option ((Nat × (Int32)) × o_Mem) :=
  o_ck (0 ≤ ((((60 * x1) + x2) + y0)).toInt ∧ ((((60 * x1) + x2) + y0)).toInt < 240) <|
  o_ck (0 ≤ ((((60 * x3) + x4) + y0)).toInt ∧ ((((60 * x3) + x4) + y0)).toInt < 240) <|
  o_seq (o_wL μ0 (rf a0 7) (((((60 * x3) + x4) + y0)).toNatClampNeg) (μ0.2 (rf a0 7) ((((60 * x1) + x2) + y0)).toNatClampNeg)) fun μ1 =>
  some ((118, (x6 + 1)), μ1)
noncomputable def fX12_pour_s118 (rf : Nat → Nat → Nat) (a0 : Nat) (x1 : Int32) (x2 : Int32) (x3 : Int32) (x4 : Int32) (x5 : Int32) (τ118 : Int32) (μ0 : o_Mem) : Option ((Nat × (Int32)) × o_Mem) :=
  if x5 ≤ τ118 then (
    some ((180, 0), μ0))
  else (
    if x4 ≤ x2 then (
      fX12_pour_j143 rf a0 x1 x2 x3 x4 x5 τ118 τ118 μ0)
    else (
      fX12_pour_j143 rf a0 x1 x2 x3 x4 x5 τ118 ((x5 - 1) - τ118) μ0))
noncomputable def fX12_pour (rf : Nat → Nat → Nat) (a0 : Nat) (x1 : Int32) (x2 : Int32) (x3 : Int32) (x4 : Int32) (x5 : Int32) (μ0 : o_Mem) : Option (Int32 × o_Mem) :=
  o_bd (fX12_isTray rf x1 μ0) fun r1 μ1 =>
  if r1 = 0 then (
    fX12_pour_j28 rf a0 μ1)
  else (
    o_bd (fX12_isTray rf x3 μ1) fun r2 μ2 =>
    if r2 = 0 then (
      fX12_pour_j28 rf a0 μ2)
    else (
      if x2 < 0 then (
        fX12_pour_j28 rf a0 μ2)
      else (
        if x4 < 0 then (
          fX12_pour_j28 rf a0 μ2)
        else (
          if 0 ≤ x5 then (
            o_ck (0 ≤ (x1).toInt ∧ (x1).toInt < 4) <|
            if (μ2.1 (rf a0 6) x1.toNatClampNeg) = (-1) then (
              fX12_pour_j54 rf a0 μ2)
            else (
              o_ck (0 ≤ (x3).toInt ∧ (x3).toInt < 4) <|
              if (μ2.1 (rf a0 6) x3.toNatClampNeg) = (-1) then (
                fX12_pour_j54 rf a0 μ2)
              else (
                o_ck (0 ≤ (x1).toInt ∧ (x1).toInt < 4) <|
                o_ck (0 ≤ (x3).toInt ∧ (x3).toInt < 4) <|
                if (μ2.1 (rf a0 5) x1.toNatClampNeg) = (μ2.1 (rf a0 5) x3.toNatClampNeg) then (
                  o_ck (0 ≤ (x1).toInt ∧ (x1).toInt < 4) <|
                  if ((μ2.1 (rf a0 6) x1.toNatClampNeg) - x2) < x5 then (
                    fX12_pour_j109 rf a0 μ2)
                  else (
                    o_ck (0 ≤ (x3).toInt ∧ (x3).toInt < 4) <|
                    if x5 ≤ ((μ2.1 (rf a0 6) x3.toNatClampNeg) - x4) then (
                      o_bd (o_lp 118 (fX12_pour_s118 rf a0 x1 x2 x3 x4 x5) o_fuel (0 : Int32) μ2) fun ex3 μ3 =>
                      if ex3.1 = 180 then (
                        o_bd (fX12_is rf a0 0 μ3) fun r3 μ4 =>
                        some (r3, μ4))
                      else
                        none)
                    else (
                      fX12_pour_j109 rf a0 μ2)))
                else (
                  o_bd (fX12_is rf a0 8 μ2) fun r4 μ5 =>
                  some (r4, μ5)))))
          else (
            fX12_pour_j28 rf a0 μ2)))))
set_option maxRecDepth 20000 in
theorem dnX12_pour_j28 {X : o_Cx} (hX : o_ok X) {d : Nat} {a0 : Nat} {μ0 : o_Mem} {q : Int32 → o_Mem → Prop} (h0 : o_is X a0 (.inl 12)) (h : o_Post (fX12_pour_j28 (o_rf X) a0 μ0) q) : o_Ev X (d + 1) mX12_pour 28 [some (.ref (o_ad X a0)), none, none, none, none, none, none, none] [] μ0 (o_QZ q) := by
  unfold fX12_pour_j28 at h
  refine s_aload_n (i := 0) dX12_pour_28 rfl rfl ?_
  refine s_iconst dX12_pour_29 kI_1 ?_
  refine s_callVz (C := mX12_is) (As := [.int 1]) (rest := []) (L0 := [some (.ref (o_ad X a0)), some (.int 1)]) hX h0 clX12_94 dX12_pour_30 rfl rfl (Nat.le_of_ble_eq_true rfl) (Nat.le_of_ble_eq_true rfl) (dnX12_is hX h0 (o_bdp h)) (fun r1 μ1 zr1 h => ?_)
  exact s_zreturn rfl zr1 dX12_pour_33 ⟨_, rfl, zr1, o_ret h⟩
set_option maxRecDepth 20000 in
theorem dnX12_pour_j54 {X : o_Cx} (hX : o_ok X) {d : Nat} {a0 : Nat} {μ0 : o_Mem} {q : Int32 → o_Mem → Prop} (h0 : o_is X a0 (.inl 12)) (h : o_Post (fX12_pour_j54 (o_rf X) a0 μ0) q) : o_Ev X (d + 1) mX12_pour 54 [some (.ref (o_ad X a0)), none, none, none, none, none, none, none] [] μ0 (o_QZ q) := by
  unfold fX12_pour_j54 at h
  refine s_aload_n (i := 0) dX12_pour_54 rfl rfl ?_
  refine s_iconst dX12_pour_55 kI_2 ?_
  refine s_callVz (C := mX12_is) (As := [.int 2]) (rest := []) (L0 := [some (.ref (o_ad X a0)), some (.int 2)]) hX h0 clX12_94 dX12_pour_56 rfl rfl (Nat.le_of_ble_eq_true rfl) (Nat.le_of_ble_eq_true rfl) (dnX12_is hX h0 (o_bdp h)) (fun r1 μ1 zr1 h => ?_)
  exact s_zreturn rfl zr1 dX12_pour_59 ⟨_, rfl, zr1, o_ret h⟩
set_option maxRecDepth 20000 in
theorem dnX12_pour_j109 {X : o_Cx} (hX : o_ok X) {d : Nat} {a0 : Nat} {μ0 : o_Mem} {q : Int32 → o_Mem → Prop} (h0 : o_is X a0 (.inl 12)) (h : o_Post (fX12_pour_j109 (o_rf X) a0 μ0) q) : o_Ev X (d + 1) mX12_pour 109 [some (.ref (o_ad X a0)), none, none, none, none, none, none, none] [] μ0 (o_QZ q) := by
  unfold fX12_pour_j109 at h
  refine s_aload_n (i := 0) dX12_pour_109 rfl rfl ?_
  refine s_iconst dX12_pour_110 kI_3 ?_
  refine s_callVz (C := mX12_is) (As := [.int 3]) (rest := []) (L0 := [some (.ref (o_ad X a0)), some (.int 3)]) hX h0 clX12_94 dX12_pour_111 rfl rfl (Nat.le_of_ble_eq_true rfl) (Nat.le_of_ble_eq_true rfl) (dnX12_is hX h0 (o_bdp h)) (fun r1 μ1 zr1 h => ?_)
  exact s_zreturn rfl zr1 dX12_pour_114 ⟨_, rfl, zr1, o_ret h⟩
set_option maxRecDepth 20000 in
theorem dnX12_pour_j143 {X : o_Cx} (hX : o_ok X) {d : Nat} {a0 : Nat} {x1 : Int32} {x2 : Int32} {x3 : Int32} {x4 : Int32} {x5 : Int32} {x6 : Int32} {y0 : Int32} {μ0 : o_Mem} {K : (Nat × (Int32)) → o_Mem → Prop} {Q : Option Value → o_Mem → Prop} (h0 : o_is X a0 (.inl 12)) (h : o_Post (fX12_pour_j143 (o_rf X) a0 x1 x2 x3 x4 x5 x6 y0 μ0) K) (kh : ∀ (τ118 : Int32) (μ : o_Mem), K (118, τ118) μ → o_Ev X (d + 1) mX12_pour 118 [some (.ref (o_ad X a0)), some (.int x1), some (.int x2), some (.int x3), some (.int x4), some (.int x5), some (.int τ118), none] [] μ Q) (k180 : ∀ (τ118 : Int32) (μ : o_Mem), K (180, τ118) μ → o_Ev X (d + 1) mX12_pour 180 [some (.ref (o_ad X a0)), none, none, none, none, none, none, none] [] μ Q) : o_Ev X (d + 1) mX12_pour 143 [some (.ref (o_ad X a0)), some (.int x1), some (.int x2), some (.int x3), some (.int x4), some (.int x5), some (.int x6), none] [.int y0] μ0 Q := by
  unfold fX12_pour_j143 at h
  refine s_istore dX12_pour_143 (Nat.le_of_ble_eq_true rfl) rfl ?_
  refine s_aload_n (i := 0) dX12_pour_145 rfl rfl ?_
  refine s_getR hX h0 flX12_27 rfl dX12_pour_146 (fun (g1 : o_is X (o_rf X a0 7) (.inr (2, 240))) => ?_)
  refine s_bipush dX12_pour_149 kB_60 ?_
  refine s_iload_n (i := 3) dX12_pour_151 rfl rfl ?_
  refine s_imul dX12_pour_152 ?_
  refine s_iload dX12_pour_153 rfl ?_
  refine s_iadd dX12_pour_155 ?_
  refine s_iload dX12_pour_156 rfl ?_
  refine s_iadd dX12_pour_158 ?_
  refine s_aload_n (i := 0) dX12_pour_159 rfl rfl ?_
  refine s_getR hX h0 flX12_27 rfl dX12_pour_160 (fun (g2 : o_is X (o_rf X a0 7) (.inr (2, 240))) => ?_)
  refine s_bipush dX12_pour_163 kB_60 ?_
  refine s_iload_n (i := 1) dX12_pour_165 rfl rfl ?_
  refine s_imul dX12_pour_166 ?_
  refine s_iload_n (i := 2) dX12_pour_167 rfl rfl ?_
  refine s_iadd dX12_pour_168 ?_
  refine s_iload dX12_pour_169 rfl ?_
  refine s_iadd dX12_pour_171 ?_
  have hc := o_ck_c h
  have h := o_ck_k h
  refine s_laldK g2 hc rfl dX12_pour_172 ?_
  have hc := o_ck_c h
  have h := o_ck_k h
  refine s_lastK hX g1 hc rfl dX12_pour_173 (o_gen h (fun μ1 h => ?_))
  refine s_iinc (v := (x6 + 1)) dX12_pour_174 rfl rfl (Nat.le_of_ble_eq_true rfl) rfl ?_
  refine s_goto (tgt := 118) dX12_pour_177 rfl ?_
  refine s_mask [true, true, true, true, true, true, true, false] (L' := [some (.ref (o_ad X a0)), some (.int x1), some (.int x2), some (.int x3), some (.int x4), some (.int x5), some (.int (x6 + 1)), none]) rfl ?_
  exact kh (x6 + 1) _ (o_ret h)
set_option maxRecDepth 20000 in
theorem dnX12_pour_s118 {X : o_Cx} (hX : o_ok X) {d : Nat} {a0 : Nat} {x1 : Int32} {x2 : Int32} {x3 : Int32} {x4 : Int32} {x5 : Int32} {τ118 : Int32} {μ0 : o_Mem} {K : (Nat × (Int32)) → o_Mem → Prop} {Q : Option Value → o_Mem → Prop} (h0 : o_is X a0 (.inl 12)) (h : o_Post (fX12_pour_s118 (o_rf X) a0 x1 x2 x3 x4 x5 τ118 μ0) K) (kh : ∀ (τ118 : Int32) (μ : o_Mem), K (118, τ118) μ → o_Ev X (d + 1) mX12_pour 118 [some (.ref (o_ad X a0)), some (.int x1), some (.int x2), some (.int x3), some (.int x4), some (.int x5), some (.int τ118), none] [] μ Q) (k180 : ∀ (τ118 : Int32) (μ : o_Mem), K (180, τ118) μ → o_Ev X (d + 1) mX12_pour 180 [some (.ref (o_ad X a0)), none, none, none, none, none, none, none] [] μ Q) : o_Ev X (d + 1) mX12_pour 118 [some (.ref (o_ad X a0)), some (.int x1), some (.int x2), some (.int x3), some (.int x4), some (.int x5), some (.int τ118), none] [] μ0 Q := by
  unfold fX12_pour_s118 at h
  refine s_iload dX12_pour_118 rfl ?_
  refine s_iload dX12_pour_120 rfl ?_
  refine s_icmp_ge (tgt := 180) dX12_pour_122 rfl (fun c1 => ?_) (fun c1 => ?_)
  · have h := o_if_t c1 h
    refine s_mask [true, false, false, false, false, false, false, false] (L' := [some (.ref (o_ad X a0)), none, none, none, none, none, none, none]) rfl ?_
    exact k180 0 _ (o_ret h)
  · have h := o_if_f c1 h
    refine s_iload_n (i := 2) dX12_pour_125 rfl rfl ?_
    refine s_iload dX12_pour_126 rfl ?_
    refine s_icmp_ge (tgt := 141) dX12_pour_128 rfl (fun c1 => ?_) (fun c1 => ?_)
    · have h := o_if_t c1 h
      refine s_iload dX12_pour_141 rfl ?_
      refine s_mask [true, true, true, true, true, true, true, false] (L' := [some (.ref (o_ad X a0)), some (.int x1), some (.int x2), some (.int x3), some (.int x4), some (.int x5), some (.int τ118), none]) rfl ?_
      exact dnX12_pour_j143 hX h0 h kh k180
    · have h := o_if_f c1 h
      refine s_iload dX12_pour_131 rfl ?_
      refine s_iconst dX12_pour_133 kI_1 ?_
      refine s_isub dX12_pour_134 ?_
      refine s_iload dX12_pour_135 rfl ?_
      refine s_isub dX12_pour_137 ?_
      refine s_goto (tgt := 143) dX12_pour_138 rfl ?_
      refine s_mask [true, true, true, true, true, true, true, false] (L' := [some (.ref (o_ad X a0)), some (.int x1), some (.int x2), some (.int x3), some (.int x4), some (.int x5), some (.int τ118), none]) rfl ?_
      exact dnX12_pour_j143 hX h0 h kh k180
set_option maxRecDepth 20000 in
theorem dnX12_pour {X : o_Cx} (hX : o_ok X) {d : Nat} {a0 : Nat} {x1 : Int32} {x2 : Int32} {x3 : Int32} {x4 : Int32} {x5 : Int32} {μ0 : o_Mem} {q : Int32 → o_Mem → Prop} (h0 : o_is X a0 (.inl 12)) (h : o_Post (fX12_pour (o_rf X) a0 x1 x2 x3 x4 x5 μ0) q) : o_Ev X (d + 1) mX12_pour 0 [some (.ref (o_ad X a0)), some (.int x1), some (.int x2), some (.int x3), some (.int x4), some (.int x5), none, none] [] μ0 (o_QZ q) := by
  unfold fX12_pour at h
  refine s_iload_n (i := 1) dX12_pour_0 rfl rfl ?_
  refine s_callSz (C := mX12_isTray) (As := [.int x1]) (rest := []) (L0 := [some (.int x1)]) clX12_98 dX12_pour_1 rfl rfl (Nat.le_of_ble_eq_true rfl) (Nat.le_of_ble_eq_true rfl) (dnX12_isTray hX  (o_bdp h)) (fun r1 μ1 zr1 h => ?_)
  refine s_if_eq (tgt := 28) dX12_pour_4 rfl (fun c1 => ?_) (fun c1 => ?_)
  · have h := o_if_t c1 h
    refine s_mask [true, false, false, false, false, false, false, false] (L' := [some (.ref (o_ad X a0)), none, none, none, none, none, none, none]) rfl ?_
    exact dnX12_pour_j28 hX h0 h
  · have h := o_if_f c1 h
    refine s_iload_n (i := 3) dX12_pour_7 rfl rfl ?_
    refine s_callSz (C := mX12_isTray) (As := [.int x3]) (rest := []) (L0 := [some (.int x3)]) clX12_98 dX12_pour_8 rfl rfl (Nat.le_of_ble_eq_true rfl) (Nat.le_of_ble_eq_true rfl) (dnX12_isTray hX  (o_bdp h)) (fun r2 μ2 zr2 h => ?_)
    refine s_if_eq (tgt := 28) dX12_pour_11 rfl (fun c1 => ?_) (fun c1 => ?_)
    · have h := o_if_t c1 h
      refine s_mask [true, false, false, false, false, false, false, false] (L' := [some (.ref (o_ad X a0)), none, none, none, none, none, none, none]) rfl ?_
      exact dnX12_pour_j28 hX h0 h
    · have h := o_if_f c1 h
      refine s_iload_n (i := 2) dX12_pour_14 rfl rfl ?_
      refine s_if_lt (tgt := 28) dX12_pour_15 rfl (fun c1 => ?_) (fun c1 => ?_)
      · have h := o_if_t c1 h
        refine s_mask [true, false, false, false, false, false, false, false] (L' := [some (.ref (o_ad X a0)), none, none, none, none, none, none, none]) rfl ?_
        exact dnX12_pour_j28 hX h0 h
      · have h := o_if_f c1 h
        refine s_iload dX12_pour_18 rfl ?_
        refine s_if_lt (tgt := 28) dX12_pour_20 rfl (fun c1 => ?_) (fun c1 => ?_)
        · have h := o_if_t c1 h
          refine s_mask [true, false, false, false, false, false, false, false] (L' := [some (.ref (o_ad X a0)), none, none, none, none, none, none, none]) rfl ?_
          exact dnX12_pour_j28 hX h0 h
        · have h := o_if_f c1 h
          refine s_iload dX12_pour_23 rfl ?_
          refine s_if_ge (tgt := 34) dX12_pour_25 rfl (fun c1 => ?_) (fun c1 => ?_)
          · have h := o_if_t c1 h
            refine s_aload_n (i := 0) dX12_pour_34 rfl rfl ?_
            refine s_getR hX h0 flX12_24 rfl dX12_pour_35 (fun (g1 : o_is X (o_rf X a0 6) (.inr (0, 4))) => ?_)
            refine s_iload_n (i := 1) dX12_pour_38 rfl rfl ?_
            have hc := o_ck_c h
            have h := o_ck_k h
            refine s_ialdK g1 hc rfl dX12_pour_39 ?_
            refine s_iconst dX12_pour_40 kI_m1 ?_
            refine s_icmp_eq (tgt := 54) dX12_pour_41 rfl (fun c1 => ?_) (fun c1 => ?_)
            · have h := o_if_t c1 h
              refine s_mask [true, false, false, false, false, false, false, false] (L' := [some (.ref (o_ad X a0)), none, none, none, none, none, none, none]) rfl ?_
              exact dnX12_pour_j54 hX h0 h
            · have h := o_if_f c1 h
              refine s_aload_n (i := 0) dX12_pour_44 rfl rfl ?_
              refine s_getR hX h0 flX12_24 rfl dX12_pour_45 (fun (g2 : o_is X (o_rf X a0 6) (.inr (0, 4))) => ?_)
              refine s_iload_n (i := 3) dX12_pour_48 rfl rfl ?_
              have hc := o_ck_c h
              have h := o_ck_k h
              refine s_ialdK g2 hc rfl dX12_pour_49 ?_
              refine s_iconst dX12_pour_50 kI_m1 ?_
              refine s_icmp_ne (tgt := 60) dX12_pour_51 rfl (fun c1 => ?_) (fun c1 => ?_)
              · have h := o_if_f c1 h
                refine s_aload_n (i := 0) dX12_pour_60 rfl rfl ?_
                refine s_getR hX h0 flX12_21 rfl dX12_pour_61 (fun (g3 : o_is X (o_rf X a0 5) (.inr (0, 4))) => ?_)
                refine s_iload_n (i := 1) dX12_pour_64 rfl rfl ?_
                have hc := o_ck_c h
                have h := o_ck_k h
                refine s_ialdK g3 hc rfl dX12_pour_65 ?_
                refine s_aload_n (i := 0) dX12_pour_66 rfl rfl ?_
                refine s_getR hX h0 flX12_21 rfl dX12_pour_67 (fun (g4 : o_is X (o_rf X a0 5) (.inr (0, 4))) => ?_)
                refine s_iload_n (i := 3) dX12_pour_70 rfl rfl ?_
                have hc := o_ck_c h
                have h := o_ck_k h
                refine s_ialdK g4 hc rfl dX12_pour_71 ?_
                refine s_icmp_eq (tgt := 82) dX12_pour_72 rfl (fun c1 => ?_) (fun c1 => ?_)
                · have h := o_if_t c1 h
                  refine s_iload dX12_pour_82 rfl ?_
                  refine s_aload_n (i := 0) dX12_pour_84 rfl rfl ?_
                  refine s_getR hX h0 flX12_24 rfl dX12_pour_85 (fun (g5 : o_is X (o_rf X a0 6) (.inr (0, 4))) => ?_)
                  refine s_iload_n (i := 1) dX12_pour_88 rfl rfl ?_
                  have hc := o_ck_c h
                  have h := o_ck_k h
                  refine s_ialdK g5 hc rfl dX12_pour_89 ?_
                  refine s_iload_n (i := 2) dX12_pour_90 rfl rfl ?_
                  refine s_isub dX12_pour_91 ?_
                  refine s_icmp_gt (tgt := 109) dX12_pour_92 rfl (fun c1 => ?_) (fun c1 => ?_)
                  · have h := o_if_t c1 h
                    refine s_mask [true, false, false, false, false, false, false, false] (L' := [some (.ref (o_ad X a0)), none, none, none, none, none, none, none]) rfl ?_
                    exact dnX12_pour_j109 hX h0 h
                  · have h := o_if_f c1 h
                    refine s_iload dX12_pour_95 rfl ?_
                    refine s_aload_n (i := 0) dX12_pour_97 rfl rfl ?_
                    refine s_getR hX h0 flX12_24 rfl dX12_pour_98 (fun (g6 : o_is X (o_rf X a0 6) (.inr (0, 4))) => ?_)
                    refine s_iload_n (i := 3) dX12_pour_101 rfl rfl ?_
                    have hc := o_ck_c h
                    have h := o_ck_k h
                    refine s_ialdK g6 hc rfl dX12_pour_102 ?_
                    refine s_iload dX12_pour_103 rfl ?_
                    refine s_isub dX12_pour_105 ?_
                    refine s_icmp_le (tgt := 115) dX12_pour_106 rfl (fun c1 => ?_) (fun c1 => ?_)
                    · have h := o_if_t c1 h
                      refine s_iconst dX12_pour_115 kI_0 ?_
                      refine s_istore dX12_pour_116 (Nat.le_of_ble_eq_true rfl) rfl ?_
                      refine s_mask [true, true, true, true, true, true, true, false] (L' := [some (.ref (o_ad X a0)), some (.int x1), some (.int x2), some (.int x3), some (.int x4), some (.int x5), some (.int 0), none]) rfl ?_
                      refine o_lp_ev (fun τ118 => [some (.ref (o_ad X a0)), some (.int x1), some (.int x2), some (.int x3), some (.int x4), some (.int x5), some (.int τ118), none]) (fun τ118 μ _K h kv ke118 => dnX12_pour_s118 hX h0 h kv (fun τ118 μ3 h => ?_)) o_fuel 0 μ2 (o_bdp h)
                      · have h := o_if_t rfl (ke118 (180, τ118) μ3 (o_ne rfl) h)
                        refine s_aload_n (i := 0) dX12_pour_180 rfl rfl ?_
                        refine s_iconst dX12_pour_181 kI_0 ?_
                        refine s_callVz (C := mX12_is) (As := [.int 0]) (rest := []) (L0 := [some (.ref (o_ad X a0)), some (.int 0)]) hX h0 clX12_94 dX12_pour_182 rfl rfl (Nat.le_of_ble_eq_true rfl) (Nat.le_of_ble_eq_true rfl) (dnX12_is hX h0 (o_bdp h)) (fun r3 μ4 zr3 h => ?_)
                        exact s_zreturn rfl zr3 dX12_pour_185 ⟨_, rfl, zr3, o_ret h⟩
                    · have h := o_if_f c1 h
                      refine s_mask [true, false, false, false, false, false, false, false] (L' := [some (.ref (o_ad X a0)), none, none, none, none, none, none, none]) rfl ?_
                      exact dnX12_pour_j109 hX h0 h
                · have h := o_if_f c1 h
                  refine s_aload_n (i := 0) dX12_pour_75 rfl rfl ?_
                  refine s_bipush dX12_pour_76 kB_8 ?_
                  refine s_callVz (C := mX12_is) (As := [.int 8]) (rest := []) (L0 := [some (.ref (o_ad X a0)), some (.int 8)]) hX h0 clX12_94 dX12_pour_78 rfl rfl (Nat.le_of_ble_eq_true rfl) (Nat.le_of_ble_eq_true rfl) (dnX12_is hX h0 (o_bdp h)) (fun r4 μ5 zr4 h => ?_)
                  exact s_zreturn rfl zr4 dX12_pour_81 ⟨_, rfl, zr4, o_ret h⟩
              · have h := o_if_t c1 h
                refine s_mask [true, false, false, false, false, false, false, false] (L' := [some (.ref (o_ad X a0)), none, none, none, none, none, none, none]) rfl ?_
                exact dnX12_pour_j54 hX h0 h
          · have h := o_if_f c1 h
            refine s_mask [true, false, false, false, false, false, false, false] (L' := [some (.ref (o_ad X a0)), none, none, none, none, none, none, none]) rfl ?_
            exact dnX12_pour_j28 hX h0 h
theorem dX12_isFrom_0 : decode cX12_isFrom 0 = .ok (.lload_n 0, 1) := by decide +kernel
theorem dX12_isFrom_1 : decode cX12_isFrom 1 = .ok (.lload_n 2, 1) := by decide +kernel
theorem dX12_isFrom_2 : decode cX12_isFrom 2 = .ok (.lcmp, 1) := by decide +kernel
theorem dX12_isFrom_3 : decode cX12_isFrom 3 = .ok (.ifCond .lt 14, 3) := by decide +kernel
theorem dX12_isFrom_6 : decode cX12_isFrom 6 = .ok (.lload_n 0, 1) := by decide +kernel
theorem dX12_isFrom_7 : decode cX12_isFrom 7 = .ok (.lload 4, 2) := by decide +kernel
theorem dX12_isFrom_9 : decode cX12_isFrom 9 = .ok (.lcmp, 1) := by decide +kernel
theorem dX12_isFrom_10 : decode cX12_isFrom 10 = .ok (.ifCond .gt 7, 3) := by decide +kernel
theorem dX12_isFrom_13 : decode cX12_isFrom 13 = .ok (.iconst 1, 1) := by decide +kernel
theorem dX12_isFrom_14 : decode cX12_isFrom 14 = .ok (.goto 4, 3) := by decide +kernel
theorem dX12_isFrom_17 : decode cX12_isFrom 17 = .ok (.iconst 0, 1) := by decide +kernel
theorem dX12_isFrom_18 : decode cX12_isFrom 18 = .ok (.ireturn, 1) := by decide +kernel
noncomputable def fX12_isFrom (rf : Nat → Nat → Nat) (x0 : Int64) (x2 : Int64) (x4 : Int64) (μ0 : o_Mem) : Option (Int32 × o_Mem) :=
  if x0 < x2 then (
    some (0, μ0))
  else (
    if x4 < x0 then (
      some (0, μ0))
    else (
      some (1, μ0)))
set_option maxRecDepth 20000 in
theorem dnX12_isFrom {X : o_Cx} (hX : o_ok X) {d : Nat} {x0 : Int64} {x2 : Int64} {x4 : Int64} {μ0 : o_Mem} {q : Int32 → o_Mem → Prop}  (h : o_Post (fX12_isFrom (o_rf X) x0 x2 x4 μ0) q) : o_Ev X (d + 0) mX12_isFrom 0 [some (.long x0), none, some (.long x2), none, some (.long x4), none] [] μ0 (o_QZ q) := by
  unfold fX12_isFrom at h
  refine s_lload_n (i := 0) dX12_isFrom_0 rfl rfl ?_
  refine s_lload_n (i := 2) dX12_isFrom_1 rfl rfl ?_
  refine s_lif_lt (tgt := 17) dX12_isFrom_2 dX12_isFrom_3 rfl (fun c1 => ?_) (fun c1 => ?_)
  · have h := o_if_t c1 h
    refine s_iconst dX12_isFrom_17 kI_0 ?_
    exact s_zreturn rfl (Or.inl rfl) dX12_isFrom_18 ⟨_, rfl, (Or.inl rfl), o_ret h⟩
  · have h := o_if_f c1 h
    refine s_lload_n (i := 0) dX12_isFrom_6 rfl rfl ?_
    refine s_lload dX12_isFrom_7 rfl ?_
    refine s_lif_gt (tgt := 17) dX12_isFrom_9 dX12_isFrom_10 rfl (fun c1 => ?_) (fun c1 => ?_)
    · have h := o_if_t c1 h
      refine s_iconst dX12_isFrom_17 kI_0 ?_
      exact s_zreturn rfl (Or.inl rfl) dX12_isFrom_18 ⟨_, rfl, (Or.inl rfl), o_ret h⟩
    · have h := o_if_f c1 h
      refine s_iconst dX12_isFrom_13 kI_1 ?_
      refine s_goto (tgt := 18) dX12_isFrom_14 rfl ?_
      exact s_zreturn rfl (Or.inr rfl) dX12_isFrom_18 ⟨_, rfl, (Or.inr rfl), o_ret h⟩
theorem dX12_four_0 : decode cX12_four 0 = .ok (.bipush 24, 2) := by decide +kernel
theorem dX12_four_2 : decode cX12_four 2 = .ok (.istore_n 2, 1) := by decide +kernel
theorem dX12_four_3 : decode cX12_four 3 = .ok (.iload_n 2, 1) := by decide +kernel
theorem dX12_four_4 : decode cX12_four 4 = .ok (.ifCond .lt 32, 3) := by decide +kernel
theorem dX12_four_7 : decode cX12_four 7 = .ok (.aload_n 0, 1) := by decide +kernel
theorem dX12_four_8 : decode cX12_four 8 = .ok (.getfield 30, 3) := by decide +kernel
theorem dX12_four_11 : decode cX12_four 11 = .ok (.aload_n 0, 1) := by decide +kernel
theorem dX12_four_12 : decode cX12_four 12 = .ok (.getfield 111, 3) := by decide +kernel
theorem dX12_four_15 : decode cX12_four 15 = .ok (.iload_n 1, 1) := by decide +kernel
theorem dX12_four_16 : decode cX12_four 16 = .ok (.iload_n 2, 1) := by decide +kernel
theorem dX12_four_17 : decode cX12_four 17 = .ok (.ishr, 1) := by decide +kernel
theorem dX12_four_18 : decode cX12_four 18 = .ok (.i2b, 1) := by decide +kernel
theorem dX12_four_19 : decode cX12_four 19 = .ok (.bastore, 1) := by decide +kernel
theorem dX12_four_20 : decode cX12_four 20 = .ok (.aload_n 0, 1) := by decide +kernel
theorem dX12_four_21 : decode cX12_four 21 = .ok (.dup, 1) := by decide +kernel
theorem dX12_four_22 : decode cX12_four 22 = .ok (.getfield 111, 3) := by decide +kernel
theorem dX12_four_25 : decode cX12_four 25 = .ok (.iconst 1, 1) := by decide +kernel
theorem dX12_four_26 : decode cX12_four 26 = .ok (.iadd, 1) := by decide +kernel
theorem dX12_four_27 : decode cX12_four 27 = .ok (.putfield 111, 3) := by decide +kernel
theorem dX12_four_30 : decode cX12_four 30 = .ok (.iinc 2 (-8), 3) := by decide +kernel
theorem dX12_four_33 : decode cX12_four 33 = .ok (.goto (-30), 3) := by decide +kernel
theorem dX12_four_36 : decode cX12_four 36 = .ok (.return_, 1) := by decide +kernel
noncomputable def fX12_four_s3 (rf : Nat → Nat → Nat) (a0 : Nat) (x1 : Int32) (τ3 : Int32) (μ0 : o_Mem) : Option ((Nat × (Int32)) × o_Mem) :=
  if τ3 < 0 then (
    some ((36, 0), μ0))
  else (
    o_ck (0 ≤ ((μ0.1 a0 10)).toInt ∧ ((μ0.1 a0 10)).toInt < 900) <|
    o_seq (o_wI μ0 (rf a0 8) (((μ0.1 a0 10)).toNatClampNeg) (((x1 >>> (τ3 &&& 31)).toInt8.toInt32).toInt8.toInt32)) fun μ1 =>
    o_seq (o_wI μ1 a0 10 ((μ1.1 a0 10) + 1)) fun μ2 =>
    some ((3, (τ3 + (-8))), μ2))
noncomputable def fX12_four (rf : Nat → Nat → Nat) (a0 : Nat) (x1 : Int32) (μ0 : o_Mem) : Option (Unit × o_Mem) :=
  o_bd (o_lp 3 (fX12_four_s3 rf a0 x1) o_fuel (24 : Int32) μ0) fun ex1 μ1 =>
  if ex1.1 = 36 then (
    some ((), μ1))
  else
    none
set_option maxRecDepth 20000 in
theorem dnX12_four_s3 {X : o_Cx} (hX : o_ok X) {d : Nat} {a0 : Nat} {x1 : Int32} {τ3 : Int32} {μ0 : o_Mem} {K : (Nat × (Int32)) → o_Mem → Prop} {Q : Option Value → o_Mem → Prop} (h0 : o_is X a0 (.inl 12)) (h : o_Post (fX12_four_s3 (o_rf X) a0 x1 τ3 μ0) K) (kh : ∀ (τ3 : Int32) (μ : o_Mem), K (3, τ3) μ → o_Ev X (d + 0) mX12_four 3 [some (.ref (o_ad X a0)), some (.int x1), some (.int τ3)] [] μ Q) (k36 : ∀ (τ3 : Int32) (μ : o_Mem), K (36, τ3) μ → o_Ev X (d + 0) mX12_four 36 [none, none, none] [] μ Q) : o_Ev X (d + 0) mX12_four 3 [some (.ref (o_ad X a0)), some (.int x1), some (.int τ3)] [] μ0 Q := by
  unfold fX12_four_s3 at h
  refine s_iload_n (i := 2) dX12_four_3 rfl rfl ?_
  refine s_if_lt (tgt := 36) dX12_four_4 rfl (fun c1 => ?_) (fun c1 => ?_)
  · have h := o_if_t c1 h
    refine s_mask [false, false, false] (L' := [none, none, none]) rfl ?_
    exact k36 0 _ (o_ret h)
  · have h := o_if_f c1 h
    refine s_aload_n (i := 0) dX12_four_7 rfl rfl ?_
    refine s_getR hX h0 flX12_30 rfl dX12_four_8 (fun (g1 : o_is X (o_rf X a0 8) (.inr (1, 900))) => ?_)
    refine s_aload_n (i := 0) dX12_four_11 rfl rfl ?_
    refine s_getI h0 flX12_111 rfl dX12_four_12 ?_
    refine s_iload_n (i := 1) dX12_four_15 rfl rfl ?_
    refine s_iload_n (i := 2) dX12_four_16 rfl rfl ?_
    refine s_ishr dX12_four_17 ?_
    refine s_i2b dX12_four_18 ?_
    have hc := o_ck_c h
    have h := o_ck_k h
    refine s_bastK hX g1 hc rfl dX12_four_19 (o_gen h (fun μ1 h => ?_))
    refine s_aload_n (i := 0) dX12_four_20 rfl rfl ?_
    refine s_dup dX12_four_21 rfl ?_
    refine s_getI h0 flX12_111 rfl dX12_four_22 ?_
    refine s_iconst dX12_four_25 kI_1 ?_
    refine s_iadd dX12_four_26 ?_
    refine s_putI hX h0 fwX12_111 rfl dX12_four_27 (o_gen h (fun μ2 h => ?_))
    refine s_iinc (v := (τ3 + (-8))) dX12_four_30 rfl rfl (Nat.le_of_ble_eq_true rfl) rfl ?_
    refine s_goto (tgt := 3) dX12_four_33 rfl ?_
    refine s_mask [true, true, true] (L' := [some (.ref (o_ad X a0)), some (.int x1), some (.int (τ3 + (-8)))]) rfl ?_
    exact kh (τ3 + (-8)) _ (o_ret h)
set_option maxRecDepth 20000 in
theorem dnX12_four {X : o_Cx} (hX : o_ok X) {d : Nat} {a0 : Nat} {x1 : Int32} {μ0 : o_Mem} {q : Unit → o_Mem → Prop} (h0 : o_is X a0 (.inl 12)) (h : o_Post (fX12_four (o_rf X) a0 x1 μ0) q) : o_Ev X (d + 0) mX12_four 0 [some (.ref (o_ad X a0)), some (.int x1), none] [] μ0 (o_QU q) := by
  unfold fX12_four at h
  refine s_bipush dX12_four_0 kB_24 ?_
  refine s_istore_n (i := 2) dX12_four_2 rfl (Nat.le_of_ble_eq_true rfl) rfl ?_
  refine s_mask [true, true, true] (L' := [some (.ref (o_ad X a0)), some (.int x1), some (.int 24)]) rfl ?_
  refine o_lp_ev (fun τ3 => [some (.ref (o_ad X a0)), some (.int x1), some (.int τ3)]) (fun τ3 μ _K h kv ke3 => dnX12_four_s3 hX h0 h kv (fun τ3 μ1 h => ?_)) o_fuel 24 μ0 (o_bdp h)
  · have h := o_if_t rfl (ke3 (36, τ3) μ1 (o_ne rfl) h)
    exact s_return rfl dX12_four_36 ⟨rfl, o_ret h⟩
theorem dX12_feed_0 : decode cX12_feed 0 = .ok (.aload_n 0, 1) := by decide +kernel
theorem dX12_feed_1 : decode cX12_feed 1 = .ok (.getfield 111, 3) := by decide +kernel
theorem dX12_feed_4 : decode cX12_feed 4 = .ok (.bipush 20, 2) := by decide +kernel
theorem dX12_feed_6 : decode cX12_feed 6 = .ok (.iadd, 1) := by decide +kernel
theorem dX12_feed_7 : decode cX12_feed 7 = .ok (.sipush 900, 3) := by decide +kernel
theorem dX12_feed_10 : decode cX12_feed 10 = .ok (.if_icmp .le 5, 3) := by decide +kernel
theorem dX12_feed_13 : decode cX12_feed 13 = .ok (.iconst (-1), 1) := by decide +kernel
theorem dX12_feed_14 : decode cX12_feed 14 = .ok (.ireturn, 1) := by decide +kernel
theorem dX12_feed_15 : decode cX12_feed 15 = .ok (.aload_n 0, 1) := by decide +kernel
theorem dX12_feed_16 : decode cX12_feed 16 = .ok (.iload_n 1, 1) := by decide +kernel
theorem dX12_feed_17 : decode cX12_feed 17 = .ok (.invokevirtual 114, 3) := by decide +kernel
theorem dX12_feed_20 : decode cX12_feed 20 = .ok (.aload_n 0, 1) := by decide +kernel
theorem dX12_feed_21 : decode cX12_feed 21 = .ok (.iload_n 2, 1) := by decide +kernel
theorem dX12_feed_22 : decode cX12_feed 22 = .ok (.invokevirtual 114, 3) := by decide +kernel
theorem dX12_feed_25 : decode cX12_feed 25 = .ok (.aload_n 0, 1) := by decide +kernel
theorem dX12_feed_26 : decode cX12_feed 26 = .ok (.iload_n 3, 1) := by decide +kernel
theorem dX12_feed_27 : decode cX12_feed 27 = .ok (.invokevirtual 114, 3) := by decide +kernel
theorem dX12_feed_30 : decode cX12_feed 30 = .ok (.aload_n 0, 1) := by decide +kernel
theorem dX12_feed_31 : decode cX12_feed 31 = .ok (.iload 4, 2) := by decide +kernel
theorem dX12_feed_33 : decode cX12_feed 33 = .ok (.invokevirtual 114, 3) := by decide +kernel
theorem dX12_feed_36 : decode cX12_feed 36 = .ok (.aload_n 0, 1) := by decide +kernel
theorem dX12_feed_37 : decode cX12_feed 37 = .ok (.iload 5, 2) := by decide +kernel
theorem dX12_feed_39 : decode cX12_feed 39 = .ok (.invokevirtual 114, 3) := by decide +kernel
theorem dX12_feed_42 : decode cX12_feed 42 = .ok (.aload_n 0, 1) := by decide +kernel
theorem dX12_feed_43 : decode cX12_feed 43 = .ok (.getfield 111, 3) := by decide +kernel
theorem dX12_feed_46 : decode cX12_feed 46 = .ok (.ireturn, 1) := by decide +kernel
noncomputable def fX12_feed (rf : Nat → Nat → Nat) (a0 : Nat) (x1 : Int32) (x2 : Int32) (x3 : Int32) (x4 : Int32) (x5 : Int32) (μ0 : o_Mem) : Option (Int32 × o_Mem) :=
  if ((μ0.1 a0 10) + 20) ≤ 900 then (
    o_bd (fX12_four rf a0 x1 μ0) fun _u μ1 =>
    o_bd (fX12_four rf a0 x2 μ1) fun _u μ2 =>
    o_bd (fX12_four rf a0 x3 μ2) fun _u μ3 =>
    o_bd (fX12_four rf a0 x4 μ3) fun _u μ4 =>
    o_bd (fX12_four rf a0 x5 μ4) fun _u μ5 =>
    some ((μ5.1 a0 10), μ5))
  else (
    some ((-1), μ0))
set_option maxRecDepth 20000 in
theorem dnX12_feed {X : o_Cx} (hX : o_ok X) {d : Nat} {a0 : Nat} {x1 : Int32} {x2 : Int32} {x3 : Int32} {x4 : Int32} {x5 : Int32} {μ0 : o_Mem} {q : Int32 → o_Mem → Prop} (h0 : o_is X a0 (.inl 12)) (h : o_Post (fX12_feed (o_rf X) a0 x1 x2 x3 x4 x5 μ0) q) : o_Ev X (d + 1) mX12_feed 0 [some (.ref (o_ad X a0)), some (.int x1), some (.int x2), some (.int x3), some (.int x4), some (.int x5)] [] μ0 (o_QI q) := by
  unfold fX12_feed at h
  refine s_aload_n (i := 0) dX12_feed_0 rfl rfl ?_
  refine s_getI h0 flX12_111 rfl dX12_feed_1 ?_
  refine s_bipush dX12_feed_4 kB_20 ?_
  refine s_iadd dX12_feed_6 ?_
  refine s_sipush dX12_feed_7 kS_900 ?_
  refine s_icmp_le (tgt := 15) dX12_feed_10 rfl (fun c1 => ?_) (fun c1 => ?_)
  · have h := o_if_t c1 h
    refine s_aload_n (i := 0) dX12_feed_15 rfl rfl ?_
    refine s_iload_n (i := 1) dX12_feed_16 rfl rfl ?_
    refine s_callVu (C := mX12_four) (As := [.int x1]) (rest := []) (L0 := [some (.ref (o_ad X a0)), some (.int x1), none]) hX h0 clX12_114 dX12_feed_17 rfl rfl (Nat.le_of_ble_eq_true rfl) (Nat.le_of_ble_eq_true rfl) (dnX12_four hX h0 (o_bdp h)) (fun _u μ1 h => ?_)
    refine s_aload_n (i := 0) dX12_feed_20 rfl rfl ?_
    refine s_iload_n (i := 2) dX12_feed_21 rfl rfl ?_
    refine s_callVu (C := mX12_four) (As := [.int x2]) (rest := []) (L0 := [some (.ref (o_ad X a0)), some (.int x2), none]) hX h0 clX12_114 dX12_feed_22 rfl rfl (Nat.le_of_ble_eq_true rfl) (Nat.le_of_ble_eq_true rfl) (dnX12_four hX h0 (o_bdp h)) (fun _u μ2 h => ?_)
    refine s_aload_n (i := 0) dX12_feed_25 rfl rfl ?_
    refine s_iload_n (i := 3) dX12_feed_26 rfl rfl ?_
    refine s_callVu (C := mX12_four) (As := [.int x3]) (rest := []) (L0 := [some (.ref (o_ad X a0)), some (.int x3), none]) hX h0 clX12_114 dX12_feed_27 rfl rfl (Nat.le_of_ble_eq_true rfl) (Nat.le_of_ble_eq_true rfl) (dnX12_four hX h0 (o_bdp h)) (fun _u μ3 h => ?_)
    refine s_aload_n (i := 0) dX12_feed_30 rfl rfl ?_
    refine s_iload dX12_feed_31 rfl ?_
    refine s_callVu (C := mX12_four) (As := [.int x4]) (rest := []) (L0 := [some (.ref (o_ad X a0)), some (.int x4), none]) hX h0 clX12_114 dX12_feed_33 rfl rfl (Nat.le_of_ble_eq_true rfl) (Nat.le_of_ble_eq_true rfl) (dnX12_four hX h0 (o_bdp h)) (fun _u μ4 h => ?_)
    refine s_aload_n (i := 0) dX12_feed_36 rfl rfl ?_
    refine s_iload dX12_feed_37 rfl ?_
    refine s_callVu (C := mX12_four) (As := [.int x5]) (rest := []) (L0 := [some (.ref (o_ad X a0)), some (.int x5), none]) hX h0 clX12_114 dX12_feed_39 rfl rfl (Nat.le_of_ble_eq_true rfl) (Nat.le_of_ble_eq_true rfl) (dnX12_four hX h0 (o_bdp h)) (fun _u μ5 h => ?_)
    refine s_aload_n (i := 0) dX12_feed_42 rfl rfl ?_
    refine s_getI h0 flX12_111 rfl dX12_feed_43 ?_
    exact s_ireturn rfl dX12_feed_46 ⟨_, rfl, o_ret h⟩
  · have h := o_if_f c1 h
    refine s_iconst dX12_feed_13 kI_m1 ?_
    exact s_ireturn rfl dX12_feed_14 ⟨_, rfl, o_ret h⟩
theorem dX12_byteAt_0 : decode cX12_byteAt 0 = .ok (.iload_n 1, 1) := by decide +kernel
theorem dX12_byteAt_1 : decode cX12_byteAt 1 = .ok (.aload_n 0, 1) := by decide +kernel
theorem dX12_byteAt_2 : decode cX12_byteAt 2 = .ok (.getfield 117, 3) := by decide +kernel
theorem dX12_byteAt_5 : decode cX12_byteAt 5 = .ok (.if_icmp .ge 16, 3) := by decide +kernel
theorem dX12_byteAt_8 : decode cX12_byteAt 8 = .ok (.aload_n 0, 1) := by decide +kernel
theorem dX12_byteAt_9 : decode cX12_byteAt 9 = .ok (.getfield 34, 3) := by decide +kernel
theorem dX12_byteAt_12 : decode cX12_byteAt 12 = .ok (.iload_n 1, 1) := by decide +kernel
theorem dX12_byteAt_13 : decode cX12_byteAt 13 = .ok (.baload, 1) := by decide +kernel
theorem dX12_byteAt_14 : decode cX12_byteAt 14 = .ok (.sipush 255, 3) := by decide +kernel
theorem dX12_byteAt_17 : decode cX12_byteAt 17 = .ok (.iand, 1) := by decide +kernel
theorem dX12_byteAt_18 : decode cX12_byteAt 18 = .ok (.goto 4, 3) := by decide +kernel
theorem dX12_byteAt_21 : decode cX12_byteAt 21 = .ok (.iconst (-1), 1) := by decide +kernel
theorem dX12_byteAt_22 : decode cX12_byteAt 22 = .ok (.ireturn, 1) := by decide +kernel
noncomputable def fX12_byteAt (rf : Nat → Nat → Nat) (a0 : Nat) (x1 : Int32) (μ0 : o_Mem) : Option (Int32 × o_Mem) :=
  if (μ0.1 a0 11) ≤ x1 then (
    some ((-1), μ0))
  else (
    o_ck (0 ≤ (x1).toInt ∧ (x1).toInt < 900) <|
    some (((μ0.1 (rf a0 9) x1.toNatClampNeg) &&& 255), μ0))
set_option maxRecDepth 20000 in
theorem dnX12_byteAt {X : o_Cx} (hX : o_ok X) {d : Nat} {a0 : Nat} {x1 : Int32} {μ0 : o_Mem} {q : Int32 → o_Mem → Prop} (h0 : o_is X a0 (.inl 12)) (h : o_Post (fX12_byteAt (o_rf X) a0 x1 μ0) q) : o_Ev X (d + 0) mX12_byteAt 0 [some (.ref (o_ad X a0)), some (.int x1)] [] μ0 (o_QI q) := by
  unfold fX12_byteAt at h
  refine s_iload_n (i := 1) dX12_byteAt_0 rfl rfl ?_
  refine s_aload_n (i := 0) dX12_byteAt_1 rfl rfl ?_
  refine s_getI h0 flX12_117 rfl dX12_byteAt_2 ?_
  refine s_icmp_ge (tgt := 21) dX12_byteAt_5 rfl (fun c1 => ?_) (fun c1 => ?_)
  · have h := o_if_t c1 h
    refine s_iconst dX12_byteAt_21 kI_m1 ?_
    exact s_ireturn rfl dX12_byteAt_22 ⟨_, rfl, o_ret h⟩
  · have h := o_if_f c1 h
    refine s_aload_n (i := 0) dX12_byteAt_8 rfl rfl ?_
    refine s_getR hX h0 flX12_34 rfl dX12_byteAt_9 (fun (g1 : o_is X (o_rf X a0 9) (.inr (1, 900))) => ?_)
    refine s_iload_n (i := 1) dX12_byteAt_12 rfl rfl ?_
    have hc := o_ck_c h
    have h := o_ck_k h
    refine s_baldK g1 hc rfl dX12_byteAt_13 ?_
    refine s_sipush dX12_byteAt_14 kS_255 ?_
    refine s_iand dX12_byteAt_17 ?_
    refine s_goto (tgt := 22) dX12_byteAt_18 rfl ?_
    exact s_ireturn rfl dX12_byteAt_22 ⟨_, rfl, o_ret h⟩
theorem dX12_isSmall_0 : decode cX12_isSmall 0 = .ok (.iload_n 0, 1) := by decide +kernel
theorem dX12_isSmall_1 : decode cX12_isSmall 1 = .ok (.bipush 97, 2) := by decide +kernel
theorem dX12_isSmall_3 : decode cX12_isSmall 3 = .ok (.if_icmp .lt 13, 3) := by decide +kernel
theorem dX12_isSmall_6 : decode cX12_isSmall 6 = .ok (.iload_n 0, 1) := by decide +kernel
theorem dX12_isSmall_7 : decode cX12_isSmall 7 = .ok (.bipush 122, 2) := by decide +kernel
theorem dX12_isSmall_9 : decode cX12_isSmall 9 = .ok (.if_icmp .gt 7, 3) := by decide +kernel
theorem dX12_isSmall_12 : decode cX12_isSmall 12 = .ok (.iconst 1, 1) := by decide +kernel
theorem dX12_isSmall_13 : decode cX12_isSmall 13 = .ok (.goto 4, 3) := by decide +kernel
theorem dX12_isSmall_16 : decode cX12_isSmall 16 = .ok (.iconst 0, 1) := by decide +kernel
theorem dX12_isSmall_17 : decode cX12_isSmall 17 = .ok (.ireturn, 1) := by decide +kernel
noncomputable def fX12_isSmall (rf : Nat → Nat → Nat) (x0 : Int32) (μ0 : o_Mem) : Option (Int32 × o_Mem) :=
  if x0 < 97 then (
    some (0, μ0))
  else (
    if 122 < x0 then (
      some (0, μ0))
    else (
      some (1, μ0)))
set_option maxRecDepth 20000 in
theorem dnX12_isSmall {X : o_Cx} (hX : o_ok X) {d : Nat} {x0 : Int32} {μ0 : o_Mem} {q : Int32 → o_Mem → Prop}  (h : o_Post (fX12_isSmall (o_rf X) x0 μ0) q) : o_Ev X (d + 0) mX12_isSmall 0 [some (.int x0)] [] μ0 (o_QZ q) := by
  unfold fX12_isSmall at h
  refine s_iload_n (i := 0) dX12_isSmall_0 rfl rfl ?_
  refine s_bipush dX12_isSmall_1 kB_97 ?_
  refine s_icmp_lt (tgt := 16) dX12_isSmall_3 rfl (fun c1 => ?_) (fun c1 => ?_)
  · have h := o_if_t c1 h
    refine s_iconst dX12_isSmall_16 kI_0 ?_
    exact s_zreturn rfl (Or.inl rfl) dX12_isSmall_17 ⟨_, rfl, (Or.inl rfl), o_ret h⟩
  · have h := o_if_f c1 h
    refine s_iload_n (i := 0) dX12_isSmall_6 rfl rfl ?_
    refine s_bipush dX12_isSmall_7 kB_122 ?_
    refine s_icmp_gt (tgt := 16) dX12_isSmall_9 rfl (fun c1 => ?_) (fun c1 => ?_)
    · have h := o_if_t c1 h
      refine s_iconst dX12_isSmall_16 kI_0 ?_
      exact s_zreturn rfl (Or.inl rfl) dX12_isSmall_17 ⟨_, rfl, (Or.inl rfl), o_ret h⟩
    · have h := o_if_f c1 h
      refine s_iconst dX12_isSmall_12 kI_1 ?_
      refine s_goto (tgt := 17) dX12_isSmall_13 rfl ?_
      exact s_zreturn rfl (Or.inr rfl) dX12_isSmall_17 ⟨_, rfl, (Or.inr rfl), o_ret h⟩
theorem dX12_isDigit_0 : decode cX12_isDigit 0 = .ok (.iload_n 0, 1) := by decide +kernel
theorem dX12_isDigit_1 : decode cX12_isDigit 1 = .ok (.bipush 48, 2) := by decide +kernel
theorem dX12_isDigit_3 : decode cX12_isDigit 3 = .ok (.if_icmp .lt 13, 3) := by decide +kernel
theorem dX12_isDigit_6 : decode cX12_isDigit 6 = .ok (.iload_n 0, 1) := by decide +kernel
theorem dX12_isDigit_7 : decode cX12_isDigit 7 = .ok (.bipush 57, 2) := by decide +kernel
theorem dX12_isDigit_9 : decode cX12_isDigit 9 = .ok (.if_icmp .gt 7, 3) := by decide +kernel
theorem dX12_isDigit_12 : decode cX12_isDigit 12 = .ok (.iconst 1, 1) := by decide +kernel
theorem dX12_isDigit_13 : decode cX12_isDigit 13 = .ok (.goto 4, 3) := by decide +kernel
theorem dX12_isDigit_16 : decode cX12_isDigit 16 = .ok (.iconst 0, 1) := by decide +kernel
theorem dX12_isDigit_17 : decode cX12_isDigit 17 = .ok (.ireturn, 1) := by decide +kernel
noncomputable def fX12_isDigit (rf : Nat → Nat → Nat) (x0 : Int32) (μ0 : o_Mem) : Option (Int32 × o_Mem) :=
  if x0 < 48 then (
    some (0, μ0))
  else (
    if 57 < x0 then (
      some (0, μ0))
    else (
      some (1, μ0)))
set_option maxRecDepth 20000 in
theorem dnX12_isDigit {X : o_Cx} (hX : o_ok X) {d : Nat} {x0 : Int32} {μ0 : o_Mem} {q : Int32 → o_Mem → Prop}  (h : o_Post (fX12_isDigit (o_rf X) x0 μ0) q) : o_Ev X (d + 0) mX12_isDigit 0 [some (.int x0)] [] μ0 (o_QZ q) := by
  unfold fX12_isDigit at h
  refine s_iload_n (i := 0) dX12_isDigit_0 rfl rfl ?_
  refine s_bipush dX12_isDigit_1 kB_48 ?_
  refine s_icmp_lt (tgt := 16) dX12_isDigit_3 rfl (fun c1 => ?_) (fun c1 => ?_)
  · have h := o_if_t c1 h
    refine s_iconst dX12_isDigit_16 kI_0 ?_
    exact s_zreturn rfl (Or.inl rfl) dX12_isDigit_17 ⟨_, rfl, (Or.inl rfl), o_ret h⟩
  · have h := o_if_f c1 h
    refine s_iload_n (i := 0) dX12_isDigit_6 rfl rfl ?_
    refine s_bipush dX12_isDigit_7 kB_57 ?_
    refine s_icmp_gt (tgt := 16) dX12_isDigit_9 rfl (fun c1 => ?_) (fun c1 => ?_)
    · have h := o_if_t c1 h
      refine s_iconst dX12_isDigit_16 kI_0 ?_
      exact s_zreturn rfl (Or.inl rfl) dX12_isDigit_17 ⟨_, rfl, (Or.inl rfl), o_ret h⟩
    · have h := o_if_f c1 h
      refine s_iconst dX12_isDigit_12 kI_1 ?_
      refine s_goto (tgt := 17) dX12_isDigit_13 rfl ?_
      exact s_zreturn rfl (Or.inr rfl) dX12_isDigit_17 ⟨_, rfl, (Or.inr rfl), o_ret h⟩
theorem dX12_ahead_0 : decode cX12_ahead 0 = .ok (.aload_n 0, 1) := by decide +kernel
theorem dX12_ahead_1 : decode cX12_ahead 1 = .ok (.aload_n 0, 1) := by decide +kernel
theorem dX12_ahead_2 : decode cX12_ahead 2 = .ok (.getfield 120, 3) := by decide +kernel
theorem dX12_ahead_5 : decode cX12_ahead 5 = .ok (.invokevirtual 123, 3) := by decide +kernel
theorem dX12_ahead_8 : decode cX12_ahead 8 = .ok (.bipush 32, 2) := by decide +kernel
theorem dX12_ahead_10 : decode cX12_ahead 10 = .ok (.if_icmp .eq 16, 3) := by decide +kernel
theorem dX12_ahead_13 : decode cX12_ahead 13 = .ok (.aload_n 0, 1) := by decide +kernel
theorem dX12_ahead_14 : decode cX12_ahead 14 = .ok (.aload_n 0, 1) := by decide +kernel
theorem dX12_ahead_15 : decode cX12_ahead 15 = .ok (.getfield 120, 3) := by decide +kernel
theorem dX12_ahead_18 : decode cX12_ahead 18 = .ok (.invokevirtual 123, 3) := by decide +kernel
theorem dX12_ahead_21 : decode cX12_ahead 21 = .ok (.bipush 10, 2) := by decide +kernel
theorem dX12_ahead_23 : decode cX12_ahead 23 = .ok (.if_icmp .ne 16, 3) := by decide +kernel
theorem dX12_ahead_26 : decode cX12_ahead 26 = .ok (.aload_n 0, 1) := by decide +kernel
theorem dX12_ahead_27 : decode cX12_ahead 27 = .ok (.dup, 1) := by decide +kernel
theorem dX12_ahead_28 : decode cX12_ahead 28 = .ok (.getfield 120, 3) := by decide +kernel
theorem dX12_ahead_31 : decode cX12_ahead 31 = .ok (.iconst 1, 1) := by decide +kernel
theorem dX12_ahead_32 : decode cX12_ahead 32 = .ok (.iadd, 1) := by decide +kernel
theorem dX12_ahead_33 : decode cX12_ahead 33 = .ok (.putfield 120, 3) := by decide +kernel
theorem dX12_ahead_36 : decode cX12_ahead 36 = .ok (.goto (-36), 3) := by decide +kernel
theorem dX12_ahead_39 : decode cX12_ahead 39 = .ok (.aload_n 0, 1) := by decide +kernel
theorem dX12_ahead_40 : decode cX12_ahead 40 = .ok (.aload_n 0, 1) := by decide +kernel
theorem dX12_ahead_41 : decode cX12_ahead 41 = .ok (.getfield 120, 3) := by decide +kernel
theorem dX12_ahead_44 : decode cX12_ahead 44 = .ok (.putfield 126, 3) := by decide +kernel
theorem dX12_ahead_47 : decode cX12_ahead 47 = .ok (.aload_n 0, 1) := by decide +kernel
theorem dX12_ahead_48 : decode cX12_ahead 48 = .ok (.aload_n 0, 1) := by decide +kernel
theorem dX12_ahead_49 : decode cX12_ahead 49 = .ok (.getfield 120, 3) := by decide +kernel
theorem dX12_ahead_52 : decode cX12_ahead 52 = .ok (.invokevirtual 123, 3) := by decide +kernel
theorem dX12_ahead_55 : decode cX12_ahead 55 = .ok (.istore_n 1, 1) := by decide +kernel
theorem dX12_ahead_56 : decode cX12_ahead 56 = .ok (.aload_n 0, 1) := by decide +kernel
theorem dX12_ahead_57 : decode cX12_ahead 57 = .ok (.iload_n 1, 1) := by decide +kernel
theorem dX12_ahead_58 : decode cX12_ahead 58 = .ok (.putfield 129, 3) := by decide +kernel
theorem dX12_ahead_61 : decode cX12_ahead 61 = .ok (.iload_n 1, 1) := by decide +kernel
theorem dX12_ahead_62 : decode cX12_ahead 62 = .ok (.iconst (-1), 1) := by decide +kernel
theorem dX12_ahead_63 : decode cX12_ahead 63 = .ok (.if_icmp .ne 11, 3) := by decide +kernel
theorem dX12_ahead_66 : decode cX12_ahead 66 = .ok (.aload_n 0, 1) := by decide +kernel
theorem dX12_ahead_67 : decode cX12_ahead 67 = .ok (.iconst 0, 1) := by decide +kernel
theorem dX12_ahead_68 : decode cX12_ahead 68 = .ok (.putfield 132, 3) := by decide +kernel
theorem dX12_ahead_71 : decode cX12_ahead 71 = .ok (.goto 180, 3) := by decide +kernel
theorem dX12_ahead_74 : decode cX12_ahead 74 = .ok (.iload_n 1, 1) := by decide +kernel
theorem dX12_ahead_75 : decode cX12_ahead 75 = .ok (.invokestatic 135, 3) := by decide +kernel
theorem dX12_ahead_78 : decode cX12_ahead 78 = .ok (.ifCond .eq 38, 3) := by decide +kernel
theorem dX12_ahead_81 : decode cX12_ahead 81 = .ok (.aload_n 0, 1) := by decide +kernel
theorem dX12_ahead_82 : decode cX12_ahead 82 = .ok (.aload_n 0, 1) := by decide +kernel
theorem dX12_ahead_83 : decode cX12_ahead 83 = .ok (.getfield 120, 3) := by decide +kernel
theorem dX12_ahead_86 : decode cX12_ahead 86 = .ok (.invokevirtual 123, 3) := by decide +kernel
theorem dX12_ahead_89 : decode cX12_ahead 89 = .ok (.invokestatic 135, 3) := by decide +kernel
theorem dX12_ahead_92 : decode cX12_ahead 92 = .ok (.ifCond .eq 16, 3) := by decide +kernel
theorem dX12_ahead_95 : decode cX12_ahead 95 = .ok (.aload_n 0, 1) := by decide +kernel
theorem dX12_ahead_96 : decode cX12_ahead 96 = .ok (.dup, 1) := by decide +kernel
theorem dX12_ahead_97 : decode cX12_ahead 97 = .ok (.getfield 120, 3) := by decide +kernel
theorem dX12_ahead_100 : decode cX12_ahead 100 = .ok (.iconst 1, 1) := by decide +kernel
theorem dX12_ahead_101 : decode cX12_ahead 101 = .ok (.iadd, 1) := by decide +kernel
theorem dX12_ahead_102 : decode cX12_ahead 102 = .ok (.putfield 120, 3) := by decide +kernel
theorem dX12_ahead_105 : decode cX12_ahead 105 = .ok (.goto (-24), 3) := by decide +kernel
theorem dX12_ahead_108 : decode cX12_ahead 108 = .ok (.aload_n 0, 1) := by decide +kernel
theorem dX12_ahead_109 : decode cX12_ahead 109 = .ok (.iconst 2, 1) := by decide +kernel
theorem dX12_ahead_110 : decode cX12_ahead 110 = .ok (.putfield 132, 3) := by decide +kernel
theorem dX12_ahead_113 : decode cX12_ahead 113 = .ok (.goto 138, 3) := by decide +kernel
theorem dX12_ahead_116 : decode cX12_ahead 116 = .ok (.iload_n 1, 1) := by decide +kernel
theorem dX12_ahead_117 : decode cX12_ahead 117 = .ok (.invokestatic 138, 3) := by decide +kernel
theorem dX12_ahead_120 : decode cX12_ahead 120 = .ok (.ifCond .eq 88, 3) := by decide +kernel
theorem dX12_ahead_123 : decode cX12_ahead 123 = .ok (.aload_n 0, 1) := by decide +kernel
theorem dX12_ahead_124 : decode cX12_ahead 124 = .ok (.iconst 0, 1) := by decide +kernel
theorem dX12_ahead_125 : decode cX12_ahead 125 = .ok (.putfield 129, 3) := by decide +kernel
theorem dX12_ahead_128 : decode cX12_ahead 128 = .ok (.aload_n 0, 1) := by decide +kernel
theorem dX12_ahead_129 : decode cX12_ahead 129 = .ok (.aload_n 0, 1) := by decide +kernel
theorem dX12_ahead_130 : decode cX12_ahead 130 = .ok (.getfield 120, 3) := by decide +kernel
theorem dX12_ahead_133 : decode cX12_ahead 133 = .ok (.invokevirtual 123, 3) := by decide +kernel
theorem dX12_ahead_136 : decode cX12_ahead 136 = .ok (.invokestatic 138, 3) := by decide +kernel
theorem dX12_ahead_139 : decode cX12_ahead 139 = .ok (.ifCond .eq 44, 3) := by decide +kernel
theorem dX12_ahead_142 : decode cX12_ahead 142 = .ok (.aload_n 0, 1) := by decide +kernel
theorem dX12_ahead_143 : decode cX12_ahead 143 = .ok (.ldc 141, 2) := by decide +kernel
theorem dX12_ahead_145 : decode cX12_ahead 145 = .ok (.bipush 10, 2) := by decide +kernel
theorem dX12_ahead_147 : decode cX12_ahead 147 = .ok (.aload_n 0, 1) := by decide +kernel
theorem dX12_ahead_148 : decode cX12_ahead 148 = .ok (.getfield 129, 3) := by decide +kernel
theorem dX12_ahead_151 : decode cX12_ahead 151 = .ok (.imul, 1) := by decide +kernel
theorem dX12_ahead_152 : decode cX12_ahead 152 = .ok (.aload_n 0, 1) := by decide +kernel
theorem dX12_ahead_153 : decode cX12_ahead 153 = .ok (.aload_n 0, 1) := by decide +kernel
theorem dX12_ahead_154 : decode cX12_ahead 154 = .ok (.getfield 120, 3) := by decide +kernel
theorem dX12_ahead_157 : decode cX12_ahead 157 = .ok (.invokevirtual 123, 3) := by decide +kernel
theorem dX12_ahead_160 : decode cX12_ahead 160 = .ok (.iadd, 1) := by decide +kernel
theorem dX12_ahead_161 : decode cX12_ahead 161 = .ok (.bipush 48, 2) := by decide +kernel
theorem dX12_ahead_163 : decode cX12_ahead 163 = .ok (.isub, 1) := by decide +kernel
theorem dX12_ahead_164 : decode cX12_ahead 164 = .ok (.invokestatic 142, 3) := by decide +kernel
theorem dX12_ahead_167 : decode cX12_ahead 167 = .ok (.putfield 129, 3) := by decide +kernel
theorem dX12_ahead_170 : decode cX12_ahead 170 = .ok (.aload_n 0, 1) := by decide +kernel
theorem dX12_ahead_171 : decode cX12_ahead 171 = .ok (.dup, 1) := by decide +kernel
theorem dX12_ahead_172 : decode cX12_ahead 172 = .ok (.getfield 120, 3) := by decide +kernel
theorem dX12_ahead_175 : decode cX12_ahead 175 = .ok (.iconst 1, 1) := by decide +kernel
theorem dX12_ahead_176 : decode cX12_ahead 176 = .ok (.iadd, 1) := by decide +kernel
theorem dX12_ahead_177 : decode cX12_ahead 177 = .ok (.putfield 120, 3) := by decide +kernel
theorem dX12_ahead_180 : decode cX12_ahead 180 = .ok (.goto (-52), 3) := by decide +kernel
theorem dX12_ahead_183 : decode cX12_ahead 183 = .ok (.aload_n 0, 1) := by decide +kernel
theorem dX12_ahead_184 : decode cX12_ahead 184 = .ok (.aload_n 0, 1) := by decide +kernel
theorem dX12_ahead_185 : decode cX12_ahead 185 = .ok (.getfield 120, 3) := by decide +kernel
theorem dX12_ahead_188 : decode cX12_ahead 188 = .ok (.aload_n 0, 1) := by decide +kernel
theorem dX12_ahead_189 : decode cX12_ahead 189 = .ok (.getfield 126, 3) := by decide +kernel
theorem dX12_ahead_192 : decode cX12_ahead 192 = .ok (.isub, 1) := by decide +kernel
theorem dX12_ahead_193 : decode cX12_ahead 193 = .ok (.iconst 4, 1) := by decide +kernel
theorem dX12_ahead_194 : decode cX12_ahead 194 = .ok (.if_icmp .le 7, 3) := by decide +kernel
theorem dX12_ahead_197 : decode cX12_ahead 197 = .ok (.iconst 1, 1) := by decide +kernel
theorem dX12_ahead_198 : decode cX12_ahead 198 = .ok (.goto 4, 3) := by decide +kernel
theorem dX12_ahead_201 : decode cX12_ahead 201 = .ok (.iconst 3, 1) := by decide +kernel
theorem dX12_ahead_202 : decode cX12_ahead 202 = .ok (.putfield 132, 3) := by decide +kernel
theorem dX12_ahead_205 : decode cX12_ahead 205 = .ok (.goto 46, 3) := by decide +kernel
theorem dX12_ahead_208 : decode cX12_ahead 208 = .ok (.aload_n 0, 1) := by decide +kernel
theorem dX12_ahead_209 : decode cX12_ahead 209 = .ok (.dup, 1) := by decide +kernel
theorem dX12_ahead_210 : decode cX12_ahead 210 = .ok (.getfield 120, 3) := by decide +kernel
theorem dX12_ahead_213 : decode cX12_ahead 213 = .ok (.iconst 1, 1) := by decide +kernel
theorem dX12_ahead_214 : decode cX12_ahead 214 = .ok (.iadd, 1) := by decide +kernel
theorem dX12_ahead_215 : decode cX12_ahead 215 = .ok (.putfield 120, 3) := by decide +kernel
theorem dX12_ahead_218 : decode cX12_ahead 218 = .ok (.aload_n 0, 1) := by decide +kernel
theorem dX12_ahead_219 : decode cX12_ahead 219 = .ok (.iload_n 1, 1) := by decide +kernel
theorem dX12_ahead_220 : decode cX12_ahead 220 = .ok (.bipush 59, 2) := by decide +kernel
theorem dX12_ahead_222 : decode cX12_ahead 222 = .ok (.if_icmp .eq 21, 3) := by decide +kernel
theorem dX12_ahead_225 : decode cX12_ahead 225 = .ok (.iload_n 1, 1) := by decide +kernel
theorem dX12_ahead_226 : decode cX12_ahead 226 = .ok (.bipush 60, 2) := by decide +kernel
theorem dX12_ahead_228 : decode cX12_ahead 228 = .ok (.if_icmp .eq 15, 3) := by decide +kernel
theorem dX12_ahead_231 : decode cX12_ahead 231 = .ok (.iload_n 1, 1) := by decide +kernel
theorem dX12_ahead_232 : decode cX12_ahead 232 = .ok (.bipush 62, 2) := by decide +kernel
theorem dX12_ahead_234 : decode cX12_ahead 234 = .ok (.if_icmp .eq 9, 3) := by decide +kernel
theorem dX12_ahead_237 : decode cX12_ahead 237 = .ok (.iload_n 1, 1) := by decide +kernel
theorem dX12_ahead_238 : decode cX12_ahead 238 = .ok (.bipush 61, 2) := by decide +kernel
theorem dX12_ahead_240 : decode cX12_ahead 240 = .ok (.if_icmp .ne 7, 3) := by decide +kernel
theorem dX12_ahead_243 : decode cX12_ahead 243 = .ok (.iconst 4, 1) := by decide +kernel
theorem dX12_ahead_244 : decode cX12_ahead 244 = .ok (.goto 4, 3) := by decide +kernel
theorem dX12_ahead_247 : decode cX12_ahead 247 = .ok (.iconst 1, 1) := by decide +kernel
theorem dX12_ahead_248 : decode cX12_ahead 248 = .ok (.putfield 132, 3) := by decide +kernel
theorem dX12_ahead_251 : decode cX12_ahead 251 = .ok (.return_, 1) := by decide +kernel
noncomputable def fX12_ahead_j26 (rf : Nat → Nat → Nat) (a0 : Nat) (μ0 : o_Mem) : Option ((Nat × (Unit)) × o_Mem) :=
  o_seq (o_wI μ0 a0 14 ((μ0.1 a0 14) + 1)) fun μ1 =>
  some ((0, ()), μ1)
noncomputable def fX12_ahead_s0 (rf : Nat → Nat → Nat) (a0 : Nat) (τ0 : Unit) (μ0 : o_Mem) : Option ((Nat × (Unit)) × o_Mem) :=
  o_bd (fX12_byteAt rf a0 (μ0.1 a0 14) μ0) fun r1 μ1 =>
  if r1 = 32 then (
    fX12_ahead_j26 rf a0 μ1)
  else (
    o_bd (fX12_byteAt rf a0 (μ1.1 a0 14) μ1) fun r2 μ2 =>
    if r2 = 10 then (
      fX12_ahead_j26 rf a0 μ2)
    else (
      some ((39, ()), μ2)))
noncomputable def fX12_ahead_j248 (rf : Nat → Nat → Nat) (b0 : Nat) (y1 : Int32) (μ0 : o_Mem) : Option (Unit × o_Mem) :=
  o_seq (o_wI μ0 b0 12 y1) fun μ1 =>
  some ((), μ1)
noncomputable def fX12_ahead_j243 (rf : Nat → Nat → Nat) (b0 : Nat) (μ0 : o_Mem) : Option (Unit × o_Mem) :=
  fX12_ahead_j248 rf b0 4 μ0
noncomputable def fX12_ahead_s128 (rf : Nat → Nat → Nat) (a0 : Nat) (τ128 : Unit) (μ0 : o_Mem) : Option ((Nat × (Unit)) × o_Mem) :=
  o_bd (fX12_byteAt rf a0 (μ0.1 a0 14) μ0) fun r1 μ1 =>
  o_bd (fX12_isDigit rf r1 μ1) fun r2 μ2 =>
  if r2 = 0 then (
    some ((183, ()), μ2))
  else (
    o_bd (fX12_byteAt rf a0 (μ2.1 a0 14) μ2) fun r3 μ3 =>
    o_seq (o_wI μ3 a0 15 (if 100000 > (((10 * (μ2.1 a0 15)) + r3) - 48) then (((10 * (μ2.1 a0 15)) + r3) - 48) else 100000)) fun μ4 =>
    o_seq (o_wI μ4 a0 14 ((μ4.1 a0 14) + 1)) fun μ5 =>
    some ((128, ()), μ5))
noncomputable def fX12_ahead_j202 (rf : Nat → Nat → Nat) (b0 : Nat) (y1 : Int32) (μ0 : o_Mem) : Option (Unit × o_Mem) :=
  o_seq (o_wI μ0 b0 12 y1) fun μ1 =>
  some ((), μ1)
noncomputable def fX12_ahead_s81 (rf : Nat → Nat → Nat) (a0 : Nat) (τ81 : Unit) (μ0 : o_Mem) : Option ((Nat × (Unit)) × o_Mem) :=
  o_bd (fX12_byteAt rf a0 (μ0.1 a0 14) μ0) fun r1 μ1 =>
  o_bd (fX12_isSmall rf r1 μ1) fun r2 μ2 =>
  if r2 = 0 then (
    some ((108, ()), μ2))
  else (
    o_seq (o_wI μ2 a0 14 ((μ2.1 a0 14) + 1)) fun μ3 =>
    some ((81, ()), μ3))
noncomputable def fX12_ahead (rf : Nat → Nat → Nat) (a0 : Nat) (μ0 : o_Mem) : Option (Unit × o_Mem) :=
  o_bd (o_lp 0 (fX12_ahead_s0 rf a0) o_fuel () μ0) fun ex1 μ1 =>
  if ex1.1 = 39 then (
    o_seq (o_wI μ1 a0 13 (μ1.1 a0 14)) fun μ2 =>
    o_bd (fX12_byteAt rf a0 (μ2.1 a0 14) μ2) fun r1 μ3 =>
    o_seq (o_wI μ3 a0 15 r1) fun μ4 =>
    if r1 = (-1) then (
      o_seq (o_wI μ4 a0 12 0) fun μ12 =>
      some ((), μ12))
    else (
      o_bd (fX12_isSmall rf r1 μ4) fun r2 μ5 =>
      if r2 = 0 then (
        o_bd (fX12_isDigit rf r1 μ5) fun r3 μ6 =>
        if r3 = 0 then (
          o_seq (o_wI μ6 a0 14 ((μ6.1 a0 14) + 1)) fun μ7 =>
          if r1 = 59 then (
            fX12_ahead_j243 rf a0 μ7)
          else (
            if r1 = 60 then (
              fX12_ahead_j243 rf a0 μ7)
            else (
              if r1 = 62 then (
                fX12_ahead_j243 rf a0 μ7)
              else (
                if r1 = 61 then (
                  fX12_ahead_j243 rf a0 μ7)
                else (
                  fX12_ahead_j248 rf a0 1 μ7)))))
        else (
          o_seq (o_wI μ6 a0 15 0) fun μ8 =>
          o_bd (o_lp 128 (fX12_ahead_s128 rf a0) o_fuel () μ8) fun ex9 μ9 =>
          if ex9.1 = 183 then (
            if ((μ9.1 a0 14) - (μ9.1 a0 13)) ≤ 4 then (
              fX12_ahead_j202 rf a0 3 μ9)
            else (
              fX12_ahead_j202 rf a0 1 μ9))
          else
            none))
      else (
        o_bd (o_lp 81 (fX12_ahead_s81 rf a0) o_fuel () μ5) fun ex10 μ10 =>
        if ex10.1 = 108 then (
          o_seq (o_wI μ10 a0 12 2) fun μ11 =>
          some ((), μ11))
        else
          none)))
  else
    none
set_option maxRecDepth 20000 in
theorem dnX12_ahead_j26 {X : o_Cx} (hX : o_ok X) {d : Nat} {a0 : Nat} {μ0 : o_Mem} {K : (Nat × (Unit)) → o_Mem → Prop} {Q : Option Value → o_Mem → Prop} (h0 : o_is X a0 (.inl 12)) (h : o_Post (fX12_ahead_j26 (o_rf X) a0 μ0) K) (kh : ∀ (τ0 : Unit) (μ : o_Mem), K (0, τ0) μ → o_Ev X (d + 1) mX12_ahead 0 [some (.ref (o_ad X a0)), none] [] μ Q) (k39 : ∀ (τ0 : Unit) (μ : o_Mem), K (39, τ0) μ → o_Ev X (d + 1) mX12_ahead 39 [some (.ref (o_ad X a0)), none] [] μ Q) : o_Ev X (d + 1) mX12_ahead 26 [some (.ref (o_ad X a0)), none] [] μ0 Q := by
  unfold fX12_ahead_j26 at h
  refine s_aload_n (i := 0) dX12_ahead_26 rfl rfl ?_
  refine s_dup dX12_ahead_27 rfl ?_
  refine s_getI h0 flX12_120 rfl dX12_ahead_28 ?_
  refine s_iconst dX12_ahead_31 kI_1 ?_
  refine s_iadd dX12_ahead_32 ?_
  refine s_putI hX h0 fwX12_120 rfl dX12_ahead_33 (o_gen h (fun μ1 h => ?_))
  refine s_goto (tgt := 0) dX12_ahead_36 rfl ?_
  refine s_mask [true, false] (L' := [some (.ref (o_ad X a0)), none]) rfl ?_
  exact kh () _ (o_ret h)
set_option maxRecDepth 20000 in
theorem dnX12_ahead_s0 {X : o_Cx} (hX : o_ok X) {d : Nat} {a0 : Nat} {τ0 : Unit} {μ0 : o_Mem} {K : (Nat × (Unit)) → o_Mem → Prop} {Q : Option Value → o_Mem → Prop} (h0 : o_is X a0 (.inl 12)) (h : o_Post (fX12_ahead_s0 (o_rf X) a0 τ0 μ0) K) (kh : ∀ (τ0 : Unit) (μ : o_Mem), K (0, τ0) μ → o_Ev X (d + 1) mX12_ahead 0 [some (.ref (o_ad X a0)), none] [] μ Q) (k39 : ∀ (τ0 : Unit) (μ : o_Mem), K (39, τ0) μ → o_Ev X (d + 1) mX12_ahead 39 [some (.ref (o_ad X a0)), none] [] μ Q) : o_Ev X (d + 1) mX12_ahead 0 [some (.ref (o_ad X a0)), none] [] μ0 Q := by
  unfold fX12_ahead_s0 at h
  refine s_aload_n (i := 0) dX12_ahead_0 rfl rfl ?_
  refine s_aload_n (i := 0) dX12_ahead_1 rfl rfl ?_
  refine s_getI h0 flX12_120 rfl dX12_ahead_2 ?_
  refine s_callVi (C := mX12_byteAt) (As := [.int (μ0.1 a0 14)]) (rest := []) (L0 := [some (.ref (o_ad X a0)), some (.int (μ0.1 a0 14))]) hX h0 clX12_123 dX12_ahead_5 rfl rfl (Nat.le_of_ble_eq_true rfl) (Nat.le_of_ble_eq_true rfl) (dnX12_byteAt hX h0 (o_bdp h)) (fun r1 μ1 h => ?_)
  refine s_bipush dX12_ahead_8 kB_32 ?_
  refine s_icmp_eq (tgt := 26) dX12_ahead_10 rfl (fun c1 => ?_) (fun c1 => ?_)
  · have h := o_if_t c1 h
    refine s_mask [true, false] (L' := [some (.ref (o_ad X a0)), none]) rfl ?_
    exact dnX12_ahead_j26 hX h0 h kh k39
  · have h := o_if_f c1 h
    refine s_aload_n (i := 0) dX12_ahead_13 rfl rfl ?_
    refine s_aload_n (i := 0) dX12_ahead_14 rfl rfl ?_
    refine s_getI h0 flX12_120 rfl dX12_ahead_15 ?_
    refine s_callVi (C := mX12_byteAt) (As := [.int (μ1.1 a0 14)]) (rest := []) (L0 := [some (.ref (o_ad X a0)), some (.int (μ1.1 a0 14))]) hX h0 clX12_123 dX12_ahead_18 rfl rfl (Nat.le_of_ble_eq_true rfl) (Nat.le_of_ble_eq_true rfl) (dnX12_byteAt hX h0 (o_bdp h)) (fun r2 μ2 h => ?_)
    refine s_bipush dX12_ahead_21 kB_10 ?_
    refine s_icmp_ne (tgt := 39) dX12_ahead_23 rfl (fun c1 => ?_) (fun c1 => ?_)
    · have h := o_if_f c1 h
      refine s_mask [true, false] (L' := [some (.ref (o_ad X a0)), none]) rfl ?_
      exact k39 () _ (o_ret h)
    · have h := o_if_t c1 h
      refine s_mask [true, false] (L' := [some (.ref (o_ad X a0)), none]) rfl ?_
      exact dnX12_ahead_j26 hX h0 h kh k39
set_option maxRecDepth 20000 in
theorem dnX12_ahead_j248 {X : o_Cx} (hX : o_ok X) {d : Nat} {b0 : Nat} {y1 : Int32} {μ0 : o_Mem} {q : Unit → o_Mem → Prop} (hb0 : o_is X b0 (.inl 12)) (h : o_Post (fX12_ahead_j248 (o_rf X) b0 y1 μ0) q) : o_Ev X (d + 1) mX12_ahead 248 [none, none] [.int y1, .ref (o_ad X b0)] μ0 (o_QU q) := by
  unfold fX12_ahead_j248 at h
  refine s_putI hX hb0 fwX12_132 rfl dX12_ahead_248 (o_gen h (fun μ1 h => ?_))
  exact s_return rfl dX12_ahead_251 ⟨rfl, o_ret h⟩
set_option maxRecDepth 20000 in
theorem dnX12_ahead_j243 {X : o_Cx} (hX : o_ok X) {d : Nat} {b0 : Nat} {μ0 : o_Mem} {q : Unit → o_Mem → Prop} (hb0 : o_is X b0 (.inl 12)) (h : o_Post (fX12_ahead_j243 (o_rf X) b0 μ0) q) : o_Ev X (d + 1) mX12_ahead 243 [none, none] [.ref (o_ad X b0)] μ0 (o_QU q) := by
  unfold fX12_ahead_j243 at h
  refine s_iconst dX12_ahead_243 kI_4 ?_
  refine s_goto (tgt := 248) dX12_ahead_244 rfl ?_
  refine s_mask [false, false] (L' := [none, none]) rfl ?_
  exact dnX12_ahead_j248 hX hb0 h
set_option maxRecDepth 20000 in
theorem dnX12_ahead_s128 {X : o_Cx} (hX : o_ok X) {d : Nat} {a0 : Nat} {τ128 : Unit} {μ0 : o_Mem} {K : (Nat × (Unit)) → o_Mem → Prop} {Q : Option Value → o_Mem → Prop} (h0 : o_is X a0 (.inl 12)) (h : o_Post (fX12_ahead_s128 (o_rf X) a0 τ128 μ0) K) (kh : ∀ (τ128 : Unit) (μ : o_Mem), K (128, τ128) μ → o_Ev X (d + 1) mX12_ahead 128 [some (.ref (o_ad X a0)), none] [] μ Q) (k183 : ∀ (τ128 : Unit) (μ : o_Mem), K (183, τ128) μ → o_Ev X (d + 1) mX12_ahead 183 [some (.ref (o_ad X a0)), none] [] μ Q) : o_Ev X (d + 1) mX12_ahead 128 [some (.ref (o_ad X a0)), none] [] μ0 Q := by
  unfold fX12_ahead_s128 at h
  refine s_aload_n (i := 0) dX12_ahead_128 rfl rfl ?_
  refine s_aload_n (i := 0) dX12_ahead_129 rfl rfl ?_
  refine s_getI h0 flX12_120 rfl dX12_ahead_130 ?_
  refine s_callVi (C := mX12_byteAt) (As := [.int (μ0.1 a0 14)]) (rest := []) (L0 := [some (.ref (o_ad X a0)), some (.int (μ0.1 a0 14))]) hX h0 clX12_123 dX12_ahead_133 rfl rfl (Nat.le_of_ble_eq_true rfl) (Nat.le_of_ble_eq_true rfl) (dnX12_byteAt hX h0 (o_bdp h)) (fun r1 μ1 h => ?_)
  refine s_callSz (C := mX12_isDigit) (As := [.int r1]) (rest := []) (L0 := [some (.int r1)]) clX12_138 dX12_ahead_136 rfl rfl (Nat.le_of_ble_eq_true rfl) (Nat.le_of_ble_eq_true rfl) (dnX12_isDigit hX  (o_bdp h)) (fun r2 μ2 zr2 h => ?_)
  refine s_if_eq (tgt := 183) dX12_ahead_139 rfl (fun c1 => ?_) (fun c1 => ?_)
  · have h := o_if_t c1 h
    refine s_mask [true, false] (L' := [some (.ref (o_ad X a0)), none]) rfl ?_
    exact k183 () _ (o_ret h)
  · have h := o_if_f c1 h
    refine s_aload_n (i := 0) dX12_ahead_142 rfl rfl ?_
    refine s_ldc (v := 100000) w_7_71 dX12_ahead_143 ?_
    refine s_bipush dX12_ahead_145 kB_10 ?_
    refine s_aload_n (i := 0) dX12_ahead_147 rfl rfl ?_
    refine s_getI h0 flX12_129 rfl dX12_ahead_148 ?_
    refine s_imul dX12_ahead_151 ?_
    refine s_aload_n (i := 0) dX12_ahead_152 rfl rfl ?_
    refine s_aload_n (i := 0) dX12_ahead_153 rfl rfl ?_
    refine s_getI h0 flX12_120 rfl dX12_ahead_154 ?_
    refine s_callVi (C := mX12_byteAt) (As := [.int (μ2.1 a0 14)]) (rest := [.int (10 * (μ2.1 a0 15)), .int 100000, .ref (o_ad X a0)]) (L0 := [some (.ref (o_ad X a0)), some (.int (μ2.1 a0 14))]) hX h0 clX12_123 dX12_ahead_157 rfl rfl (Nat.le_of_ble_eq_true rfl) (Nat.le_of_ble_eq_true rfl) (dnX12_byteAt hX h0 (o_bdp h)) (fun r3 μ3 h => ?_)
    refine s_iadd dX12_ahead_160 ?_
    refine s_bipush dX12_ahead_161 kB_48 ?_
    refine s_isub dX12_ahead_163 ?_
    refine s_min mlX12_142 mst_min mini mco_min (Nat.le_of_ble_eq_true rfl) dX12_ahead_164 ?_
    refine s_putI hX h0 fwX12_129 rfl dX12_ahead_167 (o_gen h (fun μ4 h => ?_))
    refine s_aload_n (i := 0) dX12_ahead_170 rfl rfl ?_
    refine s_dup dX12_ahead_171 rfl ?_
    refine s_getI h0 flX12_120 rfl dX12_ahead_172 ?_
    refine s_iconst dX12_ahead_175 kI_1 ?_
    refine s_iadd dX12_ahead_176 ?_
    refine s_putI hX h0 fwX12_120 rfl dX12_ahead_177 (o_gen h (fun μ5 h => ?_))
    refine s_goto (tgt := 128) dX12_ahead_180 rfl ?_
    refine s_mask [true, false] (L' := [some (.ref (o_ad X a0)), none]) rfl ?_
    exact kh () _ (o_ret h)
set_option maxRecDepth 20000 in
theorem dnX12_ahead_j202 {X : o_Cx} (hX : o_ok X) {d : Nat} {b0 : Nat} {y1 : Int32} {μ0 : o_Mem} {q : Unit → o_Mem → Prop} (hb0 : o_is X b0 (.inl 12)) (h : o_Post (fX12_ahead_j202 (o_rf X) b0 y1 μ0) q) : o_Ev X (d + 1) mX12_ahead 202 [none, none] [.int y1, .ref (o_ad X b0)] μ0 (o_QU q) := by
  unfold fX12_ahead_j202 at h
  refine s_putI hX hb0 fwX12_132 rfl dX12_ahead_202 (o_gen h (fun μ1 h => ?_))
  refine s_goto (tgt := 251) dX12_ahead_205 rfl ?_
  exact s_return rfl dX12_ahead_251 ⟨rfl, o_ret h⟩
set_option maxRecDepth 20000 in
theorem dnX12_ahead_s81 {X : o_Cx} (hX : o_ok X) {d : Nat} {a0 : Nat} {τ81 : Unit} {μ0 : o_Mem} {K : (Nat × (Unit)) → o_Mem → Prop} {Q : Option Value → o_Mem → Prop} (h0 : o_is X a0 (.inl 12)) (h : o_Post (fX12_ahead_s81 (o_rf X) a0 τ81 μ0) K) (kh : ∀ (τ81 : Unit) (μ : o_Mem), K (81, τ81) μ → o_Ev X (d + 1) mX12_ahead 81 [some (.ref (o_ad X a0)), none] [] μ Q) (k108 : ∀ (τ81 : Unit) (μ : o_Mem), K (108, τ81) μ → o_Ev X (d + 1) mX12_ahead 108 [some (.ref (o_ad X a0)), none] [] μ Q) : o_Ev X (d + 1) mX12_ahead 81 [some (.ref (o_ad X a0)), none] [] μ0 Q := by
  unfold fX12_ahead_s81 at h
  refine s_aload_n (i := 0) dX12_ahead_81 rfl rfl ?_
  refine s_aload_n (i := 0) dX12_ahead_82 rfl rfl ?_
  refine s_getI h0 flX12_120 rfl dX12_ahead_83 ?_
  refine s_callVi (C := mX12_byteAt) (As := [.int (μ0.1 a0 14)]) (rest := []) (L0 := [some (.ref (o_ad X a0)), some (.int (μ0.1 a0 14))]) hX h0 clX12_123 dX12_ahead_86 rfl rfl (Nat.le_of_ble_eq_true rfl) (Nat.le_of_ble_eq_true rfl) (dnX12_byteAt hX h0 (o_bdp h)) (fun r1 μ1 h => ?_)
  refine s_callSz (C := mX12_isSmall) (As := [.int r1]) (rest := []) (L0 := [some (.int r1)]) clX12_135 dX12_ahead_89 rfl rfl (Nat.le_of_ble_eq_true rfl) (Nat.le_of_ble_eq_true rfl) (dnX12_isSmall hX  (o_bdp h)) (fun r2 μ2 zr2 h => ?_)
  refine s_if_eq (tgt := 108) dX12_ahead_92 rfl (fun c1 => ?_) (fun c1 => ?_)
  · have h := o_if_t c1 h
    refine s_mask [true, false] (L' := [some (.ref (o_ad X a0)), none]) rfl ?_
    exact k108 () _ (o_ret h)
  · have h := o_if_f c1 h
    refine s_aload_n (i := 0) dX12_ahead_95 rfl rfl ?_
    refine s_dup dX12_ahead_96 rfl ?_
    refine s_getI h0 flX12_120 rfl dX12_ahead_97 ?_
    refine s_iconst dX12_ahead_100 kI_1 ?_
    refine s_iadd dX12_ahead_101 ?_
    refine s_putI hX h0 fwX12_120 rfl dX12_ahead_102 (o_gen h (fun μ3 h => ?_))
    refine s_goto (tgt := 81) dX12_ahead_105 rfl ?_
    refine s_mask [true, false] (L' := [some (.ref (o_ad X a0)), none]) rfl ?_
    exact kh () _ (o_ret h)
set_option maxRecDepth 20000 in
theorem dnX12_ahead {X : o_Cx} (hX : o_ok X) {d : Nat} {a0 : Nat} {μ0 : o_Mem} {q : Unit → o_Mem → Prop} (h0 : o_is X a0 (.inl 12)) (h : o_Post (fX12_ahead (o_rf X) a0 μ0) q) : o_Ev X (d + 1) mX12_ahead 0 [some (.ref (o_ad X a0)), none] [] μ0 (o_QU q) := by
  unfold fX12_ahead at h
  refine s_mask [true, false] (L' := [some (.ref (o_ad X a0)), none]) rfl ?_
  refine o_lp_ev (fun τ0 => [some (.ref (o_ad X a0)), none]) (fun τ0 μ _K h kv ke0 => dnX12_ahead_s0 hX h0 h kv (fun τ0 μ1 h => ?_)) o_fuel () μ0 (o_bdp h)
  · have h := o_if_t rfl (ke0 (39, τ0) μ1 (o_ne rfl) h)
    refine s_aload_n (i := 0) dX12_ahead_39 rfl rfl ?_
    refine s_aload_n (i := 0) dX12_ahead_40 rfl rfl ?_
    refine s_getI h0 flX12_120 rfl dX12_ahead_41 ?_
    refine s_putI hX h0 fwX12_126 rfl dX12_ahead_44 (o_gen h (fun μ2 h => ?_))
    refine s_aload_n (i := 0) dX12_ahead_47 rfl rfl ?_
    refine s_aload_n (i := 0) dX12_ahead_48 rfl rfl ?_
    refine s_getI h0 flX12_120 rfl dX12_ahead_49 ?_
    refine s_callVi (C := mX12_byteAt) (As := [.int (μ2.1 a0 14)]) (rest := []) (L0 := [some (.ref (o_ad X a0)), some (.int (μ2.1 a0 14))]) hX h0 clX12_123 dX12_ahead_52 rfl rfl (Nat.le_of_ble_eq_true rfl) (Nat.le_of_ble_eq_true rfl) (dnX12_byteAt hX h0 (o_bdp h)) (fun r1 μ3 h => ?_)
    refine s_istore_n (i := 1) dX12_ahead_55 rfl (Nat.le_of_ble_eq_true rfl) rfl ?_
    refine s_aload_n (i := 0) dX12_ahead_56 rfl rfl ?_
    refine s_iload_n (i := 1) dX12_ahead_57 rfl rfl ?_
    refine s_putI hX h0 fwX12_129 rfl dX12_ahead_58 (o_gen h (fun μ4 h => ?_))
    refine s_iload_n (i := 1) dX12_ahead_61 rfl rfl ?_
    refine s_iconst dX12_ahead_62 kI_m1 ?_
    refine s_icmp_ne (tgt := 74) dX12_ahead_63 rfl (fun c1 => ?_) (fun c1 => ?_)
    · have h := o_if_f c1 h
      refine s_iload_n (i := 1) dX12_ahead_74 rfl rfl ?_
      refine s_callSz (C := mX12_isSmall) (As := [.int r1]) (rest := []) (L0 := [some (.int r1)]) clX12_135 dX12_ahead_75 rfl rfl (Nat.le_of_ble_eq_true rfl) (Nat.le_of_ble_eq_true rfl) (dnX12_isSmall hX  (o_bdp h)) (fun r2 μ5 zr2 h => ?_)
      refine s_if_eq (tgt := 116) dX12_ahead_78 rfl (fun c1 => ?_) (fun c1 => ?_)
      · have h := o_if_t c1 h
        refine s_iload_n (i := 1) dX12_ahead_116 rfl rfl ?_
        refine s_callSz (C := mX12_isDigit) (As := [.int r1]) (rest := []) (L0 := [some (.int r1)]) clX12_138 dX12_ahead_117 rfl rfl (Nat.le_of_ble_eq_true rfl) (Nat.le_of_ble_eq_true rfl) (dnX12_isDigit hX  (o_bdp h)) (fun r3 μ6 zr3 h => ?_)
        refine s_if_eq (tgt := 208) dX12_ahead_120 rfl (fun c1 => ?_) (fun c1 => ?_)
        · have h := o_if_t c1 h
          refine s_aload_n (i := 0) dX12_ahead_208 rfl rfl ?_
          refine s_dup dX12_ahead_209 rfl ?_
          refine s_getI h0 flX12_120 rfl dX12_ahead_210 ?_
          refine s_iconst dX12_ahead_213 kI_1 ?_
          refine s_iadd dX12_ahead_214 ?_
          refine s_putI hX h0 fwX12_120 rfl dX12_ahead_215 (o_gen h (fun μ7 h => ?_))
          refine s_aload_n (i := 0) dX12_ahead_218 rfl rfl ?_
          refine s_iload_n (i := 1) dX12_ahead_219 rfl rfl ?_
          refine s_bipush dX12_ahead_220 kB_59 ?_
          refine s_icmp_eq (tgt := 243) dX12_ahead_222 rfl (fun c1 => ?_) (fun c1 => ?_)
          · have h := o_if_t c1 h
            refine s_mask [false, false] (L' := [none, none]) rfl ?_
            exact dnX12_ahead_j243 hX h0 h
          · have h := o_if_f c1 h
            refine s_iload_n (i := 1) dX12_ahead_225 rfl rfl ?_
            refine s_bipush dX12_ahead_226 kB_60 ?_
            refine s_icmp_eq (tgt := 243) dX12_ahead_228 rfl (fun c1 => ?_) (fun c1 => ?_)
            · have h := o_if_t c1 h
              refine s_mask [false, false] (L' := [none, none]) rfl ?_
              exact dnX12_ahead_j243 hX h0 h
            · have h := o_if_f c1 h
              refine s_iload_n (i := 1) dX12_ahead_231 rfl rfl ?_
              refine s_bipush dX12_ahead_232 kB_62 ?_
              refine s_icmp_eq (tgt := 243) dX12_ahead_234 rfl (fun c1 => ?_) (fun c1 => ?_)
              · have h := o_if_t c1 h
                refine s_mask [false, false] (L' := [none, none]) rfl ?_
                exact dnX12_ahead_j243 hX h0 h
              · have h := o_if_f c1 h
                refine s_iload_n (i := 1) dX12_ahead_237 rfl rfl ?_
                refine s_bipush dX12_ahead_238 kB_61 ?_
                refine s_icmp_ne (tgt := 247) dX12_ahead_240 rfl (fun c1 => ?_) (fun c1 => ?_)
                · have h := o_if_f c1 h
                  refine s_iconst dX12_ahead_247 kI_1 ?_
                  refine s_mask [false, false] (L' := [none, none]) rfl ?_
                  exact dnX12_ahead_j248 hX h0 h
                · have h := o_if_t c1 h
                  refine s_mask [false, false] (L' := [none, none]) rfl ?_
                  exact dnX12_ahead_j243 hX h0 h
        · have h := o_if_f c1 h
          refine s_aload_n (i := 0) dX12_ahead_123 rfl rfl ?_
          refine s_iconst dX12_ahead_124 kI_0 ?_
          refine s_putI hX h0 fwX12_129 rfl dX12_ahead_125 (o_gen h (fun μ8 h => ?_))
          refine s_mask [true, false] (L' := [some (.ref (o_ad X a0)), none]) rfl ?_
          refine o_lp_ev (fun τ128 => [some (.ref (o_ad X a0)), none]) (fun τ128 μ _K h kv ke128 => dnX12_ahead_s128 hX h0 h kv (fun τ128 μ9 h => ?_)) o_fuel () μ8 (o_bdp h)
          · have h := o_if_t rfl (ke128 (183, τ128) μ9 (o_ne rfl) h)
            refine s_aload_n (i := 0) dX12_ahead_183 rfl rfl ?_
            refine s_aload_n (i := 0) dX12_ahead_184 rfl rfl ?_
            refine s_getI h0 flX12_120 rfl dX12_ahead_185 ?_
            refine s_aload_n (i := 0) dX12_ahead_188 rfl rfl ?_
            refine s_getI h0 flX12_126 rfl dX12_ahead_189 ?_
            refine s_isub dX12_ahead_192 ?_
            refine s_iconst dX12_ahead_193 kI_4 ?_
            refine s_icmp_le (tgt := 201) dX12_ahead_194 rfl (fun c1 => ?_) (fun c1 => ?_)
            · have h := o_if_t c1 h
              refine s_iconst dX12_ahead_201 kI_3 ?_
              refine s_mask [false, false] (L' := [none, none]) rfl ?_
              exact dnX12_ahead_j202 hX h0 h
            · have h := o_if_f c1 h
              refine s_iconst dX12_ahead_197 kI_1 ?_
              refine s_goto (tgt := 202) dX12_ahead_198 rfl ?_
              refine s_mask [false, false] (L' := [none, none]) rfl ?_
              exact dnX12_ahead_j202 hX h0 h
      · have h := o_if_f c1 h
        refine s_mask [true, false] (L' := [some (.ref (o_ad X a0)), none]) rfl ?_
        refine o_lp_ev (fun τ81 => [some (.ref (o_ad X a0)), none]) (fun τ81 μ _K h kv ke81 => dnX12_ahead_s81 hX h0 h kv (fun τ81 μ10 h => ?_)) o_fuel () μ5 (o_bdp h)
        · have h := o_if_t rfl (ke81 (108, τ81) μ10 (o_ne rfl) h)
          refine s_aload_n (i := 0) dX12_ahead_108 rfl rfl ?_
          refine s_iconst dX12_ahead_109 kI_2 ?_
          refine s_putI hX h0 fwX12_132 rfl dX12_ahead_110 (o_gen h (fun μ11 h => ?_))
          refine s_goto (tgt := 251) dX12_ahead_113 rfl ?_
          exact s_return rfl dX12_ahead_251 ⟨rfl, o_ret h⟩
    · have h := o_if_t c1 h
      refine s_aload_n (i := 0) dX12_ahead_66 rfl rfl ?_
      refine s_iconst dX12_ahead_67 kI_0 ?_
      refine s_putI hX h0 fwX12_132 rfl dX12_ahead_68 (o_gen h (fun μ12 h => ?_))
      refine s_goto (tgt := 251) dX12_ahead_71 rfl ?_
      exact s_return rfl dX12_ahead_251 ⟨rfl, o_ret h⟩
