theorem dX12_cover_0 : decode cX12_cover 0 = .ok (.iload_n 1, 1) := by decide +kernel
theorem dX12_cover_1 : decode cX12_cover 1 = .ok (.ifCond .lt 22, 3) := by decide +kernel
theorem dX12_cover_4 : decode cX12_cover 4 = .ok (.iload_n 1, 1) := by decide +kernel
theorem dX12_cover_5 : decode cX12_cover 5 = .ok (.aload_n 0, 1) := by decide +kernel
theorem dX12_cover_6 : decode cX12_cover 6 = .ok (.getfield 7, 3) := by decide +kernel
theorem dX12_cover_9 : decode cX12_cover 9 = .ok (.iconst 5, 1) := by decide +kernel
theorem dX12_cover_10 : decode cX12_cover 10 = .ok (.iaload, 1) := by decide +kernel
theorem dX12_cover_11 : decode cX12_cover 11 = .ok (.if_icmp .ge 12, 3) := by decide +kernel
theorem dX12_cover_14 : decode cX12_cover 14 = .ok (.iload_n 2, 1) := by decide +kernel
theorem dX12_cover_15 : decode cX12_cover 15 = .ok (.ifCond .lt 8, 3) := by decide +kernel
theorem dX12_cover_18 : decode cX12_cover 18 = .ok (.iload_n 2, 1) := by decide +kernel
theorem dX12_cover_19 : decode cX12_cover 19 = .ok (.iconst 4, 1) := by decide +kernel
theorem dX12_cover_20 : decode cX12_cover 20 = .ok (.if_icmp .le 11, 3) := by decide +kernel
theorem dX12_cover_23 : decode cX12_cover 23 = .ok (.aload_n 0, 1) := by decide +kernel
theorem dX12_cover_24 : decode cX12_cover 24 = .ok (.iconst 1, 1) := by decide +kernel
theorem dX12_cover_25 : decode cX12_cover 25 = .ok (.invokevirtual 87, 3) := by decide +kernel
theorem dX12_cover_28 : decode cX12_cover 28 = .ok (.goto 18, 3) := by decide +kernel
theorem dX12_cover_31 : decode cX12_cover 31 = .ok (.aload_n 0, 1) := by decide +kernel
theorem dX12_cover_32 : decode cX12_cover 32 = .ok (.aload_n 0, 1) := by decide +kernel
theorem dX12_cover_33 : decode cX12_cover 33 = .ok (.getfield 7, 3) := by decide +kernel
theorem dX12_cover_36 : decode cX12_cover 36 = .ok (.iload_n 1, 1) := by decide +kernel
theorem dX12_cover_37 : decode cX12_cover 37 = .ok (.invokestatic 311, 3) := by decide +kernel
theorem dX12_cover_40 : decode cX12_cover 40 = .ok (.iload_n 2, 1) := by decide +kernel
theorem dX12_cover_41 : decode cX12_cover 41 = .ok (.iadd, 1) := by decide +kernel
theorem dX12_cover_42 : decode cX12_cover 42 = .ok (.iaload, 1) := by decide +kernel
theorem dX12_cover_43 : decode cX12_cover 43 = .ok (.invokevirtual 299, 3) := by decide +kernel
theorem dX12_cover_46 : decode cX12_cover 46 = .ok (.ireturn, 1) := by decide +kernel
noncomputable def fX12_cover_j23 (rf : Nat → Nat → Nat) (a0 : Nat) (μ0 : o_Mem) : Option (Int32 × o_Mem) :=
  o_bd (fX12_refuse rf a0 1 μ0) fun r1 μ1 =>
  some (r1, μ1)
noncomputable def fX12_cover (rf : Nat → Nat → Nat) (a0 : Nat) (x1 : Int32) (x2 : Int32) (μ0 : o_Mem) : Option (Int32 × o_Mem) :=
  if x1 < 0 then (
    fX12_cover_j23 rf a0 μ0)
  else (
    if (μ0.1 (rf a0 0) 5) ≤ x1 then (
      fX12_cover_j23 rf a0 μ0)
    else (
      if x2 < 0 then (
        fX12_cover_j23 rf a0 μ0)
      else (
        if x2 ≤ 4 then (
          o_bd (fX12_coverRow rf x1 μ0) fun r1 μ1 =>
          o_ck (0 ≤ ((r1 + x2)).toInt ∧ ((r1 + x2)).toInt < 3756) <|
          o_bd (fX12_orNone rf a0 (μ1.1 (rf a0 0) ((r1 + x2)).toNatClampNeg) μ1) fun r2 μ2 =>
          some (r2, μ2))
        else (
          fX12_cover_j23 rf a0 μ0))))
set_option maxRecDepth 20000 in
theorem dnX12_cover_j23 {X : o_Cx} (hX : o_ok X) {d : Nat} {a0 : Nat} {μ0 : o_Mem} {q : Int32 → o_Mem → Prop} (h0 : o_is X a0 (.inl 12)) (h : o_Post (fX12_cover_j23 (o_rf X) a0 μ0) q) : o_Ev X (d + 2) mX12_cover 23 [some (.ref (o_ad X a0)), none, none] [] μ0 (o_QI q) := by
  unfold fX12_cover_j23 at h
  refine s_aload_n (i := 0) dX12_cover_23 rfl rfl ?_
  refine s_iconst dX12_cover_24 kI_1 ?_
  refine s_callVi (C := mX12_refuse) (As := [.int 1]) (rest := []) (L0 := [some (.ref (o_ad X a0)), some (.int 1)]) hX h0 clX12_87 dX12_cover_25 rfl rfl (Nat.le_of_ble_eq_true rfl) (Nat.le_of_ble_eq_true rfl) (dnX12_refuse hX h0 (o_bdp h)) (fun r1 μ1 h => ?_)
  refine s_goto (tgt := 46) dX12_cover_28 rfl ?_
  exact s_ireturn rfl dX12_cover_46 ⟨_, rfl, o_ret h⟩
set_option maxRecDepth 20000 in
theorem dnX12_cover {X : o_Cx} (hX : o_ok X) {d : Nat} {a0 : Nat} {x1 : Int32} {x2 : Int32} {μ0 : o_Mem} {q : Int32 → o_Mem → Prop} (h0 : o_is X a0 (.inl 12)) (h : o_Post (fX12_cover (o_rf X) a0 x1 x2 μ0) q) : o_Ev X (d + 2) mX12_cover 0 [some (.ref (o_ad X a0)), some (.int x1), some (.int x2)] [] μ0 (o_QI q) := by
  unfold fX12_cover at h
  refine s_iload_n (i := 1) dX12_cover_0 rfl rfl ?_
  refine s_if_lt (tgt := 23) dX12_cover_1 rfl (fun c1 => ?_) (fun c1 => ?_)
  · have h := o_if_t c1 h
    refine s_mask [true, false, false] (L' := [some (.ref (o_ad X a0)), none, none]) rfl ?_
    exact dnX12_cover_j23 hX h0 h
  · have h := o_if_f c1 h
    refine s_iload_n (i := 1) dX12_cover_4 rfl rfl ?_
    refine s_aload_n (i := 0) dX12_cover_5 rfl rfl ?_
    refine s_getR hX h0 flX12_7 rfl dX12_cover_6 (fun (g1 : o_is X (o_rf X a0 0) (.inr (0, 3756))) => ?_)
    refine s_iconst dX12_cover_9 kI_5 ?_
    refine s_ialdK g1 ⟨by decide, by decide⟩ kN_5 dX12_cover_10 ?_
    refine s_icmp_ge (tgt := 23) dX12_cover_11 rfl (fun c1 => ?_) (fun c1 => ?_)
    · have h := o_if_t c1 h
      refine s_mask [true, false, false] (L' := [some (.ref (o_ad X a0)), none, none]) rfl ?_
      exact dnX12_cover_j23 hX h0 h
    · have h := o_if_f c1 h
      refine s_iload_n (i := 2) dX12_cover_14 rfl rfl ?_
      refine s_if_lt (tgt := 23) dX12_cover_15 rfl (fun c1 => ?_) (fun c1 => ?_)
      · have h := o_if_t c1 h
        refine s_mask [true, false, false] (L' := [some (.ref (o_ad X a0)), none, none]) rfl ?_
        exact dnX12_cover_j23 hX h0 h
      · have h := o_if_f c1 h
        refine s_iload_n (i := 2) dX12_cover_18 rfl rfl ?_
        refine s_iconst dX12_cover_19 kI_4 ?_
        refine s_icmp_le (tgt := 31) dX12_cover_20 rfl (fun c1 => ?_) (fun c1 => ?_)
        · have h := o_if_t c1 h
          refine s_aload_n (i := 0) dX12_cover_31 rfl rfl ?_
          refine s_aload_n (i := 0) dX12_cover_32 rfl rfl ?_
          refine s_getR hX h0 flX12_7 rfl dX12_cover_33 (fun (g2 : o_is X (o_rf X a0 0) (.inr (0, 3756))) => ?_)
          refine s_iload_n (i := 1) dX12_cover_36 rfl rfl ?_
          refine s_callSi (C := mX12_coverRow) (As := [.int x1]) (rest := [.ref (o_ad X (o_rf X a0 0)), .ref (o_ad X a0)]) (L0 := [some (.int x1)]) clX12_311 dX12_cover_37 rfl rfl (Nat.le_of_ble_eq_true rfl) (Nat.le_of_ble_eq_true rfl) (dnX12_coverRow hX  (o_bdp h)) (fun r1 μ1 h => ?_)
          refine s_iload_n (i := 2) dX12_cover_40 rfl rfl ?_
          refine s_iadd dX12_cover_41 ?_
          have hc := o_ck_c h
          have h := o_ck_k h
          refine s_ialdK g2 hc rfl dX12_cover_42 ?_
          refine s_callVi (C := mX12_orNone) (As := [.int (μ1.1 (o_rf X a0 0) ((r1 + x2)).toNatClampNeg)]) (rest := []) (L0 := [some (.ref (o_ad X a0)), some (.int (μ1.1 (o_rf X a0 0) ((r1 + x2)).toNatClampNeg))]) hX h0 clX12_299 dX12_cover_43 rfl rfl (Nat.le_of_ble_eq_true rfl) (Nat.le_of_ble_eq_true rfl) (dnX12_orNone hX h0 (o_bdp h)) (fun r2 μ2 h => ?_)
          exact s_ireturn rfl dX12_cover_46 ⟨_, rfl, o_ret h⟩
        · have h := o_if_f c1 h
          refine s_mask [true, false, false] (L' := [some (.ref (o_ad X a0)), none, none]) rfl ?_
          exact dnX12_cover_j23 hX h0 h
theorem dX12_strikes_0 : decode cX12_strikes 0 = .ok (.aload_n 0, 1) := by decide +kernel
theorem dX12_strikes_1 : decode cX12_strikes 1 = .ok (.iload_n 1, 1) := by decide +kernel
theorem dX12_strikes_2 : decode cX12_strikes 2 = .ok (.i2l, 1) := by decide +kernel
theorem dX12_strikes_3 : decode cX12_strikes 3 = .ok (.invokevirtual 284, 3) := by decide +kernel
theorem dX12_strikes_6 : decode cX12_strikes 6 = .ok (.ifCond .eq 21, 3) := by decide +kernel
theorem dX12_strikes_9 : decode cX12_strikes 9 = .ok (.aload_n 0, 1) := by decide +kernel
theorem dX12_strikes_10 : decode cX12_strikes 10 = .ok (.aload_n 0, 1) := by decide +kernel
theorem dX12_strikes_11 : decode cX12_strikes 11 = .ok (.getfield 7, 3) := by decide +kernel
theorem dX12_strikes_14 : decode cX12_strikes 14 = .ok (.iload_n 1, 1) := by decide +kernel
theorem dX12_strikes_15 : decode cX12_strikes 15 = .ok (.invokestatic 287, 3) := by decide +kernel
theorem dX12_strikes_18 : decode cX12_strikes 18 = .ok (.iconst 1, 1) := by decide +kernel
theorem dX12_strikes_19 : decode cX12_strikes 19 = .ok (.iadd, 1) := by decide +kernel
theorem dX12_strikes_20 : decode cX12_strikes 20 = .ok (.iaload, 1) := by decide +kernel
theorem dX12_strikes_21 : decode cX12_strikes 21 = .ok (.invokevirtual 91, 3) := by decide +kernel
theorem dX12_strikes_24 : decode cX12_strikes 24 = .ok (.goto 8, 3) := by decide +kernel
theorem dX12_strikes_27 : decode cX12_strikes 27 = .ok (.aload_n 0, 1) := by decide +kernel
theorem dX12_strikes_28 : decode cX12_strikes 28 = .ok (.iconst 1, 1) := by decide +kernel
theorem dX12_strikes_29 : decode cX12_strikes 29 = .ok (.invokevirtual 87, 3) := by decide +kernel
theorem dX12_strikes_32 : decode cX12_strikes 32 = .ok (.ireturn, 1) := by decide +kernel
noncomputable def fX12_strikes (rf : Nat → Nat → Nat) (a0 : Nat) (x1 : Int32) (μ0 : o_Mem) : Option (Int32 × o_Mem) :=
  o_bd (fX12_isStrike rf a0 x1.toInt64 μ0) fun r1 μ1 =>
  if r1 = 0 then (
    o_bd (fX12_refuse rf a0 1 μ1) fun r2 μ2 =>
    some (r2, μ2))
  else (
    o_bd (fX12_strikeRow rf x1 μ1) fun r3 μ3 =>
    o_ck (0 ≤ ((r3 + 1)).toInt ∧ ((r3 + 1)).toInt < 3756) <|
    o_bd (fX12_gives rf a0 (μ3.1 (rf a0 0) ((r3 + 1)).toNatClampNeg) μ3) fun r4 μ4 =>
    some (r4, μ4))
set_option maxRecDepth 20000 in
theorem dnX12_strikes {X : o_Cx} (hX : o_ok X) {d : Nat} {a0 : Nat} {x1 : Int32} {μ0 : o_Mem} {q : Int32 → o_Mem → Prop} (h0 : o_is X a0 (.inl 12)) (h : o_Post (fX12_strikes (o_rf X) a0 x1 μ0) q) : o_Ev X (d + 1) mX12_strikes 0 [some (.ref (o_ad X a0)), some (.int x1)] [] μ0 (o_QI q) := by
  unfold fX12_strikes at h
  refine s_aload_n (i := 0) dX12_strikes_0 rfl rfl ?_
  refine s_iload_n (i := 1) dX12_strikes_1 rfl rfl ?_
  refine s_i2l dX12_strikes_2 ?_
  refine s_callVz (C := mX12_isStrike) (As := [.long x1.toInt64]) (rest := []) (L0 := [some (.ref (o_ad X a0)), some (.long x1.toInt64), none]) hX h0 clX12_284 dX12_strikes_3 rfl rfl (Nat.le_of_ble_eq_true rfl) (Nat.le_of_ble_eq_true rfl) (dnX12_isStrike hX h0 (o_bdp h)) (fun r1 μ1 zr1 h => ?_)
  refine s_if_eq (tgt := 27) dX12_strikes_6 rfl (fun c1 => ?_) (fun c1 => ?_)
  · have h := o_if_t c1 h
    refine s_aload_n (i := 0) dX12_strikes_27 rfl rfl ?_
    refine s_iconst dX12_strikes_28 kI_1 ?_
    refine s_callVi (C := mX12_refuse) (As := [.int 1]) (rest := []) (L0 := [some (.ref (o_ad X a0)), some (.int 1)]) hX h0 clX12_87 dX12_strikes_29 rfl rfl (Nat.le_of_ble_eq_true rfl) (Nat.le_of_ble_eq_true rfl) (dnX12_refuse hX h0 (o_bdp h)) (fun r2 μ2 h => ?_)
    exact s_ireturn rfl dX12_strikes_32 ⟨_, rfl, o_ret h⟩
  · have h := o_if_f c1 h
    refine s_aload_n (i := 0) dX12_strikes_9 rfl rfl ?_
    refine s_aload_n (i := 0) dX12_strikes_10 rfl rfl ?_
    refine s_getR hX h0 flX12_7 rfl dX12_strikes_11 (fun (g1 : o_is X (o_rf X a0 0) (.inr (0, 3756))) => ?_)
    refine s_iload_n (i := 1) dX12_strikes_14 rfl rfl ?_
    refine s_callSi (C := mX12_strikeRow) (As := [.int x1]) (rest := [.ref (o_ad X (o_rf X a0 0)), .ref (o_ad X a0)]) (L0 := [some (.int x1)]) clX12_287 dX12_strikes_15 rfl rfl (Nat.le_of_ble_eq_true rfl) (Nat.le_of_ble_eq_true rfl) (dnX12_strikeRow hX  (o_bdp h)) (fun r3 μ3 h => ?_)
    refine s_iconst dX12_strikes_18 kI_1 ?_
    refine s_iadd dX12_strikes_19 ?_
    have hc := o_ck_c h
    have h := o_ck_k h
    refine s_ialdK g1 hc rfl dX12_strikes_20 ?_
    refine s_callVi (C := mX12_gives) (As := [.int (μ3.1 (o_rf X a0 0) ((r3 + 1)).toNatClampNeg)]) (rest := []) (L0 := [some (.ref (o_ad X a0)), some (.int (μ3.1 (o_rf X a0 0) ((r3 + 1)).toNatClampNeg))]) hX h0 clX12_91 dX12_strikes_21 rfl rfl (Nat.le_of_ble_eq_true rfl) (Nat.le_of_ble_eq_true rfl) (dnX12_gives hX h0 (o_bdp h)) (fun r4 μ4 h => ?_)
    refine s_goto (tgt := 32) dX12_strikes_24 rfl ?_
    exact s_ireturn rfl dX12_strikes_32 ⟨_, rfl, o_ret h⟩
theorem dX12_doesFit_0 : decode cX12_doesFit 0 = .ok (.iload_n 1, 1) := by decide +kernel
theorem dX12_doesFit_1 : decode cX12_doesFit 1 = .ok (.invokestatic 296, 3) := by decide +kernel
theorem dX12_doesFit_4 : decode cX12_doesFit 4 = .ok (.istore 6, 2) := by decide +kernel
theorem dX12_doesFit_6 : decode cX12_doesFit 6 = .ok (.aload_n 0, 1) := by decide +kernel
theorem dX12_doesFit_7 : decode cX12_doesFit 7 = .ok (.getfield 7, 3) := by decide +kernel
theorem dX12_doesFit_10 : decode cX12_doesFit 10 = .ok (.iload 6, 2) := by decide +kernel
theorem dX12_doesFit_12 : decode cX12_doesFit 12 = .ok (.iconst 1, 1) := by decide +kernel
theorem dX12_doesFit_13 : decode cX12_doesFit 13 = .ok (.iadd, 1) := by decide +kernel
theorem dX12_doesFit_14 : decode cX12_doesFit 14 = .ok (.iaload, 1) := by decide +kernel
theorem dX12_doesFit_15 : decode cX12_doesFit 15 = .ok (.iconst (-1), 1) := by decide +kernel
theorem dX12_doesFit_16 : decode cX12_doesFit 16 = .ok (.if_icmp .eq 17, 3) := by decide +kernel
theorem dX12_doesFit_19 : decode cX12_doesFit 19 = .ok (.iload 4, 2) := by decide +kernel
theorem dX12_doesFit_21 : decode cX12_doesFit 21 = .ok (.aload_n 0, 1) := by decide +kernel
theorem dX12_doesFit_22 : decode cX12_doesFit 22 = .ok (.getfield 7, 3) := by decide +kernel
theorem dX12_doesFit_25 : decode cX12_doesFit 25 = .ok (.iload 6, 2) := by decide +kernel
theorem dX12_doesFit_27 : decode cX12_doesFit 27 = .ok (.iconst 1, 1) := by decide +kernel
theorem dX12_doesFit_28 : decode cX12_doesFit 28 = .ok (.iadd, 1) := by decide +kernel
theorem dX12_doesFit_29 : decode cX12_doesFit 29 = .ok (.iaload, 1) := by decide +kernel
theorem dX12_doesFit_30 : decode cX12_doesFit 30 = .ok (.if_icmp .ge 30, 3) := by decide +kernel
theorem dX12_doesFit_33 : decode cX12_doesFit 33 = .ok (.aload_n 0, 1) := by decide +kernel
theorem dX12_doesFit_34 : decode cX12_doesFit 34 = .ok (.getfield 7, 3) := by decide +kernel
theorem dX12_doesFit_37 : decode cX12_doesFit 37 = .ok (.iload 6, 2) := by decide +kernel
theorem dX12_doesFit_39 : decode cX12_doesFit 39 = .ok (.iconst 2, 1) := by decide +kernel
theorem dX12_doesFit_40 : decode cX12_doesFit 40 = .ok (.iadd, 1) := by decide +kernel
theorem dX12_doesFit_41 : decode cX12_doesFit 41 = .ok (.iaload, 1) := by decide +kernel
theorem dX12_doesFit_42 : decode cX12_doesFit 42 = .ok (.iconst (-1), 1) := by decide +kernel
theorem dX12_doesFit_43 : decode cX12_doesFit 43 = .ok (.if_icmp .eq 19, 3) := by decide +kernel
theorem dX12_doesFit_46 : decode cX12_doesFit 46 = .ok (.iload 4, 2) := by decide +kernel
theorem dX12_doesFit_48 : decode cX12_doesFit 48 = .ok (.aload_n 0, 1) := by decide +kernel
theorem dX12_doesFit_49 : decode cX12_doesFit 49 = .ok (.getfield 7, 3) := by decide +kernel
theorem dX12_doesFit_52 : decode cX12_doesFit 52 = .ok (.iload 6, 2) := by decide +kernel
theorem dX12_doesFit_54 : decode cX12_doesFit 54 = .ok (.iconst 2, 1) := by decide +kernel
theorem dX12_doesFit_55 : decode cX12_doesFit 55 = .ok (.iadd, 1) := by decide +kernel
theorem dX12_doesFit_56 : decode cX12_doesFit 56 = .ok (.iaload, 1) := by decide +kernel
theorem dX12_doesFit_57 : decode cX12_doesFit 57 = .ok (.if_icmp .gt 5, 3) := by decide +kernel
theorem dX12_doesFit_60 : decode cX12_doesFit 60 = .ok (.iconst 0, 1) := by decide +kernel
theorem dX12_doesFit_61 : decode cX12_doesFit 61 = .ok (.ireturn, 1) := by decide +kernel
theorem dX12_doesFit_62 : decode cX12_doesFit 62 = .ok (.aload_n 0, 1) := by decide +kernel
theorem dX12_doesFit_63 : decode cX12_doesFit 63 = .ok (.getfield 7, 3) := by decide +kernel
theorem dX12_doesFit_66 : decode cX12_doesFit 66 = .ok (.iload 6, 2) := by decide +kernel
theorem dX12_doesFit_68 : decode cX12_doesFit 68 = .ok (.iconst 3, 1) := by decide +kernel
theorem dX12_doesFit_69 : decode cX12_doesFit 69 = .ok (.iadd, 1) := by decide +kernel
theorem dX12_doesFit_70 : decode cX12_doesFit 70 = .ok (.iaload, 1) := by decide +kernel
theorem dX12_doesFit_71 : decode cX12_doesFit 71 = .ok (.iconst (-1), 1) := by decide +kernel
theorem dX12_doesFit_72 : decode cX12_doesFit 72 = .ok (.if_icmp .eq 17, 3) := by decide +kernel
theorem dX12_doesFit_75 : decode cX12_doesFit 75 = .ok (.aload_n 0, 1) := by decide +kernel
theorem dX12_doesFit_76 : decode cX12_doesFit 76 = .ok (.getfield 7, 3) := by decide +kernel
theorem dX12_doesFit_79 : decode cX12_doesFit 79 = .ok (.iload 6, 2) := by decide +kernel
theorem dX12_doesFit_81 : decode cX12_doesFit 81 = .ok (.iconst 3, 1) := by decide +kernel
theorem dX12_doesFit_82 : decode cX12_doesFit 82 = .ok (.iadd, 1) := by decide +kernel
theorem dX12_doesFit_83 : decode cX12_doesFit 83 = .ok (.iaload, 1) := by decide +kernel
theorem dX12_doesFit_84 : decode cX12_doesFit 84 = .ok (.iload 5, 2) := by decide +kernel
theorem dX12_doesFit_86 : decode cX12_doesFit 86 = .ok (.if_icmp .ne 59, 3) := by decide +kernel
theorem dX12_doesFit_89 : decode cX12_doesFit 89 = .ok (.aload_n 0, 1) := by decide +kernel
theorem dX12_doesFit_90 : decode cX12_doesFit 90 = .ok (.getfield 7, 3) := by decide +kernel
theorem dX12_doesFit_93 : decode cX12_doesFit 93 = .ok (.iload 6, 2) := by decide +kernel
theorem dX12_doesFit_95 : decode cX12_doesFit 95 = .ok (.iconst 4, 1) := by decide +kernel
theorem dX12_doesFit_96 : decode cX12_doesFit 96 = .ok (.iadd, 1) := by decide +kernel
theorem dX12_doesFit_97 : decode cX12_doesFit 97 = .ok (.iaload, 1) := by decide +kernel
theorem dX12_doesFit_98 : decode cX12_doesFit 98 = .ok (.iconst (-1), 1) := by decide +kernel
theorem dX12_doesFit_99 : decode cX12_doesFit 99 = .ok (.if_icmp .eq 16, 3) := by decide +kernel
theorem dX12_doesFit_102 : decode cX12_doesFit 102 = .ok (.aload_n 0, 1) := by decide +kernel
theorem dX12_doesFit_103 : decode cX12_doesFit 103 = .ok (.getfield 7, 3) := by decide +kernel
theorem dX12_doesFit_106 : decode cX12_doesFit 106 = .ok (.iload 6, 2) := by decide +kernel
theorem dX12_doesFit_108 : decode cX12_doesFit 108 = .ok (.iconst 4, 1) := by decide +kernel
theorem dX12_doesFit_109 : decode cX12_doesFit 109 = .ok (.iadd, 1) := by decide +kernel
theorem dX12_doesFit_110 : decode cX12_doesFit 110 = .ok (.iaload, 1) := by decide +kernel
theorem dX12_doesFit_111 : decode cX12_doesFit 111 = .ok (.iload_n 2, 1) := by decide +kernel
theorem dX12_doesFit_112 : decode cX12_doesFit 112 = .ok (.if_icmp .ne 33, 3) := by decide +kernel
theorem dX12_doesFit_115 : decode cX12_doesFit 115 = .ok (.aload_n 0, 1) := by decide +kernel
theorem dX12_doesFit_116 : decode cX12_doesFit 116 = .ok (.getfield 7, 3) := by decide +kernel
theorem dX12_doesFit_119 : decode cX12_doesFit 119 = .ok (.iload 6, 2) := by decide +kernel
theorem dX12_doesFit_121 : decode cX12_doesFit 121 = .ok (.iconst 5, 1) := by decide +kernel
theorem dX12_doesFit_122 : decode cX12_doesFit 122 = .ok (.iadd, 1) := by decide +kernel
theorem dX12_doesFit_123 : decode cX12_doesFit 123 = .ok (.iaload, 1) := by decide +kernel
theorem dX12_doesFit_124 : decode cX12_doesFit 124 = .ok (.iconst (-1), 1) := by decide +kernel
theorem dX12_doesFit_125 : decode cX12_doesFit 125 = .ok (.if_icmp .eq 16, 3) := by decide +kernel
theorem dX12_doesFit_128 : decode cX12_doesFit 128 = .ok (.aload_n 0, 1) := by decide +kernel
theorem dX12_doesFit_129 : decode cX12_doesFit 129 = .ok (.getfield 7, 3) := by decide +kernel
theorem dX12_doesFit_132 : decode cX12_doesFit 132 = .ok (.iload 6, 2) := by decide +kernel
theorem dX12_doesFit_134 : decode cX12_doesFit 134 = .ok (.iconst 5, 1) := by decide +kernel
theorem dX12_doesFit_135 : decode cX12_doesFit 135 = .ok (.iadd, 1) := by decide +kernel
theorem dX12_doesFit_136 : decode cX12_doesFit 136 = .ok (.iaload, 1) := by decide +kernel
theorem dX12_doesFit_137 : decode cX12_doesFit 137 = .ok (.iload_n 3, 1) := by decide +kernel
theorem dX12_doesFit_138 : decode cX12_doesFit 138 = .ok (.if_icmp .ne 7, 3) := by decide +kernel
theorem dX12_doesFit_141 : decode cX12_doesFit 141 = .ok (.iconst 1, 1) := by decide +kernel
theorem dX12_doesFit_142 : decode cX12_doesFit 142 = .ok (.goto 4, 3) := by decide +kernel
theorem dX12_doesFit_145 : decode cX12_doesFit 145 = .ok (.iconst 0, 1) := by decide +kernel
theorem dX12_doesFit_146 : decode cX12_doesFit 146 = .ok (.ireturn, 1) := by decide +kernel
noncomputable def fX12_doesFit_j115 (rf : Nat → Nat → Nat) (a0 : Nat) (x3 : Int32) (x6 : Int32) (μ0 : o_Mem) : Option (Int32 × o_Mem) :=
  o_ck (0 ≤ ((x6 + 5)).toInt ∧ ((x6 + 5)).toInt < 3756) <|
  if (μ0.1 (rf a0 0) ((x6 + 5)).toNatClampNeg) = (-1) then (
    some (1, μ0))
  else (
    o_ck (0 ≤ ((x6 + 5)).toInt ∧ ((x6 + 5)).toInt < 3756) <|
    if (μ0.1 (rf a0 0) ((x6 + 5)).toNatClampNeg) = x3 then (
      some (1, μ0))
    else (
      some (0, μ0)))
noncomputable def fX12_doesFit_j89 (rf : Nat → Nat → Nat) (a0 : Nat) (x2 : Int32) (x3 : Int32) (x6 : Int32) (μ0 : o_Mem) : Option (Int32 × o_Mem) :=
  o_ck (0 ≤ ((x6 + 4)).toInt ∧ ((x6 + 4)).toInt < 3756) <|
  if (μ0.1 (rf a0 0) ((x6 + 4)).toNatClampNeg) = (-1) then (
    fX12_doesFit_j115 rf a0 x3 x6 μ0)
  else (
    o_ck (0 ≤ ((x6 + 4)).toInt ∧ ((x6 + 4)).toInt < 3756) <|
    if (μ0.1 (rf a0 0) ((x6 + 4)).toNatClampNeg) = x2 then (
      fX12_doesFit_j115 rf a0 x3 x6 μ0)
    else (
      some (0, μ0)))
noncomputable def fX12_doesFit_j62 (rf : Nat → Nat → Nat) (a0 : Nat) (x2 : Int32) (x3 : Int32) (x5 : Int32) (x6 : Int32) (μ0 : o_Mem) : Option (Int32 × o_Mem) :=
  o_ck (0 ≤ ((x6 + 3)).toInt ∧ ((x6 + 3)).toInt < 3756) <|
  if (μ0.1 (rf a0 0) ((x6 + 3)).toNatClampNeg) = (-1) then (
    fX12_doesFit_j89 rf a0 x2 x3 x6 μ0)
  else (
    o_ck (0 ≤ ((x6 + 3)).toInt ∧ ((x6 + 3)).toInt < 3756) <|
    if (μ0.1 (rf a0 0) ((x6 + 3)).toNatClampNeg) = x5 then (
      fX12_doesFit_j89 rf a0 x2 x3 x6 μ0)
    else (
      some (0, μ0)))
noncomputable def fX12_doesFit_j33 (rf : Nat → Nat → Nat) (a0 : Nat) (x2 : Int32) (x3 : Int32) (x4 : Int32) (x5 : Int32) (x6 : Int32) (μ0 : o_Mem) : Option (Int32 × o_Mem) :=
  o_ck (0 ≤ ((x6 + 2)).toInt ∧ ((x6 + 2)).toInt < 3756) <|
  if (μ0.1 (rf a0 0) ((x6 + 2)).toNatClampNeg) = (-1) then (
    fX12_doesFit_j62 rf a0 x2 x3 x5 x6 μ0)
  else (
    o_ck (0 ≤ ((x6 + 2)).toInt ∧ ((x6 + 2)).toInt < 3756) <|
    if (μ0.1 (rf a0 0) ((x6 + 2)).toNatClampNeg) < x4 then (
      fX12_doesFit_j62 rf a0 x2 x3 x5 x6 μ0)
    else (
      some (0, μ0)))
noncomputable def fX12_doesFit (rf : Nat → Nat → Nat) (a0 : Nat) (x1 : Int32) (x2 : Int32) (x3 : Int32) (x4 : Int32) (x5 : Int32) (μ0 : o_Mem) : Option (Int32 × o_Mem) :=
  o_bd (fX12_lawRow rf x1 μ0) fun r1 μ1 =>
  o_ck (0 ≤ ((r1 + 1)).toInt ∧ ((r1 + 1)).toInt < 3756) <|
  if (μ1.1 (rf a0 0) ((r1 + 1)).toNatClampNeg) = (-1) then (
    fX12_doesFit_j33 rf a0 x2 x3 x4 x5 r1 μ1)
  else (
    o_ck (0 ≤ ((r1 + 1)).toInt ∧ ((r1 + 1)).toInt < 3756) <|
    if (μ1.1 (rf a0 0) ((r1 + 1)).toNatClampNeg) ≤ x4 then (
      some (0, μ1))
    else (
      fX12_doesFit_j33 rf a0 x2 x3 x4 x5 r1 μ1))
set_option maxRecDepth 20000 in
theorem dnX12_doesFit_j115 {X : o_Cx} (hX : o_ok X) {d : Nat} {a0 : Nat} {x3 : Int32} {x6 : Int32} {μ0 : o_Mem} {q : Int32 → o_Mem → Prop} (h0 : o_is X a0 (.inl 12)) (h : o_Post (fX12_doesFit_j115 (o_rf X) a0 x3 x6 μ0) q) : o_Ev X (d + 1) mX12_doesFit 115 [some (.ref (o_ad X a0)), none, none, some (.int x3), none, none, some (.int x6)] [] μ0 (o_QZ q) := by
  unfold fX12_doesFit_j115 at h
  refine s_aload_n (i := 0) dX12_doesFit_115 rfl rfl ?_
  refine s_getR hX h0 flX12_7 rfl dX12_doesFit_116 (fun (g1 : o_is X (o_rf X a0 0) (.inr (0, 3756))) => ?_)
  refine s_iload dX12_doesFit_119 rfl ?_
  refine s_iconst dX12_doesFit_121 kI_5 ?_
  refine s_iadd dX12_doesFit_122 ?_
  have hc := o_ck_c h
  have h := o_ck_k h
  refine s_ialdK g1 hc rfl dX12_doesFit_123 ?_
  refine s_iconst dX12_doesFit_124 kI_m1 ?_
  refine s_icmp_eq (tgt := 141) dX12_doesFit_125 rfl (fun c1 => ?_) (fun c1 => ?_)
  · have h := o_if_t c1 h
    refine s_iconst dX12_doesFit_141 kI_1 ?_
    refine s_goto (tgt := 146) dX12_doesFit_142 rfl ?_
    exact s_zreturn rfl (Or.inr rfl) dX12_doesFit_146 ⟨_, rfl, (Or.inr rfl), o_ret h⟩
  · have h := o_if_f c1 h
    refine s_aload_n (i := 0) dX12_doesFit_128 rfl rfl ?_
    refine s_getR hX h0 flX12_7 rfl dX12_doesFit_129 (fun (g2 : o_is X (o_rf X a0 0) (.inr (0, 3756))) => ?_)
    refine s_iload dX12_doesFit_132 rfl ?_
    refine s_iconst dX12_doesFit_134 kI_5 ?_
    refine s_iadd dX12_doesFit_135 ?_
    have hc := o_ck_c h
    have h := o_ck_k h
    refine s_ialdK g2 hc rfl dX12_doesFit_136 ?_
    refine s_iload_n (i := 3) dX12_doesFit_137 rfl rfl ?_
    refine s_icmp_ne (tgt := 145) dX12_doesFit_138 rfl (fun c1 => ?_) (fun c1 => ?_)
    · have h := o_if_f c1 h
      refine s_iconst dX12_doesFit_145 kI_0 ?_
      exact s_zreturn rfl (Or.inl rfl) dX12_doesFit_146 ⟨_, rfl, (Or.inl rfl), o_ret h⟩
    · have h := o_if_t c1 h
      refine s_iconst dX12_doesFit_141 kI_1 ?_
      refine s_goto (tgt := 146) dX12_doesFit_142 rfl ?_
      exact s_zreturn rfl (Or.inr rfl) dX12_doesFit_146 ⟨_, rfl, (Or.inr rfl), o_ret h⟩
set_option maxRecDepth 20000 in
theorem dnX12_doesFit_j89 {X : o_Cx} (hX : o_ok X) {d : Nat} {a0 : Nat} {x2 : Int32} {x3 : Int32} {x6 : Int32} {μ0 : o_Mem} {q : Int32 → o_Mem → Prop} (h0 : o_is X a0 (.inl 12)) (h : o_Post (fX12_doesFit_j89 (o_rf X) a0 x2 x3 x6 μ0) q) : o_Ev X (d + 1) mX12_doesFit 89 [some (.ref (o_ad X a0)), none, some (.int x2), some (.int x3), none, none, some (.int x6)] [] μ0 (o_QZ q) := by
  unfold fX12_doesFit_j89 at h
  refine s_aload_n (i := 0) dX12_doesFit_89 rfl rfl ?_
  refine s_getR hX h0 flX12_7 rfl dX12_doesFit_90 (fun (g1 : o_is X (o_rf X a0 0) (.inr (0, 3756))) => ?_)
  refine s_iload dX12_doesFit_93 rfl ?_
  refine s_iconst dX12_doesFit_95 kI_4 ?_
  refine s_iadd dX12_doesFit_96 ?_
  have hc := o_ck_c h
  have h := o_ck_k h
  refine s_ialdK g1 hc rfl dX12_doesFit_97 ?_
  refine s_iconst dX12_doesFit_98 kI_m1 ?_
  refine s_icmp_eq (tgt := 115) dX12_doesFit_99 rfl (fun c1 => ?_) (fun c1 => ?_)
  · have h := o_if_t c1 h
    refine s_mask [true, false, false, true, false, false, true] (L' := [some (.ref (o_ad X a0)), none, none, some (.int x3), none, none, some (.int x6)]) rfl ?_
    exact dnX12_doesFit_j115 hX h0 h
  · have h := o_if_f c1 h
    refine s_aload_n (i := 0) dX12_doesFit_102 rfl rfl ?_
    refine s_getR hX h0 flX12_7 rfl dX12_doesFit_103 (fun (g2 : o_is X (o_rf X a0 0) (.inr (0, 3756))) => ?_)
    refine s_iload dX12_doesFit_106 rfl ?_
    refine s_iconst dX12_doesFit_108 kI_4 ?_
    refine s_iadd dX12_doesFit_109 ?_
    have hc := o_ck_c h
    have h := o_ck_k h
    refine s_ialdK g2 hc rfl dX12_doesFit_110 ?_
    refine s_iload_n (i := 2) dX12_doesFit_111 rfl rfl ?_
    refine s_icmp_ne (tgt := 145) dX12_doesFit_112 rfl (fun c1 => ?_) (fun c1 => ?_)
    · have h := o_if_f c1 h
      refine s_iconst dX12_doesFit_145 kI_0 ?_
      exact s_zreturn rfl (Or.inl rfl) dX12_doesFit_146 ⟨_, rfl, (Or.inl rfl), o_ret h⟩
    · have h := o_if_t c1 h
      refine s_mask [true, false, false, true, false, false, true] (L' := [some (.ref (o_ad X a0)), none, none, some (.int x3), none, none, some (.int x6)]) rfl ?_
      exact dnX12_doesFit_j115 hX h0 h
set_option maxRecDepth 20000 in
theorem dnX12_doesFit_j62 {X : o_Cx} (hX : o_ok X) {d : Nat} {a0 : Nat} {x2 : Int32} {x3 : Int32} {x5 : Int32} {x6 : Int32} {μ0 : o_Mem} {q : Int32 → o_Mem → Prop} (h0 : o_is X a0 (.inl 12)) (h : o_Post (fX12_doesFit_j62 (o_rf X) a0 x2 x3 x5 x6 μ0) q) : o_Ev X (d + 1) mX12_doesFit 62 [some (.ref (o_ad X a0)), none, some (.int x2), some (.int x3), none, some (.int x5), some (.int x6)] [] μ0 (o_QZ q) := by
  unfold fX12_doesFit_j62 at h
  refine s_aload_n (i := 0) dX12_doesFit_62 rfl rfl ?_
  refine s_getR hX h0 flX12_7 rfl dX12_doesFit_63 (fun (g1 : o_is X (o_rf X a0 0) (.inr (0, 3756))) => ?_)
  refine s_iload dX12_doesFit_66 rfl ?_
  refine s_iconst dX12_doesFit_68 kI_3 ?_
  refine s_iadd dX12_doesFit_69 ?_
  have hc := o_ck_c h
  have h := o_ck_k h
  refine s_ialdK g1 hc rfl dX12_doesFit_70 ?_
  refine s_iconst dX12_doesFit_71 kI_m1 ?_
  refine s_icmp_eq (tgt := 89) dX12_doesFit_72 rfl (fun c1 => ?_) (fun c1 => ?_)
  · have h := o_if_t c1 h
    refine s_mask [true, false, true, true, false, false, true] (L' := [some (.ref (o_ad X a0)), none, some (.int x2), some (.int x3), none, none, some (.int x6)]) rfl ?_
    exact dnX12_doesFit_j89 hX h0 h
  · have h := o_if_f c1 h
    refine s_aload_n (i := 0) dX12_doesFit_75 rfl rfl ?_
    refine s_getR hX h0 flX12_7 rfl dX12_doesFit_76 (fun (g2 : o_is X (o_rf X a0 0) (.inr (0, 3756))) => ?_)
    refine s_iload dX12_doesFit_79 rfl ?_
    refine s_iconst dX12_doesFit_81 kI_3 ?_
    refine s_iadd dX12_doesFit_82 ?_
    have hc := o_ck_c h
    have h := o_ck_k h
    refine s_ialdK g2 hc rfl dX12_doesFit_83 ?_
    refine s_iload dX12_doesFit_84 rfl ?_
    refine s_icmp_ne (tgt := 145) dX12_doesFit_86 rfl (fun c1 => ?_) (fun c1 => ?_)
    · have h := o_if_f c1 h
      refine s_iconst dX12_doesFit_145 kI_0 ?_
      exact s_zreturn rfl (Or.inl rfl) dX12_doesFit_146 ⟨_, rfl, (Or.inl rfl), o_ret h⟩
    · have h := o_if_t c1 h
      refine s_mask [true, false, true, true, false, false, true] (L' := [some (.ref (o_ad X a0)), none, some (.int x2), some (.int x3), none, none, some (.int x6)]) rfl ?_
      exact dnX12_doesFit_j89 hX h0 h
set_option maxRecDepth 20000 in
theorem dnX12_doesFit_j33 {X : o_Cx} (hX : o_ok X) {d : Nat} {a0 : Nat} {x2 : Int32} {x3 : Int32} {x4 : Int32} {x5 : Int32} {x6 : Int32} {μ0 : o_Mem} {q : Int32 → o_Mem → Prop} (h0 : o_is X a0 (.inl 12)) (h : o_Post (fX12_doesFit_j33 (o_rf X) a0 x2 x3 x4 x5 x6 μ0) q) : o_Ev X (d + 1) mX12_doesFit 33 [some (.ref (o_ad X a0)), none, some (.int x2), some (.int x3), some (.int x4), some (.int x5), some (.int x6)] [] μ0 (o_QZ q) := by
  unfold fX12_doesFit_j33 at h
  refine s_aload_n (i := 0) dX12_doesFit_33 rfl rfl ?_
  refine s_getR hX h0 flX12_7 rfl dX12_doesFit_34 (fun (g1 : o_is X (o_rf X a0 0) (.inr (0, 3756))) => ?_)
  refine s_iload dX12_doesFit_37 rfl ?_
  refine s_iconst dX12_doesFit_39 kI_2 ?_
  refine s_iadd dX12_doesFit_40 ?_
  have hc := o_ck_c h
  have h := o_ck_k h
  refine s_ialdK g1 hc rfl dX12_doesFit_41 ?_
  refine s_iconst dX12_doesFit_42 kI_m1 ?_
  refine s_icmp_eq (tgt := 62) dX12_doesFit_43 rfl (fun c1 => ?_) (fun c1 => ?_)
  · have h := o_if_t c1 h
    refine s_mask [true, false, true, true, false, true, true] (L' := [some (.ref (o_ad X a0)), none, some (.int x2), some (.int x3), none, some (.int x5), some (.int x6)]) rfl ?_
    exact dnX12_doesFit_j62 hX h0 h
  · have h := o_if_f c1 h
    refine s_iload dX12_doesFit_46 rfl ?_
    refine s_aload_n (i := 0) dX12_doesFit_48 rfl rfl ?_
    refine s_getR hX h0 flX12_7 rfl dX12_doesFit_49 (fun (g2 : o_is X (o_rf X a0 0) (.inr (0, 3756))) => ?_)
    refine s_iload dX12_doesFit_52 rfl ?_
    refine s_iconst dX12_doesFit_54 kI_2 ?_
    refine s_iadd dX12_doesFit_55 ?_
    have hc := o_ck_c h
    have h := o_ck_k h
    refine s_ialdK g2 hc rfl dX12_doesFit_56 ?_
    refine s_icmp_gt (tgt := 62) dX12_doesFit_57 rfl (fun c1 => ?_) (fun c1 => ?_)
    · have h := o_if_t c1 h
      refine s_mask [true, false, true, true, false, true, true] (L' := [some (.ref (o_ad X a0)), none, some (.int x2), some (.int x3), none, some (.int x5), some (.int x6)]) rfl ?_
      exact dnX12_doesFit_j62 hX h0 h
    · have h := o_if_f c1 h
      refine s_iconst dX12_doesFit_60 kI_0 ?_
      exact s_zreturn rfl (Or.inl rfl) dX12_doesFit_61 ⟨_, rfl, (Or.inl rfl), o_ret h⟩
set_option maxRecDepth 20000 in
theorem dnX12_doesFit {X : o_Cx} (hX : o_ok X) {d : Nat} {a0 : Nat} {x1 : Int32} {x2 : Int32} {x3 : Int32} {x4 : Int32} {x5 : Int32} {μ0 : o_Mem} {q : Int32 → o_Mem → Prop} (h0 : o_is X a0 (.inl 12)) (h : o_Post (fX12_doesFit (o_rf X) a0 x1 x2 x3 x4 x5 μ0) q) : o_Ev X (d + 1) mX12_doesFit 0 [some (.ref (o_ad X a0)), some (.int x1), some (.int x2), some (.int x3), some (.int x4), some (.int x5), none] [] μ0 (o_QZ q) := by
  unfold fX12_doesFit at h
  refine s_iload_n (i := 1) dX12_doesFit_0 rfl rfl ?_
  refine s_callSi (C := mX12_lawRow) (As := [.int x1]) (rest := []) (L0 := [some (.int x1)]) clX12_296 dX12_doesFit_1 rfl rfl (Nat.le_of_ble_eq_true rfl) (Nat.le_of_ble_eq_true rfl) (dnX12_lawRow hX  (o_bdp h)) (fun r1 μ1 h => ?_)
  refine s_istore dX12_doesFit_4 (Nat.le_of_ble_eq_true rfl) rfl ?_
  refine s_aload_n (i := 0) dX12_doesFit_6 rfl rfl ?_
  refine s_getR hX h0 flX12_7 rfl dX12_doesFit_7 (fun (g1 : o_is X (o_rf X a0 0) (.inr (0, 3756))) => ?_)
  refine s_iload dX12_doesFit_10 rfl ?_
  refine s_iconst dX12_doesFit_12 kI_1 ?_
  refine s_iadd dX12_doesFit_13 ?_
  have hc := o_ck_c h
  have h := o_ck_k h
  refine s_ialdK g1 hc rfl dX12_doesFit_14 ?_
  refine s_iconst dX12_doesFit_15 kI_m1 ?_
  refine s_icmp_eq (tgt := 33) dX12_doesFit_16 rfl (fun c1 => ?_) (fun c1 => ?_)
  · have h := o_if_t c1 h
    refine s_mask [true, false, true, true, true, true, true] (L' := [some (.ref (o_ad X a0)), none, some (.int x2), some (.int x3), some (.int x4), some (.int x5), some (.int r1)]) rfl ?_
    exact dnX12_doesFit_j33 hX h0 h
  · have h := o_if_f c1 h
    refine s_iload dX12_doesFit_19 rfl ?_
    refine s_aload_n (i := 0) dX12_doesFit_21 rfl rfl ?_
    refine s_getR hX h0 flX12_7 rfl dX12_doesFit_22 (fun (g2 : o_is X (o_rf X a0 0) (.inr (0, 3756))) => ?_)
    refine s_iload dX12_doesFit_25 rfl ?_
    refine s_iconst dX12_doesFit_27 kI_1 ?_
    refine s_iadd dX12_doesFit_28 ?_
    have hc := o_ck_c h
    have h := o_ck_k h
    refine s_ialdK g2 hc rfl dX12_doesFit_29 ?_
    refine s_icmp_ge (tgt := 60) dX12_doesFit_30 rfl (fun c1 => ?_) (fun c1 => ?_)
    · have h := o_if_t c1 h
      refine s_iconst dX12_doesFit_60 kI_0 ?_
      exact s_zreturn rfl (Or.inl rfl) dX12_doesFit_61 ⟨_, rfl, (Or.inl rfl), o_ret h⟩
    · have h := o_if_f c1 h
      refine s_mask [true, false, true, true, true, true, true] (L' := [some (.ref (o_ad X a0)), none, some (.int x2), some (.int x3), some (.int x4), some (.int x5), some (.int r1)]) rfl ?_
      exact dnX12_doesFit_j33 hX h0 h
theorem dX12_firstLaw_0 : decode cX12_firstLaw 0 = .ok (.iconst 0, 1) := by decide +kernel
theorem dX12_firstLaw_1 : decode cX12_firstLaw 1 = .ok (.istore 5, 2) := by decide +kernel
theorem dX12_firstLaw_3 : decode cX12_firstLaw 3 = .ok (.iload 5, 2) := by decide +kernel
theorem dX12_firstLaw_5 : decode cX12_firstLaw 5 = .ok (.aload_n 0, 1) := by decide +kernel
theorem dX12_firstLaw_6 : decode cX12_firstLaw 6 = .ok (.getfield 7, 3) := by decide +kernel
theorem dX12_firstLaw_9 : decode cX12_firstLaw 9 = .ok (.iconst 3, 1) := by decide +kernel
theorem dX12_firstLaw_10 : decode cX12_firstLaw 10 = .ok (.iaload, 1) := by decide +kernel
theorem dX12_firstLaw_11 : decode cX12_firstLaw 11 = .ok (.if_icmp .ge 26, 3) := by decide +kernel
theorem dX12_firstLaw_14 : decode cX12_firstLaw 14 = .ok (.aload_n 0, 1) := by decide +kernel
theorem dX12_firstLaw_15 : decode cX12_firstLaw 15 = .ok (.iload 5, 2) := by decide +kernel
theorem dX12_firstLaw_17 : decode cX12_firstLaw 17 = .ok (.iload_n 1, 1) := by decide +kernel
theorem dX12_firstLaw_18 : decode cX12_firstLaw 18 = .ok (.iload_n 2, 1) := by decide +kernel
theorem dX12_firstLaw_19 : decode cX12_firstLaw 19 = .ok (.iload_n 3, 1) := by decide +kernel
theorem dX12_firstLaw_20 : decode cX12_firstLaw 20 = .ok (.iload 4, 2) := by decide +kernel
theorem dX12_firstLaw_22 : decode cX12_firstLaw 22 = .ok (.invokevirtual 314, 3) := by decide +kernel
theorem dX12_firstLaw_25 : decode cX12_firstLaw 25 = .ok (.ifCond .eq 6, 3) := by decide +kernel
theorem dX12_firstLaw_28 : decode cX12_firstLaw 28 = .ok (.iload 5, 2) := by decide +kernel
theorem dX12_firstLaw_30 : decode cX12_firstLaw 30 = .ok (.ireturn, 1) := by decide +kernel
theorem dX12_firstLaw_31 : decode cX12_firstLaw 31 = .ok (.iinc 5 1, 3) := by decide +kernel
theorem dX12_firstLaw_34 : decode cX12_firstLaw 34 = .ok (.goto (-31), 3) := by decide +kernel
theorem dX12_firstLaw_37 : decode cX12_firstLaw 37 = .ok (.iconst (-1), 1) := by decide +kernel
theorem dX12_firstLaw_38 : decode cX12_firstLaw 38 = .ok (.ireturn, 1) := by decide +kernel
noncomputable def fX12_firstLaw_s3 (rf : Nat → Nat → Nat) (a0 : Nat) (x1 : Int32) (x2 : Int32) (x3 : Int32) (x4 : Int32) (τ3 : Int32) (μ0 : o_Mem) : Option ((Nat × (Int32)) × o_Mem) :=
  if (μ0.1 (rf a0 0) 3) ≤ τ3 then (
    some ((37, 0), μ0))
  else (
    o_bd (fX12_doesFit rf a0 τ3 x1 x2 x3 x4 μ0) fun r1 μ1 =>
    if r1 = 0 then (
      some ((3, (τ3 + 1)), μ1))
    else (
      some ((28, τ3), μ1)))
noncomputable def fX12_firstLaw (rf : Nat → Nat → Nat) (a0 : Nat) (x1 : Int32) (x2 : Int32) (x3 : Int32) (x4 : Int32) (μ0 : o_Mem) : Option (Int32 × o_Mem) :=
  o_bd (o_lp 3 (fX12_firstLaw_s3 rf a0 x1 x2 x3 x4) o_fuel (0 : Int32) μ0) fun ex1 μ1 =>
  if ex1.1 = 28 then (
    some (ex1.2, μ1))
  else
  if ex1.1 = 37 then (
    some ((-1), μ1))
  else
    none
set_option maxRecDepth 20000 in
theorem dnX12_firstLaw_s3 {X : o_Cx} (hX : o_ok X) {d : Nat} {a0 : Nat} {x1 : Int32} {x2 : Int32} {x3 : Int32} {x4 : Int32} {τ3 : Int32} {μ0 : o_Mem} {K : (Nat × (Int32)) → o_Mem → Prop} {Q : Option Value → o_Mem → Prop} (h0 : o_is X a0 (.inl 12)) (h : o_Post (fX12_firstLaw_s3 (o_rf X) a0 x1 x2 x3 x4 τ3 μ0) K) (kh : ∀ (τ3 : Int32) (μ : o_Mem), K (3, τ3) μ → o_Ev X (d + 2) mX12_firstLaw 3 [some (.ref (o_ad X a0)), some (.int x1), some (.int x2), some (.int x3), some (.int x4), some (.int τ3)] [] μ Q) (k28 : ∀ (τ3 : Int32) (μ : o_Mem), K (28, τ3) μ → o_Ev X (d + 2) mX12_firstLaw 28 [none, none, none, none, none, some (.int τ3)] [] μ Q) (k37 : ∀ (τ3 : Int32) (μ : o_Mem), K (37, τ3) μ → o_Ev X (d + 2) mX12_firstLaw 37 [none, none, none, none, none, none] [] μ Q) : o_Ev X (d + 2) mX12_firstLaw 3 [some (.ref (o_ad X a0)), some (.int x1), some (.int x2), some (.int x3), some (.int x4), some (.int τ3)] [] μ0 Q := by
  unfold fX12_firstLaw_s3 at h
  refine s_iload dX12_firstLaw_3 rfl ?_
  refine s_aload_n (i := 0) dX12_firstLaw_5 rfl rfl ?_
  refine s_getR hX h0 flX12_7 rfl dX12_firstLaw_6 (fun (g1 : o_is X (o_rf X a0 0) (.inr (0, 3756))) => ?_)
  refine s_iconst dX12_firstLaw_9 kI_3 ?_
  refine s_ialdK g1 ⟨by decide, by decide⟩ kN_3 dX12_firstLaw_10 ?_
  refine s_icmp_ge (tgt := 37) dX12_firstLaw_11 rfl (fun c1 => ?_) (fun c1 => ?_)
  · have h := o_if_t c1 h
    refine s_mask [false, false, false, false, false, false] (L' := [none, none, none, none, none, none]) rfl ?_
    exact k37 0 _ (o_ret h)
  · have h := o_if_f c1 h
    refine s_aload_n (i := 0) dX12_firstLaw_14 rfl rfl ?_
    refine s_iload dX12_firstLaw_15 rfl ?_
    refine s_iload_n (i := 1) dX12_firstLaw_17 rfl rfl ?_
    refine s_iload_n (i := 2) dX12_firstLaw_18 rfl rfl ?_
    refine s_iload_n (i := 3) dX12_firstLaw_19 rfl rfl ?_
    refine s_iload dX12_firstLaw_20 rfl ?_
    refine s_callVz (C := mX12_doesFit) (As := [.int τ3, .int x1, .int x2, .int x3, .int x4]) (rest := []) (L0 := [some (.ref (o_ad X a0)), some (.int τ3), some (.int x1), some (.int x2), some (.int x3), some (.int x4), none]) hX h0 clX12_314 dX12_firstLaw_22 rfl rfl (Nat.le_of_ble_eq_true rfl) (Nat.le_of_ble_eq_true rfl) (dnX12_doesFit hX h0 (o_bdp h)) (fun r1 μ1 zr1 h => ?_)
    refine s_if_eq (tgt := 31) dX12_firstLaw_25 rfl (fun c1 => ?_) (fun c1 => ?_)
    · have h := o_if_t c1 h
      refine s_iinc (v := (τ3 + 1)) dX12_firstLaw_31 rfl rfl (Nat.le_of_ble_eq_true rfl) rfl ?_
      refine s_goto (tgt := 3) dX12_firstLaw_34 rfl ?_
      refine s_mask [true, true, true, true, true, true] (L' := [some (.ref (o_ad X a0)), some (.int x1), some (.int x2), some (.int x3), some (.int x4), some (.int (τ3 + 1))]) rfl ?_
      exact kh (τ3 + 1) _ (o_ret h)
    · have h := o_if_f c1 h
      refine s_mask [false, false, false, false, false, true] (L' := [none, none, none, none, none, some (.int τ3)]) rfl ?_
      exact k28 τ3 _ (o_ret h)
set_option maxRecDepth 20000 in
theorem dnX12_firstLaw {X : o_Cx} (hX : o_ok X) {d : Nat} {a0 : Nat} {x1 : Int32} {x2 : Int32} {x3 : Int32} {x4 : Int32} {μ0 : o_Mem} {q : Int32 → o_Mem → Prop} (h0 : o_is X a0 (.inl 12)) (h : o_Post (fX12_firstLaw (o_rf X) a0 x1 x2 x3 x4 μ0) q) : o_Ev X (d + 2) mX12_firstLaw 0 [some (.ref (o_ad X a0)), some (.int x1), some (.int x2), some (.int x3), some (.int x4), none] [] μ0 (o_QI q) := by
  unfold fX12_firstLaw at h
  refine s_iconst dX12_firstLaw_0 kI_0 ?_
  refine s_istore dX12_firstLaw_1 (Nat.le_of_ble_eq_true rfl) rfl ?_
  refine s_mask [true, true, true, true, true, true] (L' := [some (.ref (o_ad X a0)), some (.int x1), some (.int x2), some (.int x3), some (.int x4), some (.int 0)]) rfl ?_
  refine o_lp_ev (fun τ3 => [some (.ref (o_ad X a0)), some (.int x1), some (.int x2), some (.int x3), some (.int x4), some (.int τ3)]) (fun τ3 μ _K h kv ke3 => dnX12_firstLaw_s3 hX h0 h kv (fun τ3 μ1 h => ?_) (fun τ3 μ1 h => ?_)) o_fuel 0 μ0 (o_bdp h)
  · have h := o_if_t rfl (ke3 (28, τ3) μ1 (o_ne rfl) h)
    refine s_iload dX12_firstLaw_28 rfl ?_
    exact s_ireturn rfl dX12_firstLaw_30 ⟨_, rfl, o_ret h⟩
  · have h := o_if_t rfl (o_if_f (o_ne rfl) (ke3 (37, τ3) μ1 (o_ne rfl) h))
    refine s_iconst dX12_firstLaw_37 kI_m1 ?_
    exact s_ireturn rfl dX12_firstLaw_38 ⟨_, rfl, o_ret h⟩
theorem dX12_lastLaw_0 : decode cX12_lastLaw 0 = .ok (.aload_n 0, 1) := by decide +kernel
theorem dX12_lastLaw_1 : decode cX12_lastLaw 1 = .ok (.getfield 7, 3) := by decide +kernel
theorem dX12_lastLaw_4 : decode cX12_lastLaw 4 = .ok (.iconst 3, 1) := by decide +kernel
theorem dX12_lastLaw_5 : decode cX12_lastLaw 5 = .ok (.iaload, 1) := by decide +kernel
theorem dX12_lastLaw_6 : decode cX12_lastLaw 6 = .ok (.iconst 1, 1) := by decide +kernel
theorem dX12_lastLaw_7 : decode cX12_lastLaw 7 = .ok (.isub, 1) := by decide +kernel
theorem dX12_lastLaw_8 : decode cX12_lastLaw 8 = .ok (.istore 5, 2) := by decide +kernel
theorem dX12_lastLaw_10 : decode cX12_lastLaw 10 = .ok (.iload 5, 2) := by decide +kernel
theorem dX12_lastLaw_12 : decode cX12_lastLaw 12 = .ok (.ifCond .lt 26, 3) := by decide +kernel
theorem dX12_lastLaw_15 : decode cX12_lastLaw 15 = .ok (.aload_n 0, 1) := by decide +kernel
theorem dX12_lastLaw_16 : decode cX12_lastLaw 16 = .ok (.iload 5, 2) := by decide +kernel
theorem dX12_lastLaw_18 : decode cX12_lastLaw 18 = .ok (.iload_n 1, 1) := by decide +kernel
theorem dX12_lastLaw_19 : decode cX12_lastLaw 19 = .ok (.iload_n 2, 1) := by decide +kernel
theorem dX12_lastLaw_20 : decode cX12_lastLaw 20 = .ok (.iload_n 3, 1) := by decide +kernel
theorem dX12_lastLaw_21 : decode cX12_lastLaw 21 = .ok (.iload 4, 2) := by decide +kernel
theorem dX12_lastLaw_23 : decode cX12_lastLaw 23 = .ok (.invokevirtual 314, 3) := by decide +kernel
theorem dX12_lastLaw_26 : decode cX12_lastLaw 26 = .ok (.ifCond .eq 6, 3) := by decide +kernel
theorem dX12_lastLaw_29 : decode cX12_lastLaw 29 = .ok (.iload 5, 2) := by decide +kernel
theorem dX12_lastLaw_31 : decode cX12_lastLaw 31 = .ok (.ireturn, 1) := by decide +kernel
theorem dX12_lastLaw_32 : decode cX12_lastLaw 32 = .ok (.iinc 5 (-1), 3) := by decide +kernel
theorem dX12_lastLaw_35 : decode cX12_lastLaw 35 = .ok (.goto (-25), 3) := by decide +kernel
theorem dX12_lastLaw_38 : decode cX12_lastLaw 38 = .ok (.iconst (-1), 1) := by decide +kernel
theorem dX12_lastLaw_39 : decode cX12_lastLaw 39 = .ok (.ireturn, 1) := by decide +kernel
noncomputable def fX12_lastLaw_s10 (rf : Nat → Nat → Nat) (a0 : Nat) (x1 : Int32) (x2 : Int32) (x3 : Int32) (x4 : Int32) (τ10 : Int32) (μ0 : o_Mem) : Option ((Nat × (Int32)) × o_Mem) :=
  if τ10 < 0 then (
    some ((38, 0), μ0))
  else (
    o_bd (fX12_doesFit rf a0 τ10 x1 x2 x3 x4 μ0) fun r1 μ1 =>
    if r1 = 0 then (
      some ((10, (τ10 + (-1))), μ1))
    else (
      some ((29, τ10), μ1)))
noncomputable def fX12_lastLaw (rf : Nat → Nat → Nat) (a0 : Nat) (x1 : Int32) (x2 : Int32) (x3 : Int32) (x4 : Int32) (μ0 : o_Mem) : Option (Int32 × o_Mem) :=
  o_bd (o_lp 10 (fX12_lastLaw_s10 rf a0 x1 x2 x3 x4) o_fuel (((μ0.1 (rf a0 0) 3) - 1) : Int32) μ0) fun ex1 μ1 =>
  if ex1.1 = 29 then (
    some (ex1.2, μ1))
  else
  if ex1.1 = 38 then (
    some ((-1), μ1))
  else
    none
set_option maxRecDepth 20000 in
theorem dnX12_lastLaw_s10 {X : o_Cx} (hX : o_ok X) {d : Nat} {a0 : Nat} {x1 : Int32} {x2 : Int32} {x3 : Int32} {x4 : Int32} {τ10 : Int32} {μ0 : o_Mem} {K : (Nat × (Int32)) → o_Mem → Prop} {Q : Option Value → o_Mem → Prop} (h0 : o_is X a0 (.inl 12)) (h : o_Post (fX12_lastLaw_s10 (o_rf X) a0 x1 x2 x3 x4 τ10 μ0) K) (kh : ∀ (τ10 : Int32) (μ : o_Mem), K (10, τ10) μ → o_Ev X (d + 2) mX12_lastLaw 10 [some (.ref (o_ad X a0)), some (.int x1), some (.int x2), some (.int x3), some (.int x4), some (.int τ10)] [] μ Q) (k29 : ∀ (τ10 : Int32) (μ : o_Mem), K (29, τ10) μ → o_Ev X (d + 2) mX12_lastLaw 29 [none, none, none, none, none, some (.int τ10)] [] μ Q) (k38 : ∀ (τ10 : Int32) (μ : o_Mem), K (38, τ10) μ → o_Ev X (d + 2) mX12_lastLaw 38 [none, none, none, none, none, none] [] μ Q) : o_Ev X (d + 2) mX12_lastLaw 10 [some (.ref (o_ad X a0)), some (.int x1), some (.int x2), some (.int x3), some (.int x4), some (.int τ10)] [] μ0 Q := by
  unfold fX12_lastLaw_s10 at h
  refine s_iload dX12_lastLaw_10 rfl ?_
  refine s_if_lt (tgt := 38) dX12_lastLaw_12 rfl (fun c1 => ?_) (fun c1 => ?_)
  · have h := o_if_t c1 h
    refine s_mask [false, false, false, false, false, false] (L' := [none, none, none, none, none, none]) rfl ?_
    exact k38 0 _ (o_ret h)
  · have h := o_if_f c1 h
    refine s_aload_n (i := 0) dX12_lastLaw_15 rfl rfl ?_
    refine s_iload dX12_lastLaw_16 rfl ?_
    refine s_iload_n (i := 1) dX12_lastLaw_18 rfl rfl ?_
    refine s_iload_n (i := 2) dX12_lastLaw_19 rfl rfl ?_
    refine s_iload_n (i := 3) dX12_lastLaw_20 rfl rfl ?_
    refine s_iload dX12_lastLaw_21 rfl ?_
    refine s_callVz (C := mX12_doesFit) (As := [.int τ10, .int x1, .int x2, .int x3, .int x4]) (rest := []) (L0 := [some (.ref (o_ad X a0)), some (.int τ10), some (.int x1), some (.int x2), some (.int x3), some (.int x4), none]) hX h0 clX12_314 dX12_lastLaw_23 rfl rfl (Nat.le_of_ble_eq_true rfl) (Nat.le_of_ble_eq_true rfl) (dnX12_doesFit hX h0 (o_bdp h)) (fun r1 μ1 zr1 h => ?_)
    refine s_if_eq (tgt := 32) dX12_lastLaw_26 rfl (fun c1 => ?_) (fun c1 => ?_)
    · have h := o_if_t c1 h
      refine s_iinc (v := (τ10 + (-1))) dX12_lastLaw_32 rfl rfl (Nat.le_of_ble_eq_true rfl) rfl ?_
      refine s_goto (tgt := 10) dX12_lastLaw_35 rfl ?_
      refine s_mask [true, true, true, true, true, true] (L' := [some (.ref (o_ad X a0)), some (.int x1), some (.int x2), some (.int x3), some (.int x4), some (.int (τ10 + (-1)))]) rfl ?_
      exact kh (τ10 + (-1)) _ (o_ret h)
    · have h := o_if_f c1 h
      refine s_mask [false, false, false, false, false, true] (L' := [none, none, none, none, none, some (.int τ10)]) rfl ?_
      exact k29 τ10 _ (o_ret h)
set_option maxRecDepth 20000 in
theorem dnX12_lastLaw {X : o_Cx} (hX : o_ok X) {d : Nat} {a0 : Nat} {x1 : Int32} {x2 : Int32} {x3 : Int32} {x4 : Int32} {μ0 : o_Mem} {q : Int32 → o_Mem → Prop} (h0 : o_is X a0 (.inl 12)) (h : o_Post (fX12_lastLaw (o_rf X) a0 x1 x2 x3 x4 μ0) q) : o_Ev X (d + 2) mX12_lastLaw 0 [some (.ref (o_ad X a0)), some (.int x1), some (.int x2), some (.int x3), some (.int x4), none] [] μ0 (o_QI q) := by
  unfold fX12_lastLaw at h
  refine s_aload_n (i := 0) dX12_lastLaw_0 rfl rfl ?_
  refine s_getR hX h0 flX12_7 rfl dX12_lastLaw_1 (fun (g1 : o_is X (o_rf X a0 0) (.inr (0, 3756))) => ?_)
  refine s_iconst dX12_lastLaw_4 kI_3 ?_
  refine s_ialdK g1 ⟨by decide, by decide⟩ kN_3 dX12_lastLaw_5 ?_
  refine s_iconst dX12_lastLaw_6 kI_1 ?_
  refine s_isub dX12_lastLaw_7 ?_
  refine s_istore dX12_lastLaw_8 (Nat.le_of_ble_eq_true rfl) rfl ?_
  refine s_mask [true, true, true, true, true, true] (L' := [some (.ref (o_ad X a0)), some (.int x1), some (.int x2), some (.int x3), some (.int x4), some (.int ((μ0.1 (o_rf X a0 0) 3) - 1))]) rfl ?_
  refine o_lp_ev (fun τ10 => [some (.ref (o_ad X a0)), some (.int x1), some (.int x2), some (.int x3), some (.int x4), some (.int τ10)]) (fun τ10 μ _K h kv ke10 => dnX12_lastLaw_s10 hX h0 h kv (fun τ10 μ1 h => ?_) (fun τ10 μ1 h => ?_)) o_fuel ((μ0.1 (o_rf X a0 0) 3) - 1) μ0 (o_bdp h)
  · have h := o_if_t rfl (ke10 (29, τ10) μ1 (o_ne rfl) h)
    refine s_iload dX12_lastLaw_29 rfl ?_
    exact s_ireturn rfl dX12_lastLaw_31 ⟨_, rfl, o_ret h⟩
  · have h := o_if_t rfl (o_if_f (o_ne rfl) (ke10 (38, τ10) μ1 (o_ne rfl) h))
    refine s_iconst dX12_lastLaw_38 kI_m1 ?_
    exact s_ireturn rfl dX12_lastLaw_39 ⟨_, rfl, o_ret h⟩
theorem dX12_strikeBy_0 : decode cX12_strikeBy 0 = .ok (.iload_n 1, 1) := by decide +kernel
theorem dX12_strikeBy_1 : decode cX12_strikeBy 1 = .ok (.iconst (-1), 1) := by decide +kernel
theorem dX12_strikeBy_2 : decode cX12_strikeBy 2 = .ok (.if_icmp .ne 7, 3) := by decide +kernel
theorem dX12_strikeBy_5 : decode cX12_strikeBy 5 = .ok (.iconst (-1), 1) := by decide +kernel
theorem dX12_strikeBy_6 : decode cX12_strikeBy 6 = .ok (.goto 12, 3) := by decide +kernel
theorem dX12_strikeBy_9 : decode cX12_strikeBy 9 = .ok (.aload_n 0, 1) := by decide +kernel
theorem dX12_strikeBy_10 : decode cX12_strikeBy 10 = .ok (.getfield 7, 3) := by decide +kernel
theorem dX12_strikeBy_13 : decode cX12_strikeBy 13 = .ok (.iload_n 1, 1) := by decide +kernel
theorem dX12_strikeBy_14 : decode cX12_strikeBy 14 = .ok (.invokestatic 296, 3) := by decide +kernel
theorem dX12_strikeBy_17 : decode cX12_strikeBy 17 = .ok (.iaload, 1) := by decide +kernel
theorem dX12_strikeBy_18 : decode cX12_strikeBy 18 = .ok (.ireturn, 1) := by decide +kernel
noncomputable def fX12_strikeBy (rf : Nat → Nat → Nat) (a0 : Nat) (x1 : Int32) (μ0 : o_Mem) : Option (Int32 × o_Mem) :=
  if x1 = (-1) then (
    some ((-1), μ0))
  else (
    o_bd (fX12_lawRow rf x1 μ0) fun r1 μ1 =>
    o_ck (0 ≤ (r1).toInt ∧ (r1).toInt < 3756) <|
    some ((μ1.1 (rf a0 0) r1.toNatClampNeg), μ1))
set_option maxRecDepth 20000 in
theorem dnX12_strikeBy {X : o_Cx} (hX : o_ok X) {d : Nat} {a0 : Nat} {x1 : Int32} {μ0 : o_Mem} {q : Int32 → o_Mem → Prop} (h0 : o_is X a0 (.inl 12)) (h : o_Post (fX12_strikeBy (o_rf X) a0 x1 μ0) q) : o_Ev X (d + 1) mX12_strikeBy 0 [some (.ref (o_ad X a0)), some (.int x1)] [] μ0 (o_QI q) := by
  unfold fX12_strikeBy at h
  refine s_iload_n (i := 1) dX12_strikeBy_0 rfl rfl ?_
  refine s_iconst dX12_strikeBy_1 kI_m1 ?_
  refine s_icmp_ne (tgt := 9) dX12_strikeBy_2 rfl (fun c1 => ?_) (fun c1 => ?_)
  · have h := o_if_f c1 h
    refine s_aload_n (i := 0) dX12_strikeBy_9 rfl rfl ?_
    refine s_getR hX h0 flX12_7 rfl dX12_strikeBy_10 (fun (g1 : o_is X (o_rf X a0 0) (.inr (0, 3756))) => ?_)
    refine s_iload_n (i := 1) dX12_strikeBy_13 rfl rfl ?_
    refine s_callSi (C := mX12_lawRow) (As := [.int x1]) (rest := [.ref (o_ad X (o_rf X a0 0))]) (L0 := [some (.int x1)]) clX12_296 dX12_strikeBy_14 rfl rfl (Nat.le_of_ble_eq_true rfl) (Nat.le_of_ble_eq_true rfl) (dnX12_lawRow hX  (o_bdp h)) (fun r1 μ1 h => ?_)
    have hc := o_ck_c h
    have h := o_ck_k h
    refine s_ialdK g1 hc rfl dX12_strikeBy_17 ?_
    exact s_ireturn rfl dX12_strikeBy_18 ⟨_, rfl, o_ret h⟩
  · have h := o_if_t c1 h
    refine s_iconst dX12_strikeBy_5 kI_m1 ?_
    refine s_goto (tgt := 18) dX12_strikeBy_6 rfl ?_
    exact s_ireturn rfl dX12_strikeBy_18 ⟨_, rfl, o_ret h⟩
theorem dX12_sober_0 : decode cX12_sober 0 = .ok (.aload_n 0, 1) := by decide +kernel
theorem dX12_sober_1 : decode cX12_sober 1 = .ok (.aload_n 0, 1) := by decide +kernel
theorem dX12_sober_2 : decode cX12_sober 2 = .ok (.iload_n 1, 1) := by decide +kernel
theorem dX12_sober_3 : decode cX12_sober 3 = .ok (.iload_n 2, 1) := by decide +kernel
theorem dX12_sober_4 : decode cX12_sober 4 = .ok (.iload_n 3, 1) := by decide +kernel
theorem dX12_sober_5 : decode cX12_sober 5 = .ok (.iload 4, 2) := by decide +kernel
theorem dX12_sober_7 : decode cX12_sober 7 = .ok (.invokevirtual 318, 3) := by decide +kernel
theorem dX12_sober_10 : decode cX12_sober 10 = .ok (.invokevirtual 322, 3) := by decide +kernel
theorem dX12_sober_13 : decode cX12_sober 13 = .ok (.ireturn, 1) := by decide +kernel
noncomputable def fX12_sober (rf : Nat → Nat → Nat) (a0 : Nat) (x1 : Int32) (x2 : Int32) (x3 : Int32) (x4 : Int32) (μ0 : o_Mem) : Option (Int32 × o_Mem) :=
  o_bd (fX12_firstLaw rf a0 x1 x2 x3 x4 μ0) fun r1 μ1 =>
  o_bd (fX12_strikeBy rf a0 r1 μ1) fun r2 μ2 =>
  some (r2, μ2)
set_option maxRecDepth 20000 in
theorem dnX12_sober {X : o_Cx} (hX : o_ok X) {d : Nat} {a0 : Nat} {x1 : Int32} {x2 : Int32} {x3 : Int32} {x4 : Int32} {μ0 : o_Mem} {q : Int32 → o_Mem → Prop} (h0 : o_is X a0 (.inl 12)) (h : o_Post (fX12_sober (o_rf X) a0 x1 x2 x3 x4 μ0) q) : o_Ev X (d + 3) mX12_sober 0 [some (.ref (o_ad X a0)), some (.int x1), some (.int x2), some (.int x3), some (.int x4)] [] μ0 (o_QI q) := by
  unfold fX12_sober at h
  refine s_aload_n (i := 0) dX12_sober_0 rfl rfl ?_
  refine s_aload_n (i := 0) dX12_sober_1 rfl rfl ?_
  refine s_iload_n (i := 1) dX12_sober_2 rfl rfl ?_
  refine s_iload_n (i := 2) dX12_sober_3 rfl rfl ?_
  refine s_iload_n (i := 3) dX12_sober_4 rfl rfl ?_
  refine s_iload dX12_sober_5 rfl ?_
  refine s_callVi (C := mX12_firstLaw) (As := [.int x1, .int x2, .int x3, .int x4]) (rest := [.ref (o_ad X a0)]) (L0 := [some (.ref (o_ad X a0)), some (.int x1), some (.int x2), some (.int x3), some (.int x4), none]) hX h0 clX12_318 dX12_sober_7 rfl rfl (Nat.le_of_ble_eq_true rfl) (Nat.le_of_ble_eq_true rfl) (dnX12_firstLaw hX h0 (o_bdp h)) (fun r1 μ1 h => ?_)
  refine s_callVi (C := mX12_strikeBy) (As := [.int r1]) (rest := []) (L0 := [some (.ref (o_ad X a0)), some (.int r1)]) hX h0 clX12_322 dX12_sober_10 rfl rfl (Nat.le_of_ble_eq_true rfl) (Nat.le_of_ble_eq_true rfl) (dnX12_strikeBy hX h0 (o_bdp h)) (fun r2 μ2 h => ?_)
  exact s_ireturn rfl dX12_sober_13 ⟨_, rfl, o_ret h⟩
theorem dX12_drunkFor_0 : decode cX12_drunkFor 0 = .ok (.iload_n 1, 1) := by decide +kernel
theorem dX12_drunkFor_1 : decode cX12_drunkFor 1 = .ok (.iconst (-1), 1) := by decide +kernel
theorem dX12_drunkFor_2 : decode cX12_drunkFor 2 = .ok (.if_icmp .ne 7, 3) := by decide +kernel
theorem dX12_drunkFor_5 : decode cX12_drunkFor 5 = .ok (.iconst (-1), 1) := by decide +kernel
theorem dX12_drunkFor_6 : decode cX12_drunkFor 6 = .ok (.goto 13, 3) := by decide +kernel
theorem dX12_drunkFor_9 : decode cX12_drunkFor 9 = .ok (.iload_n 1, 1) := by decide +kernel
theorem dX12_drunkFor_10 : decode cX12_drunkFor 10 = .ok (.iconst 1, 1) := by decide +kernel
theorem dX12_drunkFor_11 : decode cX12_drunkFor 11 = .ok (.iadd, 1) := by decide +kernel
theorem dX12_drunkFor_12 : decode cX12_drunkFor 12 = .ok (.aload_n 0, 1) := by decide +kernel
theorem dX12_drunkFor_13 : decode cX12_drunkFor 13 = .ok (.getfield 7, 3) := by decide +kernel
theorem dX12_drunkFor_16 : decode cX12_drunkFor 16 = .ok (.iconst 0, 1) := by decide +kernel
theorem dX12_drunkFor_17 : decode cX12_drunkFor 17 = .ok (.iaload, 1) := by decide +kernel
theorem dX12_drunkFor_18 : decode cX12_drunkFor 18 = .ok (.irem, 1) := by decide +kernel
theorem dX12_drunkFor_19 : decode cX12_drunkFor 19 = .ok (.ireturn, 1) := by decide +kernel
noncomputable def fX12_drunkFor (rf : Nat → Nat → Nat) (a0 : Nat) (x1 : Int32) (μ0 : o_Mem) : Option (Int32 × o_Mem) :=
  if x1 = (-1) then (
    some ((-1), μ0))
  else (
    o_ck (¬ (μ0.1 (rf a0 0) 0) = 0) <|
    some (((x1 + 1) - (x1 + 1) / (μ0.1 (rf a0 0) 0) * (μ0.1 (rf a0 0) 0)), μ0))
set_option maxRecDepth 20000 in
theorem dnX12_drunkFor {X : o_Cx} (hX : o_ok X) {d : Nat} {a0 : Nat} {x1 : Int32} {μ0 : o_Mem} {q : Int32 → o_Mem → Prop} (h0 : o_is X a0 (.inl 12)) (h : o_Post (fX12_drunkFor (o_rf X) a0 x1 μ0) q) : o_Ev X (d + 0) mX12_drunkFor 0 [some (.ref (o_ad X a0)), some (.int x1)] [] μ0 (o_QI q) := by
  unfold fX12_drunkFor at h
  refine s_iload_n (i := 1) dX12_drunkFor_0 rfl rfl ?_
  refine s_iconst dX12_drunkFor_1 kI_m1 ?_
  refine s_icmp_ne (tgt := 9) dX12_drunkFor_2 rfl (fun c1 => ?_) (fun c1 => ?_)
  · have h := o_if_f c1 h
    refine s_iload_n (i := 1) dX12_drunkFor_9 rfl rfl ?_
    refine s_iconst dX12_drunkFor_10 kI_1 ?_
    refine s_iadd dX12_drunkFor_11 ?_
    refine s_aload_n (i := 0) dX12_drunkFor_12 rfl rfl ?_
    refine s_getR hX h0 flX12_7 rfl dX12_drunkFor_13 (fun (g1 : o_is X (o_rf X a0 0) (.inr (0, 3756))) => ?_)
    refine s_iconst dX12_drunkFor_16 kI_0 ?_
    refine s_ialdK g1 ⟨by decide, by decide⟩ kN_0 dX12_drunkFor_17 ?_
    refine s_irem dX12_drunkFor_18 (o_ck_c h) ?_
    have h := o_ck_k h
    exact s_ireturn rfl dX12_drunkFor_19 ⟨_, rfl, o_ret h⟩
  · have h := o_if_t c1 h
    refine s_iconst dX12_drunkFor_5 kI_m1 ?_
    refine s_goto (tgt := 19) dX12_drunkFor_6 rfl ?_
    exact s_ireturn rfl dX12_drunkFor_19 ⟨_, rfl, o_ret h⟩
theorem dX12_struck_0 : decode cX12_struck 0 = .ok (.aload_n 0, 1) := by decide +kernel
theorem dX12_struck_1 : decode cX12_struck 1 = .ok (.iload_n 1, 1) := by decide +kernel
theorem dX12_struck_2 : decode cX12_struck 2 = .ok (.iload_n 2, 1) := by decide +kernel
theorem dX12_struck_3 : decode cX12_struck 3 = .ok (.iload_n 3, 1) := by decide +kernel
theorem dX12_struck_4 : decode cX12_struck 4 = .ok (.iload 4, 2) := by decide +kernel
theorem dX12_struck_6 : decode cX12_struck 6 = .ok (.invokevirtual 325, 3) := by decide +kernel
theorem dX12_struck_9 : decode cX12_struck 9 = .ok (.istore 5, 2) := by decide +kernel
theorem dX12_struck_11 : decode cX12_struck 11 = .ok (.aload_n 0, 1) := by decide +kernel
theorem dX12_struck_12 : decode cX12_struck 12 = .ok (.getfield 7, 3) := by decide +kernel
theorem dX12_struck_15 : decode cX12_struck 15 = .ok (.bipush 8, 2) := by decide +kernel
theorem dX12_struck_17 : decode cX12_struck 17 = .ok (.iaload, 1) := by decide +kernel
theorem dX12_struck_18 : decode cX12_struck 18 = .ok (.iconst 1, 1) := by decide +kernel
theorem dX12_struck_19 : decode cX12_struck 19 = .ok (.if_icmp .ne 12, 3) := by decide +kernel
theorem dX12_struck_22 : decode cX12_struck 22 = .ok (.aload_n 0, 1) := by decide +kernel
theorem dX12_struck_23 : decode cX12_struck 23 = .ok (.iload 5, 2) := by decide +kernel
theorem dX12_struck_25 : decode cX12_struck 25 = .ok (.invokevirtual 328, 3) := by decide +kernel
theorem dX12_struck_28 : decode cX12_struck 28 = .ok (.goto 5, 3) := by decide +kernel
theorem dX12_struck_31 : decode cX12_struck 31 = .ok (.iload 5, 2) := by decide +kernel
theorem dX12_struck_33 : decode cX12_struck 33 = .ok (.ireturn, 1) := by decide +kernel
noncomputable def fX12_struck (rf : Nat → Nat → Nat) (a0 : Nat) (x1 : Int32) (x2 : Int32) (x3 : Int32) (x4 : Int32) (μ0 : o_Mem) : Option (Int32 × o_Mem) :=
  o_bd (fX12_sober rf a0 x1 x2 x3 x4 μ0) fun r1 μ1 =>
  if (μ1.1 (rf a0 0) 8) = 1 then (
    o_bd (fX12_drunkFor rf a0 r1 μ1) fun r2 μ2 =>
    some (r2, μ2))
  else (
    some (r1, μ1))
set_option maxRecDepth 20000 in
theorem dnX12_struck {X : o_Cx} (hX : o_ok X) {d : Nat} {a0 : Nat} {x1 : Int32} {x2 : Int32} {x3 : Int32} {x4 : Int32} {μ0 : o_Mem} {q : Int32 → o_Mem → Prop} (h0 : o_is X a0 (.inl 12)) (h : o_Post (fX12_struck (o_rf X) a0 x1 x2 x3 x4 μ0) q) : o_Ev X (d + 4) mX12_struck 0 [some (.ref (o_ad X a0)), some (.int x1), some (.int x2), some (.int x3), some (.int x4), none] [] μ0 (o_QI q) := by
  unfold fX12_struck at h
  refine s_aload_n (i := 0) dX12_struck_0 rfl rfl ?_
  refine s_iload_n (i := 1) dX12_struck_1 rfl rfl ?_
  refine s_iload_n (i := 2) dX12_struck_2 rfl rfl ?_
  refine s_iload_n (i := 3) dX12_struck_3 rfl rfl ?_
  refine s_iload dX12_struck_4 rfl ?_
  refine s_callVi (C := mX12_sober) (As := [.int x1, .int x2, .int x3, .int x4]) (rest := []) (L0 := [some (.ref (o_ad X a0)), some (.int x1), some (.int x2), some (.int x3), some (.int x4)]) hX h0 clX12_325 dX12_struck_6 rfl rfl (Nat.le_of_ble_eq_true rfl) (Nat.le_of_ble_eq_true rfl) (dnX12_sober hX h0 (o_bdp h)) (fun r1 μ1 h => ?_)
  refine s_istore dX12_struck_9 (Nat.le_of_ble_eq_true rfl) rfl ?_
  refine s_aload_n (i := 0) dX12_struck_11 rfl rfl ?_
  refine s_getR hX h0 flX12_7 rfl dX12_struck_12 (fun (g1 : o_is X (o_rf X a0 0) (.inr (0, 3756))) => ?_)
  refine s_bipush dX12_struck_15 kB_8 ?_
  refine s_ialdK g1 ⟨by decide, by decide⟩ kN_8 dX12_struck_17 ?_
  refine s_iconst dX12_struck_18 kI_1 ?_
  refine s_icmp_ne (tgt := 31) dX12_struck_19 rfl (fun c1 => ?_) (fun c1 => ?_)
  · have h := o_if_f c1 h
    refine s_iload dX12_struck_31 rfl ?_
    exact s_ireturn rfl dX12_struck_33 ⟨_, rfl, o_ret h⟩
  · have h := o_if_t c1 h
    refine s_aload_n (i := 0) dX12_struck_22 rfl rfl ?_
    refine s_iload dX12_struck_23 rfl ?_
    refine s_callVi (C := mX12_drunkFor) (As := [.int r1]) (rest := []) (L0 := [some (.ref (o_ad X a0)), some (.int r1)]) hX h0 clX12_328 dX12_struck_25 rfl rfl (Nat.le_of_ble_eq_true rfl) (Nat.le_of_ble_eq_true rfl) (dnX12_drunkFor hX h0 (o_bdp h)) (fun r2 μ2 h => ?_)
    refine s_goto (tgt := 33) dX12_struck_28 rfl ?_
    exact s_ireturn rfl dX12_struck_33 ⟨_, rfl, o_ret h⟩
theorem dX12_posts_0 : decode cX12_posts 0 = .ok (.aload_n 0, 1) := by decide +kernel
theorem dX12_posts_1 : decode cX12_posts 1 = .ok (.getfield 7, 3) := by decide +kernel
theorem dX12_posts_4 : decode cX12_posts 4 = .ok (.iconst 4, 1) := by decide +kernel
theorem dX12_posts_5 : decode cX12_posts 5 = .ok (.iaload, 1) := by decide +kernel
theorem dX12_posts_6 : decode cX12_posts 6 = .ok (.invokestatic 308, 3) := by decide +kernel
theorem dX12_posts_9 : decode cX12_posts 9 = .ok (.istore 5, 2) := by decide +kernel
theorem dX12_posts_11 : decode cX12_posts 11 = .ok (.aload_n 0, 1) := by decide +kernel
theorem dX12_posts_12 : decode cX12_posts 12 = .ok (.getfield 7, 3) := by decide +kernel
theorem dX12_posts_15 : decode cX12_posts 15 = .ok (.iload 5, 2) := by decide +kernel
theorem dX12_posts_17 : decode cX12_posts 17 = .ok (.iload_n 1, 1) := by decide +kernel
theorem dX12_posts_18 : decode cX12_posts 18 = .ok (.iastore, 1) := by decide +kernel
theorem dX12_posts_19 : decode cX12_posts 19 = .ok (.aload_n 0, 1) := by decide +kernel
theorem dX12_posts_20 : decode cX12_posts 20 = .ok (.getfield 7, 3) := by decide +kernel
theorem dX12_posts_23 : decode cX12_posts 23 = .ok (.iload 5, 2) := by decide +kernel
theorem dX12_posts_25 : decode cX12_posts 25 = .ok (.iconst 1, 1) := by decide +kernel
theorem dX12_posts_26 : decode cX12_posts 26 = .ok (.iadd, 1) := by decide +kernel
theorem dX12_posts_27 : decode cX12_posts 27 = .ok (.iload_n 2, 1) := by decide +kernel
theorem dX12_posts_28 : decode cX12_posts 28 = .ok (.iastore, 1) := by decide +kernel
theorem dX12_posts_29 : decode cX12_posts 29 = .ok (.aload_n 0, 1) := by decide +kernel
theorem dX12_posts_30 : decode cX12_posts 30 = .ok (.getfield 7, 3) := by decide +kernel
theorem dX12_posts_33 : decode cX12_posts 33 = .ok (.iload 5, 2) := by decide +kernel
theorem dX12_posts_35 : decode cX12_posts 35 = .ok (.iconst 2, 1) := by decide +kernel
theorem dX12_posts_36 : decode cX12_posts 36 = .ok (.iadd, 1) := by decide +kernel
theorem dX12_posts_37 : decode cX12_posts 37 = .ok (.iload_n 3, 1) := by decide +kernel
theorem dX12_posts_38 : decode cX12_posts 38 = .ok (.iastore, 1) := by decide +kernel
theorem dX12_posts_39 : decode cX12_posts 39 = .ok (.aload_n 0, 1) := by decide +kernel
theorem dX12_posts_40 : decode cX12_posts 40 = .ok (.getfield 7, 3) := by decide +kernel
theorem dX12_posts_43 : decode cX12_posts 43 = .ok (.iload 5, 2) := by decide +kernel
theorem dX12_posts_45 : decode cX12_posts 45 = .ok (.iconst 3, 1) := by decide +kernel
theorem dX12_posts_46 : decode cX12_posts 46 = .ok (.iadd, 1) := by decide +kernel
theorem dX12_posts_47 : decode cX12_posts 47 = .ok (.iload 4, 2) := by decide +kernel
theorem dX12_posts_49 : decode cX12_posts 49 = .ok (.iastore, 1) := by decide +kernel
theorem dX12_posts_50 : decode cX12_posts 50 = .ok (.aload_n 0, 1) := by decide +kernel
theorem dX12_posts_51 : decode cX12_posts 51 = .ok (.getfield 7, 3) := by decide +kernel
theorem dX12_posts_54 : decode cX12_posts 54 = .ok (.iconst 4, 1) := by decide +kernel
theorem dX12_posts_55 : decode cX12_posts 55 = .ok (.dup2, 1) := by decide +kernel
theorem dX12_posts_56 : decode cX12_posts 56 = .ok (.iaload, 1) := by decide +kernel
theorem dX12_posts_57 : decode cX12_posts 57 = .ok (.iconst 1, 1) := by decide +kernel
theorem dX12_posts_58 : decode cX12_posts 58 = .ok (.iadd, 1) := by decide +kernel
theorem dX12_posts_59 : decode cX12_posts 59 = .ok (.iastore, 1) := by decide +kernel
theorem dX12_posts_60 : decode cX12_posts 60 = .ok (.return_, 1) := by decide +kernel
noncomputable def fX12_posts (rf : Nat → Nat → Nat) (a0 : Nat) (x1 : Int32) (x2 : Int32) (x3 : Int32) (x4 : Int32) (μ0 : o_Mem) : Option (Unit × o_Mem) :=
  o_bd (fX12_letterRow rf (μ0.1 (rf a0 0) 4) μ0) fun r1 μ1 =>
  o_ck (0 ≤ (r1).toInt ∧ (r1).toInt < 3756) <|
  o_seq (o_wI μ1 (rf a0 0) r1.toNatClampNeg x1) fun μ2 =>
  o_ck (0 ≤ ((r1 + 1)).toInt ∧ ((r1 + 1)).toInt < 3756) <|
  o_seq (o_wI μ2 (rf a0 0) (((r1 + 1)).toNatClampNeg) x2) fun μ3 =>
  o_ck (0 ≤ ((r1 + 2)).toInt ∧ ((r1 + 2)).toInt < 3756) <|
  o_seq (o_wI μ3 (rf a0 0) (((r1 + 2)).toNatClampNeg) x3) fun μ4 =>
  o_ck (0 ≤ ((r1 + 3)).toInt ∧ ((r1 + 3)).toInt < 3756) <|
  o_seq (o_wI μ4 (rf a0 0) (((r1 + 3)).toNatClampNeg) x4) fun μ5 =>
  o_seq (o_wI μ5 (rf a0 0) 4 ((μ5.1 (rf a0 0) 4) + 1)) fun μ6 =>
  some ((), μ6)
set_option maxRecDepth 20000 in
theorem dnX12_posts {X : o_Cx} (hX : o_ok X) {d : Nat} {a0 : Nat} {x1 : Int32} {x2 : Int32} {x3 : Int32} {x4 : Int32} {μ0 : o_Mem} {q : Unit → o_Mem → Prop} (h0 : o_is X a0 (.inl 12)) (h : o_Post (fX12_posts (o_rf X) a0 x1 x2 x3 x4 μ0) q) : o_Ev X (d + 1) mX12_posts 0 [some (.ref (o_ad X a0)), some (.int x1), some (.int x2), some (.int x3), some (.int x4), none] [] μ0 (o_QU q) := by
  unfold fX12_posts at h
  refine s_aload_n (i := 0) dX12_posts_0 rfl rfl ?_
  refine s_getR hX h0 flX12_7 rfl dX12_posts_1 (fun (g1 : o_is X (o_rf X a0 0) (.inr (0, 3756))) => ?_)
  refine s_iconst dX12_posts_4 kI_4 ?_
  refine s_ialdK g1 ⟨by decide, by decide⟩ kN_4 dX12_posts_5 ?_
  refine s_callSi (C := mX12_letterRow) (As := [.int (μ0.1 (o_rf X a0 0) 4)]) (rest := []) (L0 := [some (.int (μ0.1 (o_rf X a0 0) 4))]) clX12_308 dX12_posts_6 rfl rfl (Nat.le_of_ble_eq_true rfl) (Nat.le_of_ble_eq_true rfl) (dnX12_letterRow hX  (o_bdp h)) (fun r1 μ1 h => ?_)
  refine s_istore dX12_posts_9 (Nat.le_of_ble_eq_true rfl) rfl ?_
  refine s_aload_n (i := 0) dX12_posts_11 rfl rfl ?_
  refine s_getR hX h0 flX12_7 rfl dX12_posts_12 (fun (g2 : o_is X (o_rf X a0 0) (.inr (0, 3756))) => ?_)
  refine s_iload dX12_posts_15 rfl ?_
  refine s_iload_n (i := 1) dX12_posts_17 rfl rfl ?_
  have hc := o_ck_c h
  have h := o_ck_k h
  refine s_iastK hX g2 hc rfl dX12_posts_18 (o_gen h (fun μ2 h => ?_))
  refine s_aload_n (i := 0) dX12_posts_19 rfl rfl ?_
  refine s_getR hX h0 flX12_7 rfl dX12_posts_20 (fun (g3 : o_is X (o_rf X a0 0) (.inr (0, 3756))) => ?_)
  refine s_iload dX12_posts_23 rfl ?_
  refine s_iconst dX12_posts_25 kI_1 ?_
  refine s_iadd dX12_posts_26 ?_
  refine s_iload_n (i := 2) dX12_posts_27 rfl rfl ?_
  have hc := o_ck_c h
  have h := o_ck_k h
  refine s_iastK hX g3 hc rfl dX12_posts_28 (o_gen h (fun μ3 h => ?_))
  refine s_aload_n (i := 0) dX12_posts_29 rfl rfl ?_
  refine s_getR hX h0 flX12_7 rfl dX12_posts_30 (fun (g4 : o_is X (o_rf X a0 0) (.inr (0, 3756))) => ?_)
  refine s_iload dX12_posts_33 rfl ?_
  refine s_iconst dX12_posts_35 kI_2 ?_
  refine s_iadd dX12_posts_36 ?_
  refine s_iload_n (i := 3) dX12_posts_37 rfl rfl ?_
  have hc := o_ck_c h
  have h := o_ck_k h
  refine s_iastK hX g4 hc rfl dX12_posts_38 (o_gen h (fun μ4 h => ?_))
  refine s_aload_n (i := 0) dX12_posts_39 rfl rfl ?_
  refine s_getR hX h0 flX12_7 rfl dX12_posts_40 (fun (g5 : o_is X (o_rf X a0 0) (.inr (0, 3756))) => ?_)
  refine s_iload dX12_posts_43 rfl ?_
  refine s_iconst dX12_posts_45 kI_3 ?_
  refine s_iadd dX12_posts_46 ?_
  refine s_iload dX12_posts_47 rfl ?_
  have hc := o_ck_c h
  have h := o_ck_k h
  refine s_iastK hX g5 hc rfl dX12_posts_49 (o_gen h (fun μ5 h => ?_))
  refine s_aload_n (i := 0) dX12_posts_50 rfl rfl ?_
  refine s_getR hX h0 flX12_7 rfl dX12_posts_51 (fun (g6 : o_is X (o_rf X a0 0) (.inr (0, 3756))) => ?_)
  refine s_iconst dX12_posts_54 kI_4 ?_
  refine s_dup2 dX12_posts_55 rfl rfl ?_
  refine s_ialdK g6 ⟨by decide, by decide⟩ kN_4 dX12_posts_56 ?_
  refine s_iconst dX12_posts_57 kI_1 ?_
  refine s_iadd dX12_posts_58 ?_
  refine s_iastK hX g6 ⟨by decide, by decide⟩ kN_4 dX12_posts_59 (o_gen h (fun μ6 h => ?_))
  exact s_return rfl dX12_posts_60 ⟨rfl, o_ret h⟩
theorem dX12_post_0 : decode cX12_post 0 = .ok (.aload_n 0, 1) := by decide +kernel
theorem dX12_post_1 : decode cX12_post 1 = .ok (.iload_n 1, 1) := by decide +kernel
theorem dX12_post_2 : decode cX12_post 2 = .ok (.iload_n 2, 1) := by decide +kernel
theorem dX12_post_3 : decode cX12_post 3 = .ok (.iload_n 3, 1) := by decide +kernel
theorem dX12_post_4 : decode cX12_post 4 = .ok (.iload 4, 2) := by decide +kernel
theorem dX12_post_6 : decode cX12_post 6 = .ok (.invokevirtual 331, 3) := by decide +kernel
theorem dX12_post_9 : decode cX12_post 9 = .ok (.ifCond .ne 9, 3) := by decide +kernel
theorem dX12_post_12 : decode cX12_post 12 = .ok (.aload_n 0, 1) := by decide +kernel
theorem dX12_post_13 : decode cX12_post 13 = .ok (.iconst 1, 1) := by decide +kernel
theorem dX12_post_14 : decode cX12_post 14 = .ok (.invokevirtual 87, 3) := by decide +kernel
theorem dX12_post_17 : decode cX12_post 17 = .ok (.ireturn, 1) := by decide +kernel
theorem dX12_post_18 : decode cX12_post 18 = .ok (.aload_n 0, 1) := by decide +kernel
theorem dX12_post_19 : decode cX12_post 19 = .ok (.getfield 7, 3) := by decide +kernel
theorem dX12_post_22 : decode cX12_post 22 = .ok (.iconst 4, 1) := by decide +kernel
theorem dX12_post_23 : decode cX12_post 23 = .ok (.iaload, 1) := by decide +kernel
theorem dX12_post_24 : decode cX12_post 24 = .ok (.bipush 12, 2) := by decide +kernel
theorem dX12_post_26 : decode cX12_post 26 = .ok (.if_icmp .ne 9, 3) := by decide +kernel
theorem dX12_post_29 : decode cX12_post 29 = .ok (.aload_n 0, 1) := by decide +kernel
theorem dX12_post_30 : decode cX12_post 30 = .ok (.iconst 4, 1) := by decide +kernel
theorem dX12_post_31 : decode cX12_post 31 = .ok (.invokevirtual 87, 3) := by decide +kernel
theorem dX12_post_34 : decode cX12_post 34 = .ok (.ireturn, 1) := by decide +kernel
theorem dX12_post_35 : decode cX12_post 35 = .ok (.aload_n 0, 1) := by decide +kernel
theorem dX12_post_36 : decode cX12_post 36 = .ok (.iload_n 1, 1) := by decide +kernel
theorem dX12_post_37 : decode cX12_post 37 = .ok (.iload_n 2, 1) := by decide +kernel
theorem dX12_post_38 : decode cX12_post 38 = .ok (.iload_n 3, 1) := by decide +kernel
theorem dX12_post_39 : decode cX12_post 39 = .ok (.iload 4, 2) := by decide +kernel
theorem dX12_post_41 : decode cX12_post 41 = .ok (.invokevirtual 335, 3) := by decide +kernel
theorem dX12_post_44 : decode cX12_post 44 = .ok (.aload_n 0, 1) := by decide +kernel
theorem dX12_post_45 : decode cX12_post 45 = .ok (.aload_n 0, 1) := by decide +kernel
theorem dX12_post_46 : decode cX12_post 46 = .ok (.getfield 7, 3) := by decide +kernel
theorem dX12_post_49 : decode cX12_post 49 = .ok (.iconst 4, 1) := by decide +kernel
theorem dX12_post_50 : decode cX12_post 50 = .ok (.iaload, 1) := by decide +kernel
theorem dX12_post_51 : decode cX12_post 51 = .ok (.invokevirtual 91, 3) := by decide +kernel
theorem dX12_post_54 : decode cX12_post 54 = .ok (.ireturn, 1) := by decide +kernel
noncomputable def fX12_post (rf : Nat → Nat → Nat) (a0 : Nat) (x1 : Int32) (x2 : Int32) (x3 : Int32) (x4 : Int32) (μ0 : o_Mem) : Option (Int32 × o_Mem) :=
  o_bd (fX12_isMail rf a0 x1 x2 x3 x4 μ0) fun r1 μ1 =>
  if r1 = 0 then (
    o_bd (fX12_refuse rf a0 1 μ1) fun r4 μ5 =>
    some (r4, μ5))
  else (
    if (μ1.1 (rf a0 0) 4) = 12 then (
      o_bd (fX12_refuse rf a0 4 μ1) fun r3 μ4 =>
      some (r3, μ4))
    else (
      o_bd (fX12_posts rf a0 x1 x2 x3 x4 μ1) fun _u μ2 =>
      o_bd (fX12_gives rf a0 (μ2.1 (rf a0 0) 4) μ2) fun r2 μ3 =>
      some (r2, μ3)))
set_option maxRecDepth 20000 in
theorem dnX12_post {X : o_Cx} (hX : o_ok X) {d : Nat} {a0 : Nat} {x1 : Int32} {x2 : Int32} {x3 : Int32} {x4 : Int32} {μ0 : o_Mem} {q : Int32 → o_Mem → Prop} (h0 : o_is X a0 (.inl 12)) (h : o_Post (fX12_post (o_rf X) a0 x1 x2 x3 x4 μ0) q) : o_Ev X (d + 3) mX12_post 0 [some (.ref (o_ad X a0)), some (.int x1), some (.int x2), some (.int x3), some (.int x4)] [] μ0 (o_QI q) := by
  unfold fX12_post at h
  refine s_aload_n (i := 0) dX12_post_0 rfl rfl ?_
  refine s_iload_n (i := 1) dX12_post_1 rfl rfl ?_
  refine s_iload_n (i := 2) dX12_post_2 rfl rfl ?_
  refine s_iload_n (i := 3) dX12_post_3 rfl rfl ?_
  refine s_iload dX12_post_4 rfl ?_
  refine s_callVz (C := mX12_isMail) (As := [.int x1, .int x2, .int x3, .int x4]) (rest := []) (L0 := [some (.ref (o_ad X a0)), some (.int x1), some (.int x2), some (.int x3), some (.int x4)]) hX h0 clX12_331 dX12_post_6 rfl rfl (Nat.le_of_ble_eq_true rfl) (Nat.le_of_ble_eq_true rfl) (dnX12_isMail hX h0 (o_bdp h)) (fun r1 μ1 zr1 h => ?_)
  refine s_if_ne (tgt := 18) dX12_post_9 rfl (fun c1 => ?_) (fun c1 => ?_)
  · have h := o_if_f c1 h
    refine s_aload_n (i := 0) dX12_post_18 rfl rfl ?_
    refine s_getR hX h0 flX12_7 rfl dX12_post_19 (fun (g1 : o_is X (o_rf X a0 0) (.inr (0, 3756))) => ?_)
    refine s_iconst dX12_post_22 kI_4 ?_
    refine s_ialdK g1 ⟨by decide, by decide⟩ kN_4 dX12_post_23 ?_
    refine s_bipush dX12_post_24 kB_12 ?_
    refine s_icmp_ne (tgt := 35) dX12_post_26 rfl (fun c1 => ?_) (fun c1 => ?_)
    · have h := o_if_f c1 h
      refine s_aload_n (i := 0) dX12_post_35 rfl rfl ?_
      refine s_iload_n (i := 1) dX12_post_36 rfl rfl ?_
      refine s_iload_n (i := 2) dX12_post_37 rfl rfl ?_
      refine s_iload_n (i := 3) dX12_post_38 rfl rfl ?_
      refine s_iload dX12_post_39 rfl ?_
      refine s_callVu (C := mX12_posts) (As := [.int x1, .int x2, .int x3, .int x4]) (rest := []) (L0 := [some (.ref (o_ad X a0)), some (.int x1), some (.int x2), some (.int x3), some (.int x4), none]) hX h0 clX12_335 dX12_post_41 rfl rfl (Nat.le_of_ble_eq_true rfl) (Nat.le_of_ble_eq_true rfl) (dnX12_posts hX h0 (o_bdp h)) (fun _u μ2 h => ?_)
      refine s_aload_n (i := 0) dX12_post_44 rfl rfl ?_
      refine s_aload_n (i := 0) dX12_post_45 rfl rfl ?_
      refine s_getR hX h0 flX12_7 rfl dX12_post_46 (fun (g2 : o_is X (o_rf X a0 0) (.inr (0, 3756))) => ?_)
      refine s_iconst dX12_post_49 kI_4 ?_
      refine s_ialdK g2 ⟨by decide, by decide⟩ kN_4 dX12_post_50 ?_
      refine s_callVi (C := mX12_gives) (As := [.int (μ2.1 (o_rf X a0 0) 4)]) (rest := []) (L0 := [some (.ref (o_ad X a0)), some (.int (μ2.1 (o_rf X a0 0) 4))]) hX h0 clX12_91 dX12_post_51 rfl rfl (Nat.le_of_ble_eq_true rfl) (Nat.le_of_ble_eq_true rfl) (dnX12_gives hX h0 (o_bdp h)) (fun r2 μ3 h => ?_)
      exact s_ireturn rfl dX12_post_54 ⟨_, rfl, o_ret h⟩
    · have h := o_if_t c1 h
      refine s_aload_n (i := 0) dX12_post_29 rfl rfl ?_
      refine s_iconst dX12_post_30 kI_4 ?_
      refine s_callVi (C := mX12_refuse) (As := [.int 4]) (rest := []) (L0 := [some (.ref (o_ad X a0)), some (.int 4)]) hX h0 clX12_87 dX12_post_31 rfl rfl (Nat.le_of_ble_eq_true rfl) (Nat.le_of_ble_eq_true rfl) (dnX12_refuse hX h0 (o_bdp h)) (fun r3 μ4 h => ?_)
      exact s_ireturn rfl dX12_post_34 ⟨_, rfl, o_ret h⟩
  · have h := o_if_t c1 h
    refine s_aload_n (i := 0) dX12_post_12 rfl rfl ?_
    refine s_iconst dX12_post_13 kI_1 ?_
    refine s_callVi (C := mX12_refuse) (As := [.int 1]) (rest := []) (L0 := [some (.ref (o_ad X a0)), some (.int 1)]) hX h0 clX12_87 dX12_post_14 rfl rfl (Nat.le_of_ble_eq_true rfl) (Nat.le_of_ble_eq_true rfl) (dnX12_refuse hX h0 (o_bdp h)) (fun r4 μ5 h => ?_)
    exact s_ireturn rfl dX12_post_17 ⟨_, rfl, o_ret h⟩
theorem dX12_brings_0 : decode cX12_brings 0 = .ok (.aload_n 0, 1) := by decide +kernel
theorem dX12_brings_1 : decode cX12_brings 1 = .ok (.getfield 7, 3) := by decide +kernel
theorem dX12_brings_4 : decode cX12_brings 4 = .ok (.iconst 5, 1) := by decide +kernel
theorem dX12_brings_5 : decode cX12_brings 5 = .ok (.iaload, 1) := by decide +kernel
theorem dX12_brings_6 : decode cX12_brings 6 = .ok (.invokestatic 311, 3) := by decide +kernel
theorem dX12_brings_9 : decode cX12_brings 9 = .ok (.istore_n 2, 1) := by decide +kernel
theorem dX12_brings_10 : decode cX12_brings 10 = .ok (.iload_n 1, 1) := by decide +kernel
theorem dX12_brings_11 : decode cX12_brings 11 = .ok (.invokestatic 308, 3) := by decide +kernel
theorem dX12_brings_14 : decode cX12_brings 14 = .ok (.istore_n 3, 1) := by decide +kernel
theorem dX12_brings_15 : decode cX12_brings 15 = .ok (.iconst 0, 1) := by decide +kernel
theorem dX12_brings_16 : decode cX12_brings 16 = .ok (.istore 4, 2) := by decide +kernel
theorem dX12_brings_18 : decode cX12_brings 18 = .ok (.iload 4, 2) := by decide +kernel
theorem dX12_brings_20 : decode cX12_brings 20 = .ok (.iconst 4, 1) := by decide +kernel
theorem dX12_brings_21 : decode cX12_brings 21 = .ok (.if_icmp .ge 27, 3) := by decide +kernel
theorem dX12_brings_24 : decode cX12_brings 24 = .ok (.aload_n 0, 1) := by decide +kernel
theorem dX12_brings_25 : decode cX12_brings 25 = .ok (.getfield 7, 3) := by decide +kernel
theorem dX12_brings_28 : decode cX12_brings 28 = .ok (.iload_n 2, 1) := by decide +kernel
theorem dX12_brings_29 : decode cX12_brings 29 = .ok (.iload 4, 2) := by decide +kernel
theorem dX12_brings_31 : decode cX12_brings 31 = .ok (.iadd, 1) := by decide +kernel
theorem dX12_brings_32 : decode cX12_brings 32 = .ok (.aload_n 0, 1) := by decide +kernel
theorem dX12_brings_33 : decode cX12_brings 33 = .ok (.getfield 7, 3) := by decide +kernel
theorem dX12_brings_36 : decode cX12_brings 36 = .ok (.iload_n 3, 1) := by decide +kernel
theorem dX12_brings_37 : decode cX12_brings 37 = .ok (.iload 4, 2) := by decide +kernel
theorem dX12_brings_39 : decode cX12_brings 39 = .ok (.iadd, 1) := by decide +kernel
theorem dX12_brings_40 : decode cX12_brings 40 = .ok (.iaload, 1) := by decide +kernel
theorem dX12_brings_41 : decode cX12_brings 41 = .ok (.iastore, 1) := by decide +kernel
theorem dX12_brings_42 : decode cX12_brings 42 = .ok (.iinc 4 1, 3) := by decide +kernel
theorem dX12_brings_45 : decode cX12_brings 45 = .ok (.goto (-27), 3) := by decide +kernel
theorem dX12_brings_48 : decode cX12_brings 48 = .ok (.aload_n 0, 1) := by decide +kernel
theorem dX12_brings_49 : decode cX12_brings 49 = .ok (.aload_n 0, 1) := by decide +kernel
theorem dX12_brings_50 : decode cX12_brings 50 = .ok (.getfield 7, 3) := by decide +kernel
theorem dX12_brings_53 : decode cX12_brings 53 = .ok (.iload_n 2, 1) := by decide +kernel
theorem dX12_brings_54 : decode cX12_brings 54 = .ok (.iaload, 1) := by decide +kernel
theorem dX12_brings_55 : decode cX12_brings 55 = .ok (.aload_n 0, 1) := by decide +kernel
theorem dX12_brings_56 : decode cX12_brings 56 = .ok (.getfield 7, 3) := by decide +kernel
theorem dX12_brings_59 : decode cX12_brings 59 = .ok (.iload_n 2, 1) := by decide +kernel
theorem dX12_brings_60 : decode cX12_brings 60 = .ok (.iconst 1, 1) := by decide +kernel
theorem dX12_brings_61 : decode cX12_brings 61 = .ok (.iadd, 1) := by decide +kernel
theorem dX12_brings_62 : decode cX12_brings 62 = .ok (.iaload, 1) := by decide +kernel
theorem dX12_brings_63 : decode cX12_brings 63 = .ok (.aload_n 0, 1) := by decide +kernel
theorem dX12_brings_64 : decode cX12_brings 64 = .ok (.getfield 7, 3) := by decide +kernel
theorem dX12_brings_67 : decode cX12_brings 67 = .ok (.iload_n 2, 1) := by decide +kernel
theorem dX12_brings_68 : decode cX12_brings 68 = .ok (.iconst 2, 1) := by decide +kernel
theorem dX12_brings_69 : decode cX12_brings 69 = .ok (.iadd, 1) := by decide +kernel
theorem dX12_brings_70 : decode cX12_brings 70 = .ok (.iaload, 1) := by decide +kernel
theorem dX12_brings_71 : decode cX12_brings 71 = .ok (.aload_n 0, 1) := by decide +kernel
theorem dX12_brings_72 : decode cX12_brings 72 = .ok (.getfield 7, 3) := by decide +kernel
theorem dX12_brings_75 : decode cX12_brings 75 = .ok (.iload_n 2, 1) := by decide +kernel
theorem dX12_brings_76 : decode cX12_brings 76 = .ok (.iconst 3, 1) := by decide +kernel
theorem dX12_brings_77 : decode cX12_brings 77 = .ok (.iadd, 1) := by decide +kernel
theorem dX12_brings_78 : decode cX12_brings 78 = .ok (.iaload, 1) := by decide +kernel
theorem dX12_brings_79 : decode cX12_brings 79 = .ok (.invokevirtual 339, 3) := by decide +kernel
theorem dX12_brings_82 : decode cX12_brings 82 = .ok (.istore 4, 2) := by decide +kernel
theorem dX12_brings_84 : decode cX12_brings 84 = .ok (.aload_n 0, 1) := by decide +kernel
theorem dX12_brings_85 : decode cX12_brings 85 = .ok (.getfield 7, 3) := by decide +kernel
theorem dX12_brings_88 : decode cX12_brings 88 = .ok (.iload_n 2, 1) := by decide +kernel
theorem dX12_brings_89 : decode cX12_brings 89 = .ok (.iconst 4, 1) := by decide +kernel
theorem dX12_brings_90 : decode cX12_brings 90 = .ok (.iadd, 1) := by decide +kernel
theorem dX12_brings_91 : decode cX12_brings 91 = .ok (.iload 4, 2) := by decide +kernel
theorem dX12_brings_93 : decode cX12_brings 93 = .ok (.iastore, 1) := by decide +kernel
theorem dX12_brings_94 : decode cX12_brings 94 = .ok (.aload_n 0, 1) := by decide +kernel
theorem dX12_brings_95 : decode cX12_brings 95 = .ok (.getfield 7, 3) := by decide +kernel
theorem dX12_brings_98 : decode cX12_brings 98 = .ok (.iconst 5, 1) := by decide +kernel
theorem dX12_brings_99 : decode cX12_brings 99 = .ok (.dup2, 1) := by decide +kernel
theorem dX12_brings_100 : decode cX12_brings 100 = .ok (.iaload, 1) := by decide +kernel
theorem dX12_brings_101 : decode cX12_brings 101 = .ok (.iconst 1, 1) := by decide +kernel
theorem dX12_brings_102 : decode cX12_brings 102 = .ok (.iadd, 1) := by decide +kernel
theorem dX12_brings_103 : decode cX12_brings 103 = .ok (.iastore, 1) := by decide +kernel
theorem dX12_brings_104 : decode cX12_brings 104 = .ok (.aload_n 0, 1) := by decide +kernel
theorem dX12_brings_105 : decode cX12_brings 105 = .ok (.getfield 7, 3) := by decide +kernel
theorem dX12_brings_108 : decode cX12_brings 108 = .ok (.bipush 9, 2) := by decide +kernel
theorem dX12_brings_110 : decode cX12_brings 110 = .ok (.dup2, 1) := by decide +kernel
theorem dX12_brings_111 : decode cX12_brings 111 = .ok (.iaload, 1) := by decide +kernel
theorem dX12_brings_112 : decode cX12_brings 112 = .ok (.iconst 1, 1) := by decide +kernel
theorem dX12_brings_113 : decode cX12_brings 113 = .ok (.iadd, 1) := by decide +kernel
theorem dX12_brings_114 : decode cX12_brings 114 = .ok (.iastore, 1) := by decide +kernel
theorem dX12_brings_115 : decode cX12_brings 115 = .ok (.iload 4, 2) := by decide +kernel
theorem dX12_brings_117 : decode cX12_brings 117 = .ok (.iconst (-1), 1) := by decide +kernel
theorem dX12_brings_118 : decode cX12_brings 118 = .ok (.if_icmp .ne 17, 3) := by decide +kernel
theorem dX12_brings_121 : decode cX12_brings 121 = .ok (.aload_n 0, 1) := by decide +kernel
theorem dX12_brings_122 : decode cX12_brings 122 = .ok (.getfield 7, 3) := by decide +kernel
theorem dX12_brings_125 : decode cX12_brings 125 = .ok (.bipush 10, 2) := by decide +kernel
theorem dX12_brings_127 : decode cX12_brings 127 = .ok (.dup2, 1) := by decide +kernel
theorem dX12_brings_128 : decode cX12_brings 128 = .ok (.iaload, 1) := by decide +kernel
theorem dX12_brings_129 : decode cX12_brings 129 = .ok (.iconst 1, 1) := by decide +kernel
theorem dX12_brings_130 : decode cX12_brings 130 = .ok (.iadd, 1) := by decide +kernel
theorem dX12_brings_131 : decode cX12_brings 131 = .ok (.iastore, 1) := by decide +kernel
theorem dX12_brings_132 : decode cX12_brings 132 = .ok (.goto 39, 3) := by decide +kernel
theorem dX12_brings_135 : decode cX12_brings 135 = .ok (.aload_n 0, 1) := by decide +kernel
theorem dX12_brings_136 : decode cX12_brings 136 = .ok (.getfield 7, 3) := by decide +kernel
theorem dX12_brings_139 : decode cX12_brings 139 = .ok (.bipush 11, 2) := by decide +kernel
theorem dX12_brings_141 : decode cX12_brings 141 = .ok (.dup2, 1) := by decide +kernel
theorem dX12_brings_142 : decode cX12_brings 142 = .ok (.iaload, 1) := by decide +kernel
theorem dX12_brings_143 : decode cX12_brings 143 = .ok (.aload_n 0, 1) := by decide +kernel
theorem dX12_brings_144 : decode cX12_brings 144 = .ok (.getfield 7, 3) := by decide +kernel
theorem dX12_brings_147 : decode cX12_brings 147 = .ok (.iload 4, 2) := by decide +kernel
theorem dX12_brings_149 : decode cX12_brings 149 = .ok (.invokestatic 287, 3) := by decide +kernel
theorem dX12_brings_152 : decode cX12_brings 152 = .ok (.iaload, 1) := by decide +kernel
theorem dX12_brings_153 : decode cX12_brings 153 = .ok (.iadd, 1) := by decide +kernel
theorem dX12_brings_154 : decode cX12_brings 154 = .ok (.iastore, 1) := by decide +kernel
theorem dX12_brings_155 : decode cX12_brings 155 = .ok (.aload_n 0, 1) := by decide +kernel
theorem dX12_brings_156 : decode cX12_brings 156 = .ok (.getfield 7, 3) := by decide +kernel
theorem dX12_brings_159 : decode cX12_brings 159 = .ok (.iload 4, 2) := by decide +kernel
theorem dX12_brings_161 : decode cX12_brings 161 = .ok (.invokestatic 287, 3) := by decide +kernel
theorem dX12_brings_164 : decode cX12_brings 164 = .ok (.iconst 1, 1) := by decide +kernel
theorem dX12_brings_165 : decode cX12_brings 165 = .ok (.iadd, 1) := by decide +kernel
theorem dX12_brings_166 : decode cX12_brings 166 = .ok (.dup2, 1) := by decide +kernel
theorem dX12_brings_167 : decode cX12_brings 167 = .ok (.iaload, 1) := by decide +kernel
theorem dX12_brings_168 : decode cX12_brings 168 = .ok (.iconst 1, 1) := by decide +kernel
theorem dX12_brings_169 : decode cX12_brings 169 = .ok (.iadd, 1) := by decide +kernel
theorem dX12_brings_170 : decode cX12_brings 170 = .ok (.iastore, 1) := by decide +kernel
theorem dX12_brings_171 : decode cX12_brings 171 = .ok (.return_, 1) := by decide +kernel
noncomputable def fX12_brings_s18 (rf : Nat → Nat → Nat) (a0 : Nat) (x2 : Int32) (x3 : Int32) (τ18 : Int32) (μ0 : o_Mem) : Option ((Nat × (Int32)) × o_Mem) :=
  if 4 ≤ τ18 then (
    some ((48, 0), μ0))
  else (
    o_ck (0 ≤ ((x3 + τ18)).toInt ∧ ((x3 + τ18)).toInt < 3756) <|
    o_ck (0 ≤ ((x2 + τ18)).toInt ∧ ((x2 + τ18)).toInt < 3756) <|
    o_seq (o_wI μ0 (rf a0 0) (((x2 + τ18)).toNatClampNeg) (μ0.1 (rf a0 0) ((x3 + τ18)).toNatClampNeg)) fun μ1 =>
    some ((18, (τ18 + 1)), μ1))
noncomputable def fX12_brings (rf : Nat → Nat → Nat) (a0 : Nat) (x1 : Int32) (μ0 : o_Mem) : Option (Unit × o_Mem) :=
  o_bd (fX12_coverRow rf (μ0.1 (rf a0 0) 5) μ0) fun r1 μ1 =>
  o_bd (fX12_letterRow rf x1 μ1) fun r2 μ2 =>
  o_bd (o_lp 18 (fX12_brings_s18 rf a0 r1 r2) o_fuel (0 : Int32) μ2) fun ex3 μ3 =>
  if ex3.1 = 48 then (
    o_ck (0 ≤ (r1).toInt ∧ (r1).toInt < 3756) <|
    o_ck (0 ≤ ((r1 + 1)).toInt ∧ ((r1 + 1)).toInt < 3756) <|
    o_ck (0 ≤ ((r1 + 2)).toInt ∧ ((r1 + 2)).toInt < 3756) <|
    o_ck (0 ≤ ((r1 + 3)).toInt ∧ ((r1 + 3)).toInt < 3756) <|
    o_bd (fX12_struck rf a0 (μ3.1 (rf a0 0) r1.toNatClampNeg) (μ3.1 (rf a0 0) ((r1 + 1)).toNatClampNeg) (μ3.1 (rf a0 0) ((r1 + 2)).toNatClampNeg) (μ3.1 (rf a0 0) ((r1 + 3)).toNatClampNeg) μ3) fun r3 μ4 =>
    o_ck (0 ≤ ((r1 + 4)).toInt ∧ ((r1 + 4)).toInt < 3756) <|
    o_seq (o_wI μ4 (rf a0 0) (((r1 + 4)).toNatClampNeg) r3) fun μ5 =>
    o_seq (o_wI μ5 (rf a0 0) 5 ((μ5.1 (rf a0 0) 5) + 1)) fun μ6 =>
    o_seq (o_wI μ6 (rf a0 0) 9 ((μ6.1 (rf a0 0) 9) + 1)) fun μ7 =>
    if r3 = (-1) then (
      o_seq (o_wI μ7 (rf a0 0) 10 ((μ7.1 (rf a0 0) 10) + 1)) fun μ12 =>
      some ((), μ12))
    else (
      o_bd (fX12_strikeRow rf r3 μ7) fun r4 μ8 =>
      o_ck (0 ≤ (r4).toInt ∧ (r4).toInt < 3756) <|
      o_seq (o_wI μ8 (rf a0 0) 11 ((μ7.1 (rf a0 0) 11) + (μ8.1 (rf a0 0) r4.toNatClampNeg))) fun μ9 =>
      o_bd (fX12_strikeRow rf r3 μ9) fun r5 μ10 =>
      o_ck (0 ≤ ((r5 + 1)).toInt ∧ ((r5 + 1)).toInt < 3756) <|
      o_ck (0 ≤ ((r5 + 1)).toInt ∧ ((r5 + 1)).toInt < 3756) <|
      o_seq (o_wI μ10 (rf a0 0) (((r5 + 1)).toNatClampNeg) ((μ10.1 (rf a0 0) ((r5 + 1)).toNatClampNeg) + 1)) fun μ11 =>
      some ((), μ11)))
  else
    none
set_option maxRecDepth 20000 in
theorem dnX12_brings_s18 {X : o_Cx} (hX : o_ok X) {d : Nat} {a0 : Nat} {x2 : Int32} {x3 : Int32} {τ18 : Int32} {μ0 : o_Mem} {K : (Nat × (Int32)) → o_Mem → Prop} {Q : Option Value → o_Mem → Prop} (h0 : o_is X a0 (.inl 12)) (h : o_Post (fX12_brings_s18 (o_rf X) a0 x2 x3 τ18 μ0) K) (kh : ∀ (τ18 : Int32) (μ : o_Mem), K (18, τ18) μ → o_Ev X (d + 5) mX12_brings 18 [some (.ref (o_ad X a0)), none, some (.int x2), some (.int x3), some (.int τ18)] [] μ Q) (k48 : ∀ (τ18 : Int32) (μ : o_Mem), K (48, τ18) μ → o_Ev X (d + 5) mX12_brings 48 [some (.ref (o_ad X a0)), none, some (.int x2), none, none] [] μ Q) : o_Ev X (d + 5) mX12_brings 18 [some (.ref (o_ad X a0)), none, some (.int x2), some (.int x3), some (.int τ18)] [] μ0 Q := by
  unfold fX12_brings_s18 at h
  refine s_iload dX12_brings_18 rfl ?_
  refine s_iconst dX12_brings_20 kI_4 ?_
  refine s_icmp_ge (tgt := 48) dX12_brings_21 rfl (fun c1 => ?_) (fun c1 => ?_)
  · have h := o_if_t c1 h
    refine s_mask [true, false, true, false, false] (L' := [some (.ref (o_ad X a0)), none, some (.int x2), none, none]) rfl ?_
    exact k48 0 _ (o_ret h)
  · have h := o_if_f c1 h
    refine s_aload_n (i := 0) dX12_brings_24 rfl rfl ?_
    refine s_getR hX h0 flX12_7 rfl dX12_brings_25 (fun (g1 : o_is X (o_rf X a0 0) (.inr (0, 3756))) => ?_)
    refine s_iload_n (i := 2) dX12_brings_28 rfl rfl ?_
    refine s_iload dX12_brings_29 rfl ?_
    refine s_iadd dX12_brings_31 ?_
    refine s_aload_n (i := 0) dX12_brings_32 rfl rfl ?_
    refine s_getR hX h0 flX12_7 rfl dX12_brings_33 (fun (g2 : o_is X (o_rf X a0 0) (.inr (0, 3756))) => ?_)
    refine s_iload_n (i := 3) dX12_brings_36 rfl rfl ?_
    refine s_iload dX12_brings_37 rfl ?_
    refine s_iadd dX12_brings_39 ?_
    have hc := o_ck_c h
    have h := o_ck_k h
    refine s_ialdK g2 hc rfl dX12_brings_40 ?_
    have hc := o_ck_c h
    have h := o_ck_k h
    refine s_iastK hX g1 hc rfl dX12_brings_41 (o_gen h (fun μ1 h => ?_))
    refine s_iinc (v := (τ18 + 1)) dX12_brings_42 rfl rfl (Nat.le_of_ble_eq_true rfl) rfl ?_
    refine s_goto (tgt := 18) dX12_brings_45 rfl ?_
    refine s_mask [true, false, true, true, true] (L' := [some (.ref (o_ad X a0)), none, some (.int x2), some (.int x3), some (.int (τ18 + 1))]) rfl ?_
    exact kh (τ18 + 1) _ (o_ret h)
set_option maxRecDepth 20000 in
theorem dnX12_brings {X : o_Cx} (hX : o_ok X) {d : Nat} {a0 : Nat} {x1 : Int32} {μ0 : o_Mem} {q : Unit → o_Mem → Prop} (h0 : o_is X a0 (.inl 12)) (h : o_Post (fX12_brings (o_rf X) a0 x1 μ0) q) : o_Ev X (d + 5) mX12_brings 0 [some (.ref (o_ad X a0)), some (.int x1), none, none, none] [] μ0 (o_QU q) := by
  unfold fX12_brings at h
  refine s_aload_n (i := 0) dX12_brings_0 rfl rfl ?_
  refine s_getR hX h0 flX12_7 rfl dX12_brings_1 (fun (g1 : o_is X (o_rf X a0 0) (.inr (0, 3756))) => ?_)
  refine s_iconst dX12_brings_4 kI_5 ?_
  refine s_ialdK g1 ⟨by decide, by decide⟩ kN_5 dX12_brings_5 ?_
  refine s_callSi (C := mX12_coverRow) (As := [.int (μ0.1 (o_rf X a0 0) 5)]) (rest := []) (L0 := [some (.int (μ0.1 (o_rf X a0 0) 5))]) clX12_311 dX12_brings_6 rfl rfl (Nat.le_of_ble_eq_true rfl) (Nat.le_of_ble_eq_true rfl) (dnX12_coverRow hX  (o_bdp h)) (fun r1 μ1 h => ?_)
  refine s_istore_n (i := 2) dX12_brings_9 rfl (Nat.le_of_ble_eq_true rfl) rfl ?_
  refine s_iload_n (i := 1) dX12_brings_10 rfl rfl ?_
  refine s_callSi (C := mX12_letterRow) (As := [.int x1]) (rest := []) (L0 := [some (.int x1)]) clX12_308 dX12_brings_11 rfl rfl (Nat.le_of_ble_eq_true rfl) (Nat.le_of_ble_eq_true rfl) (dnX12_letterRow hX  (o_bdp h)) (fun r2 μ2 h => ?_)
  refine s_istore_n (i := 3) dX12_brings_14 rfl (Nat.le_of_ble_eq_true rfl) rfl ?_
  refine s_iconst dX12_brings_15 kI_0 ?_
  refine s_istore dX12_brings_16 (Nat.le_of_ble_eq_true rfl) rfl ?_
  refine s_mask [true, false, true, true, true] (L' := [some (.ref (o_ad X a0)), none, some (.int r1), some (.int r2), some (.int 0)]) rfl ?_
  refine o_lp_ev (fun τ18 => [some (.ref (o_ad X a0)), none, some (.int r1), some (.int r2), some (.int τ18)]) (fun τ18 μ _K h kv ke18 => dnX12_brings_s18 hX h0 h kv (fun τ18 μ3 h => ?_)) o_fuel 0 μ2 (o_bdp h)
  · have h := o_if_t rfl (ke18 (48, τ18) μ3 (o_ne rfl) h)
    refine s_aload_n (i := 0) dX12_brings_48 rfl rfl ?_
    refine s_aload_n (i := 0) dX12_brings_49 rfl rfl ?_
    refine s_getR hX h0 flX12_7 rfl dX12_brings_50 (fun (g2 : o_is X (o_rf X a0 0) (.inr (0, 3756))) => ?_)
    refine s_iload_n (i := 2) dX12_brings_53 rfl rfl ?_
    have hc := o_ck_c h
    have h := o_ck_k h
    refine s_ialdK g2 hc rfl dX12_brings_54 ?_
    refine s_aload_n (i := 0) dX12_brings_55 rfl rfl ?_
    refine s_getR hX h0 flX12_7 rfl dX12_brings_56 (fun (g3 : o_is X (o_rf X a0 0) (.inr (0, 3756))) => ?_)
    refine s_iload_n (i := 2) dX12_brings_59 rfl rfl ?_
    refine s_iconst dX12_brings_60 kI_1 ?_
    refine s_iadd dX12_brings_61 ?_
    have hc := o_ck_c h
    have h := o_ck_k h
    refine s_ialdK g3 hc rfl dX12_brings_62 ?_
    refine s_aload_n (i := 0) dX12_brings_63 rfl rfl ?_
    refine s_getR hX h0 flX12_7 rfl dX12_brings_64 (fun (g4 : o_is X (o_rf X a0 0) (.inr (0, 3756))) => ?_)
    refine s_iload_n (i := 2) dX12_brings_67 rfl rfl ?_
    refine s_iconst dX12_brings_68 kI_2 ?_
    refine s_iadd dX12_brings_69 ?_
    have hc := o_ck_c h
    have h := o_ck_k h
    refine s_ialdK g4 hc rfl dX12_brings_70 ?_
    refine s_aload_n (i := 0) dX12_brings_71 rfl rfl ?_
    refine s_getR hX h0 flX12_7 rfl dX12_brings_72 (fun (g5 : o_is X (o_rf X a0 0) (.inr (0, 3756))) => ?_)
    refine s_iload_n (i := 2) dX12_brings_75 rfl rfl ?_
    refine s_iconst dX12_brings_76 kI_3 ?_
    refine s_iadd dX12_brings_77 ?_
    have hc := o_ck_c h
    have h := o_ck_k h
    refine s_ialdK g5 hc rfl dX12_brings_78 ?_
    refine s_callVi (C := mX12_struck) (As := [.int (μ3.1 (o_rf X a0 0) r1.toNatClampNeg), .int (μ3.1 (o_rf X a0 0) ((r1 + 1)).toNatClampNeg), .int (μ3.1 (o_rf X a0 0) ((r1 + 2)).toNatClampNeg), .int (μ3.1 (o_rf X a0 0) ((r1 + 3)).toNatClampNeg)]) (rest := []) (L0 := [some (.ref (o_ad X a0)), some (.int (μ3.1 (o_rf X a0 0) r1.toNatClampNeg)), some (.int (μ3.1 (o_rf X a0 0) ((r1 + 1)).toNatClampNeg)), some (.int (μ3.1 (o_rf X a0 0) ((r1 + 2)).toNatClampNeg)), some (.int (μ3.1 (o_rf X a0 0) ((r1 + 3)).toNatClampNeg)), none]) hX h0 clX12_339 dX12_brings_79 rfl rfl (Nat.le_of_ble_eq_true rfl) (Nat.le_of_ble_eq_true rfl) (dnX12_struck hX h0 (o_bdp h)) (fun r3 μ4 h => ?_)
    refine s_istore dX12_brings_82 (Nat.le_of_ble_eq_true rfl) rfl ?_
    refine s_aload_n (i := 0) dX12_brings_84 rfl rfl ?_
    refine s_getR hX h0 flX12_7 rfl dX12_brings_85 (fun (g6 : o_is X (o_rf X a0 0) (.inr (0, 3756))) => ?_)
    refine s_iload_n (i := 2) dX12_brings_88 rfl rfl ?_
    refine s_iconst dX12_brings_89 kI_4 ?_
    refine s_iadd dX12_brings_90 ?_
    refine s_iload dX12_brings_91 rfl ?_
    have hc := o_ck_c h
    have h := o_ck_k h
    refine s_iastK hX g6 hc rfl dX12_brings_93 (o_gen h (fun μ5 h => ?_))
    refine s_aload_n (i := 0) dX12_brings_94 rfl rfl ?_
    refine s_getR hX h0 flX12_7 rfl dX12_brings_95 (fun (g7 : o_is X (o_rf X a0 0) (.inr (0, 3756))) => ?_)
    refine s_iconst dX12_brings_98 kI_5 ?_
    refine s_dup2 dX12_brings_99 rfl rfl ?_
    refine s_ialdK g7 ⟨by decide, by decide⟩ kN_5 dX12_brings_100 ?_
    refine s_iconst dX12_brings_101 kI_1 ?_
    refine s_iadd dX12_brings_102 ?_
    refine s_iastK hX g7 ⟨by decide, by decide⟩ kN_5 dX12_brings_103 (o_gen h (fun μ6 h => ?_))
    refine s_aload_n (i := 0) dX12_brings_104 rfl rfl ?_
    refine s_getR hX h0 flX12_7 rfl dX12_brings_105 (fun (g8 : o_is X (o_rf X a0 0) (.inr (0, 3756))) => ?_)
    refine s_bipush dX12_brings_108 kB_9 ?_
    refine s_dup2 dX12_brings_110 rfl rfl ?_
    refine s_ialdK g8 ⟨by decide, by decide⟩ kN_9 dX12_brings_111 ?_
    refine s_iconst dX12_brings_112 kI_1 ?_
    refine s_iadd dX12_brings_113 ?_
    refine s_iastK hX g8 ⟨by decide, by decide⟩ kN_9 dX12_brings_114 (o_gen h (fun μ7 h => ?_))
    refine s_iload dX12_brings_115 rfl ?_
    refine s_iconst dX12_brings_117 kI_m1 ?_
    refine s_icmp_ne (tgt := 135) dX12_brings_118 rfl (fun c1 => ?_) (fun c1 => ?_)
    · have h := o_if_f c1 h
      refine s_aload_n (i := 0) dX12_brings_135 rfl rfl ?_
      refine s_getR hX h0 flX12_7 rfl dX12_brings_136 (fun (g9 : o_is X (o_rf X a0 0) (.inr (0, 3756))) => ?_)
      refine s_bipush dX12_brings_139 kB_11 ?_
      refine s_dup2 dX12_brings_141 rfl rfl ?_
      refine s_ialdK g9 ⟨by decide, by decide⟩ kN_11 dX12_brings_142 ?_
      refine s_aload_n (i := 0) dX12_brings_143 rfl rfl ?_
      refine s_getR hX h0 flX12_7 rfl dX12_brings_144 (fun (g10 : o_is X (o_rf X a0 0) (.inr (0, 3756))) => ?_)
      refine s_iload dX12_brings_147 rfl ?_
      refine s_callSi (C := mX12_strikeRow) (As := [.int r3]) (rest := [.ref (o_ad X (o_rf X a0 0)), .int (μ7.1 (o_rf X a0 0) 11), .int 11, .ref (o_ad X (o_rf X a0 0))]) (L0 := [some (.int r3)]) clX12_287 dX12_brings_149 rfl rfl (Nat.le_of_ble_eq_true rfl) (Nat.le_of_ble_eq_true rfl) (dnX12_strikeRow hX  (o_bdp h)) (fun r4 μ8 h => ?_)
      have hc := o_ck_c h
      have h := o_ck_k h
      refine s_ialdK g10 hc rfl dX12_brings_152 ?_
      refine s_iadd dX12_brings_153 ?_
      refine s_iastK hX g9 ⟨by decide, by decide⟩ kN_11 dX12_brings_154 (o_gen h (fun μ9 h => ?_))
      refine s_aload_n (i := 0) dX12_brings_155 rfl rfl ?_
      refine s_getR hX h0 flX12_7 rfl dX12_brings_156 (fun (g11 : o_is X (o_rf X a0 0) (.inr (0, 3756))) => ?_)
      refine s_iload dX12_brings_159 rfl ?_
      refine s_callSi (C := mX12_strikeRow) (As := [.int r3]) (rest := [.ref (o_ad X (o_rf X a0 0))]) (L0 := [some (.int r3)]) clX12_287 dX12_brings_161 rfl rfl (Nat.le_of_ble_eq_true rfl) (Nat.le_of_ble_eq_true rfl) (dnX12_strikeRow hX  (o_bdp h)) (fun r5 μ10 h => ?_)
      refine s_iconst dX12_brings_164 kI_1 ?_
      refine s_iadd dX12_brings_165 ?_
      refine s_dup2 dX12_brings_166 rfl rfl ?_
      have hc := o_ck_c h
      have h := o_ck_k h
      refine s_ialdK g11 hc rfl dX12_brings_167 ?_
      refine s_iconst dX12_brings_168 kI_1 ?_
      refine s_iadd dX12_brings_169 ?_
      have hc := o_ck_c h
      have h := o_ck_k h
      refine s_iastK hX g11 hc rfl dX12_brings_170 (o_gen h (fun μ11 h => ?_))
      exact s_return rfl dX12_brings_171 ⟨rfl, o_ret h⟩
    · have h := o_if_t c1 h
      refine s_aload_n (i := 0) dX12_brings_121 rfl rfl ?_
      refine s_getR hX h0 flX12_7 rfl dX12_brings_122 (fun (g12 : o_is X (o_rf X a0 0) (.inr (0, 3756))) => ?_)
      refine s_bipush dX12_brings_125 kB_10 ?_
      refine s_dup2 dX12_brings_127 rfl rfl ?_
      refine s_ialdK g12 ⟨by decide, by decide⟩ kN_10 dX12_brings_128 ?_
      refine s_iconst dX12_brings_129 kI_1 ?_
      refine s_iadd dX12_brings_130 ?_
      refine s_iastK hX g12 ⟨by decide, by decide⟩ kN_10 dX12_brings_131 (o_gen h (fun μ12 h => ?_))
      refine s_goto (tgt := 171) dX12_brings_132 rfl ?_
      exact s_return rfl dX12_brings_171 ⟨rfl, o_ret h⟩
