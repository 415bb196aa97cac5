theorem dX12_worthBy_0 : decode cX12_worthBy 0 = .ok (.iload_n 1, 1) := by decide +kernel
theorem dX12_worthBy_1 : decode cX12_worthBy 1 = .ok (.invokestatic 308, 3) := by decide +kernel
theorem dX12_worthBy_4 : decode cX12_worthBy 4 = .ok (.istore_n 3, 1) := by decide +kernel
theorem dX12_worthBy_5 : decode cX12_worthBy 5 = .ok (.iload_n 2, 1) := by decide +kernel
theorem dX12_worthBy_6 : decode cX12_worthBy 6 = .ok (.ifCond .eq 40, 3) := by decide +kernel
theorem dX12_worthBy_9 : decode cX12_worthBy 9 = .ok (.aload_n 0, 1) := by decide +kernel
theorem dX12_worthBy_10 : decode cX12_worthBy 10 = .ok (.aload_n 0, 1) := by decide +kernel
theorem dX12_worthBy_11 : decode cX12_worthBy 11 = .ok (.getfield 7, 3) := by decide +kernel
theorem dX12_worthBy_14 : decode cX12_worthBy 14 = .ok (.iload_n 3, 1) := by decide +kernel
theorem dX12_worthBy_15 : decode cX12_worthBy 15 = .ok (.iaload, 1) := by decide +kernel
theorem dX12_worthBy_16 : decode cX12_worthBy 16 = .ok (.aload_n 0, 1) := by decide +kernel
theorem dX12_worthBy_17 : decode cX12_worthBy 17 = .ok (.getfield 7, 3) := by decide +kernel
theorem dX12_worthBy_20 : decode cX12_worthBy 20 = .ok (.iload_n 3, 1) := by decide +kernel
theorem dX12_worthBy_21 : decode cX12_worthBy 21 = .ok (.iconst 1, 1) := by decide +kernel
theorem dX12_worthBy_22 : decode cX12_worthBy 22 = .ok (.iadd, 1) := by decide +kernel
theorem dX12_worthBy_23 : decode cX12_worthBy 23 = .ok (.iaload, 1) := by decide +kernel
theorem dX12_worthBy_24 : decode cX12_worthBy 24 = .ok (.aload_n 0, 1) := by decide +kernel
theorem dX12_worthBy_25 : decode cX12_worthBy 25 = .ok (.getfield 7, 3) := by decide +kernel
theorem dX12_worthBy_28 : decode cX12_worthBy 28 = .ok (.iload_n 3, 1) := by decide +kernel
theorem dX12_worthBy_29 : decode cX12_worthBy 29 = .ok (.iconst 2, 1) := by decide +kernel
theorem dX12_worthBy_30 : decode cX12_worthBy 30 = .ok (.iadd, 1) := by decide +kernel
theorem dX12_worthBy_31 : decode cX12_worthBy 31 = .ok (.iaload, 1) := by decide +kernel
theorem dX12_worthBy_32 : decode cX12_worthBy 32 = .ok (.aload_n 0, 1) := by decide +kernel
theorem dX12_worthBy_33 : decode cX12_worthBy 33 = .ok (.getfield 7, 3) := by decide +kernel
theorem dX12_worthBy_36 : decode cX12_worthBy 36 = .ok (.iload_n 3, 1) := by decide +kernel
theorem dX12_worthBy_37 : decode cX12_worthBy 37 = .ok (.iconst 3, 1) := by decide +kernel
theorem dX12_worthBy_38 : decode cX12_worthBy 38 = .ok (.iadd, 1) := by decide +kernel
theorem dX12_worthBy_39 : decode cX12_worthBy 39 = .ok (.iaload, 1) := by decide +kernel
theorem dX12_worthBy_40 : decode cX12_worthBy 40 = .ok (.invokevirtual 318, 3) := by decide +kernel
theorem dX12_worthBy_43 : decode cX12_worthBy 43 = .ok (.goto 37, 3) := by decide +kernel
theorem dX12_worthBy_46 : decode cX12_worthBy 46 = .ok (.aload_n 0, 1) := by decide +kernel
theorem dX12_worthBy_47 : decode cX12_worthBy 47 = .ok (.aload_n 0, 1) := by decide +kernel
theorem dX12_worthBy_48 : decode cX12_worthBy 48 = .ok (.getfield 7, 3) := by decide +kernel
theorem dX12_worthBy_51 : decode cX12_worthBy 51 = .ok (.iload_n 3, 1) := by decide +kernel
theorem dX12_worthBy_52 : decode cX12_worthBy 52 = .ok (.iaload, 1) := by decide +kernel
theorem dX12_worthBy_53 : decode cX12_worthBy 53 = .ok (.aload_n 0, 1) := by decide +kernel
theorem dX12_worthBy_54 : decode cX12_worthBy 54 = .ok (.getfield 7, 3) := by decide +kernel
theorem dX12_worthBy_57 : decode cX12_worthBy 57 = .ok (.iload_n 3, 1) := by decide +kernel
theorem dX12_worthBy_58 : decode cX12_worthBy 58 = .ok (.iconst 1, 1) := by decide +kernel
theorem dX12_worthBy_59 : decode cX12_worthBy 59 = .ok (.iadd, 1) := by decide +kernel
theorem dX12_worthBy_60 : decode cX12_worthBy 60 = .ok (.iaload, 1) := by decide +kernel
theorem dX12_worthBy_61 : decode cX12_worthBy 61 = .ok (.aload_n 0, 1) := by decide +kernel
theorem dX12_worthBy_62 : decode cX12_worthBy 62 = .ok (.getfield 7, 3) := by decide +kernel
theorem dX12_worthBy_65 : decode cX12_worthBy 65 = .ok (.iload_n 3, 1) := by decide +kernel
theorem dX12_worthBy_66 : decode cX12_worthBy 66 = .ok (.iconst 2, 1) := by decide +kernel
theorem dX12_worthBy_67 : decode cX12_worthBy 67 = .ok (.iadd, 1) := by decide +kernel
theorem dX12_worthBy_68 : decode cX12_worthBy 68 = .ok (.iaload, 1) := by decide +kernel
theorem dX12_worthBy_69 : decode cX12_worthBy 69 = .ok (.aload_n 0, 1) := by decide +kernel
theorem dX12_worthBy_70 : decode cX12_worthBy 70 = .ok (.getfield 7, 3) := by decide +kernel
theorem dX12_worthBy_73 : decode cX12_worthBy 73 = .ok (.iload_n 3, 1) := by decide +kernel
theorem dX12_worthBy_74 : decode cX12_worthBy 74 = .ok (.iconst 3, 1) := by decide +kernel
theorem dX12_worthBy_75 : decode cX12_worthBy 75 = .ok (.iadd, 1) := by decide +kernel
theorem dX12_worthBy_76 : decode cX12_worthBy 76 = .ok (.iaload, 1) := by decide +kernel
theorem dX12_worthBy_77 : decode cX12_worthBy 77 = .ok (.invokevirtual 426, 3) := by decide +kernel
theorem dX12_worthBy_80 : decode cX12_worthBy 80 = .ok (.istore 4, 2) := by decide +kernel
theorem dX12_worthBy_82 : decode cX12_worthBy 82 = .ok (.iload 4, 2) := by decide +kernel
theorem dX12_worthBy_84 : decode cX12_worthBy 84 = .ok (.iconst (-1), 1) := by decide +kernel
theorem dX12_worthBy_85 : decode cX12_worthBy 85 = .ok (.if_icmp .ne 7, 3) := by decide +kernel
theorem dX12_worthBy_88 : decode cX12_worthBy 88 = .ok (.iconst 0, 1) := by decide +kernel
theorem dX12_worthBy_89 : decode cX12_worthBy 89 = .ok (.goto 21, 3) := by decide +kernel
theorem dX12_worthBy_92 : decode cX12_worthBy 92 = .ok (.aload_n 0, 1) := by decide +kernel
theorem dX12_worthBy_93 : decode cX12_worthBy 93 = .ok (.getfield 7, 3) := by decide +kernel
theorem dX12_worthBy_96 : decode cX12_worthBy 96 = .ok (.aload_n 0, 1) := by decide +kernel
theorem dX12_worthBy_97 : decode cX12_worthBy 97 = .ok (.getfield 7, 3) := by decide +kernel
theorem dX12_worthBy_100 : decode cX12_worthBy 100 = .ok (.iload 4, 2) := by decide +kernel
theorem dX12_worthBy_102 : decode cX12_worthBy 102 = .ok (.invokestatic 296, 3) := by decide +kernel
theorem dX12_worthBy_105 : decode cX12_worthBy 105 = .ok (.iaload, 1) := by decide +kernel
theorem dX12_worthBy_106 : decode cX12_worthBy 106 = .ok (.invokestatic 287, 3) := by decide +kernel
theorem dX12_worthBy_109 : decode cX12_worthBy 109 = .ok (.iaload, 1) := by decide +kernel
theorem dX12_worthBy_110 : decode cX12_worthBy 110 = .ok (.ireturn, 1) := by decide +kernel
noncomputable def fX12_worthBy_j80 (rf : Nat → Nat → Nat) (a0 : Nat) (y0 : Int32) (μ0 : o_Mem) : Option (Int32 × o_Mem) :=
  if y0 = (-1) then (
    some (0, μ0))
  else (
    o_bd (fX12_lawRow rf y0 μ0) fun r1 μ1 =>
    o_ck (0 ≤ (r1).toInt ∧ (r1).toInt < 3756) <|
    o_bd (fX12_strikeRow rf (μ1.1 (rf a0 0) r1.toNatClampNeg) μ1) fun r2 μ2 =>
    o_ck (0 ≤ (r2).toInt ∧ (r2).toInt < 3756) <|
    some ((μ2.1 (rf a0 0) r2.toNatClampNeg), μ2))
noncomputable def fX12_worthBy (rf : Nat → Nat → Nat) (a0 : Nat) (x1 : Int32) (x2 : Int32) (μ0 : o_Mem) : Option (Int32 × o_Mem) :=
  o_bd (fX12_letterRow rf x1 μ0) fun r1 μ1 =>
  if x2 = 0 then (
    o_ck (0 ≤ (r1).toInt ∧ (r1).toInt < 3756) <|
    o_ck (0 ≤ ((r1 + 1)).toInt ∧ ((r1 + 1)).toInt < 3756) <|
    o_ck (0 ≤ ((r1 + 2)).toInt ∧ ((r1 + 2)).toInt < 3756) <|
    o_ck (0 ≤ ((r1 + 3)).toInt ∧ ((r1 + 3)).toInt < 3756) <|
    o_bd (fX12_lastLaw rf a0 (μ1.1 (rf a0 0) r1.toNatClampNeg) (μ1.1 (rf a0 0) ((r1 + 1)).toNatClampNeg) (μ1.1 (rf a0 0) ((r1 + 2)).toNatClampNeg) (μ1.1 (rf a0 0) ((r1 + 3)).toNatClampNeg) μ1) fun r2 μ2 =>
    fX12_worthBy_j80 rf a0 r2 μ2)
  else (
    o_ck (0 ≤ (r1).toInt ∧ (r1).toInt < 3756) <|
    o_ck (0 ≤ ((r1 + 1)).toInt ∧ ((r1 + 1)).toInt < 3756) <|
    o_ck (0 ≤ ((r1 + 2)).toInt ∧ ((r1 + 2)).toInt < 3756) <|
    o_ck (0 ≤ ((r1 + 3)).toInt ∧ ((r1 + 3)).toInt < 3756) <|
    o_bd (fX12_firstLaw rf a0 (μ1.1 (rf a0 0) r1.toNatClampNeg) (μ1.1 (rf a0 0) ((r1 + 1)).toNatClampNeg) (μ1.1 (rf a0 0) ((r1 + 2)).toNatClampNeg) (μ1.1 (rf a0 0) ((r1 + 3)).toNatClampNeg) μ1) fun r3 μ3 =>
    fX12_worthBy_j80 rf a0 r3 μ3)
set_option maxRecDepth 20000 in
theorem dnX12_worthBy_j80 {X : o_Cx} (hX : o_ok X) {d : Nat} {a0 : Nat} {y0 : Int32} {μ0 : o_Mem} {q : Int32 → o_Mem → Prop} (h0 : o_is X a0 (.inl 12)) (h : o_Post (fX12_worthBy_j80 (o_rf X) a0 y0 μ0) q) : o_Ev X (d + 3) mX12_worthBy 80 [some (.ref (o_ad X a0)), none, none, none, none] [.int y0] μ0 (o_QI q) := by
  unfold fX12_worthBy_j80 at h
  refine s_istore dX12_worthBy_80 (Nat.le_of_ble_eq_true rfl) rfl ?_
  refine s_iload dX12_worthBy_82 rfl ?_
  refine s_iconst dX12_worthBy_84 kI_m1 ?_
  refine s_icmp_ne (tgt := 92) dX12_worthBy_85 rfl (fun c1 => ?_) (fun c1 => ?_)
  · have h := o_if_f c1 h
    refine s_aload_n (i := 0) dX12_worthBy_92 rfl rfl ?_
    refine s_getR hX h0 flX12_7 rfl dX12_worthBy_93 (fun (g1 : o_is X (o_rf X a0 0) (.inr (0, 3756))) => ?_)
    refine s_aload_n (i := 0) dX12_worthBy_96 rfl rfl ?_
    refine s_getR hX h0 flX12_7 rfl dX12_worthBy_97 (fun (g2 : o_is X (o_rf X a0 0) (.inr (0, 3756))) => ?_)
    refine s_iload dX12_worthBy_100 rfl ?_
    refine s_callSi (C := mX12_lawRow) (As := [.int y0]) (rest := [.ref (o_ad X (o_rf X a0 0)), .ref (o_ad X (o_rf X a0 0))]) (L0 := [some (.int y0)]) clX12_296 dX12_worthBy_102 rfl rfl (Nat.le_of_ble_eq_true rfl) (Nat.le_of_ble_eq_true rfl) (dnX12_lawRow hX  (o_bdp h)) (fun r1 μ1 h => ?_)
    have hc := o_ck_c h
    have h := o_ck_k h
    refine s_ialdK g2 hc rfl dX12_worthBy_105 ?_
    refine s_callSi (C := mX12_strikeRow) (As := [.int (μ1.1 (o_rf X a0 0) r1.toNatClampNeg)]) (rest := [.ref (o_ad X (o_rf X a0 0))]) (L0 := [some (.int (μ1.1 (o_rf X a0 0) r1.toNatClampNeg))]) clX12_287 dX12_worthBy_106 rfl rfl (Nat.le_of_ble_eq_true rfl) (Nat.le_of_ble_eq_true rfl) (dnX12_strikeRow hX  (o_bdp h)) (fun r2 μ2 h => ?_)
    have hc := o_ck_c h
    have h := o_ck_k h
    refine s_ialdK g1 hc rfl dX12_worthBy_109 ?_
    exact s_ireturn rfl dX12_worthBy_110 ⟨_, rfl, o_ret h⟩
  · have h := o_if_t c1 h
    refine s_iconst dX12_worthBy_88 kI_0 ?_
    refine s_goto (tgt := 110) dX12_worthBy_89 rfl ?_
    exact s_ireturn rfl dX12_worthBy_110 ⟨_, rfl, o_ret h⟩
set_option maxRecDepth 20000 in
theorem dnX12_worthBy {X : o_Cx} (hX : o_ok X) {d : Nat} {a0 : Nat} {x1 : Int32} {x2 : Int32} {μ0 : o_Mem} {q : Int32 → o_Mem → Prop} (h0 : o_is X a0 (.inl 12)) (h : o_Post (fX12_worthBy (o_rf X) a0 x1 x2 μ0) q) : o_Ev X (d + 3) mX12_worthBy 0 [some (.ref (o_ad X a0)), some (.int x1), some (.int x2), none, none] [] μ0 (o_QI q) := by
  unfold fX12_worthBy at h
  refine s_iload_n (i := 1) dX12_worthBy_0 rfl rfl ?_
  refine s_callSi (C := mX12_letterRow) (As := [.int x1]) (rest := []) (L0 := [some (.int x1)]) clX12_308 dX12_worthBy_1 rfl rfl (Nat.le_of_ble_eq_true rfl) (Nat.le_of_ble_eq_true rfl) (dnX12_letterRow hX  (o_bdp h)) (fun r1 μ1 h => ?_)
  refine s_istore_n (i := 3) dX12_worthBy_4 rfl (Nat.le_of_ble_eq_true rfl) rfl ?_
  refine s_iload_n (i := 2) dX12_worthBy_5 rfl rfl ?_
  refine s_if_eq (tgt := 46) dX12_worthBy_6 rfl (fun c1 => ?_) (fun c1 => ?_)
  · have h := o_if_t c1 h
    refine s_aload_n (i := 0) dX12_worthBy_46 rfl rfl ?_
    refine s_aload_n (i := 0) dX12_worthBy_47 rfl rfl ?_
    refine s_getR hX h0 flX12_7 rfl dX12_worthBy_48 (fun (g1 : o_is X (o_rf X a0 0) (.inr (0, 3756))) => ?_)
    refine s_iload_n (i := 3) dX12_worthBy_51 rfl rfl ?_
    have hc := o_ck_c h
    have h := o_ck_k h
    refine s_ialdK g1 hc rfl dX12_worthBy_52 ?_
    refine s_aload_n (i := 0) dX12_worthBy_53 rfl rfl ?_
    refine s_getR hX h0 flX12_7 rfl dX12_worthBy_54 (fun (g2 : o_is X (o_rf X a0 0) (.inr (0, 3756))) => ?_)
    refine s_iload_n (i := 3) dX12_worthBy_57 rfl rfl ?_
    refine s_iconst dX12_worthBy_58 kI_1 ?_
    refine s_iadd dX12_worthBy_59 ?_
    have hc := o_ck_c h
    have h := o_ck_k h
    refine s_ialdK g2 hc rfl dX12_worthBy_60 ?_
    refine s_aload_n (i := 0) dX12_worthBy_61 rfl rfl ?_
    refine s_getR hX h0 flX12_7 rfl dX12_worthBy_62 (fun (g3 : o_is X (o_rf X a0 0) (.inr (0, 3756))) => ?_)
    refine s_iload_n (i := 3) dX12_worthBy_65 rfl rfl ?_
    refine s_iconst dX12_worthBy_66 kI_2 ?_
    refine s_iadd dX12_worthBy_67 ?_
    have hc := o_ck_c h
    have h := o_ck_k h
    refine s_ialdK g3 hc rfl dX12_worthBy_68 ?_
    refine s_aload_n (i := 0) dX12_worthBy_69 rfl rfl ?_
    refine s_getR hX h0 flX12_7 rfl dX12_worthBy_70 (fun (g4 : o_is X (o_rf X a0 0) (.inr (0, 3756))) => ?_)
    refine s_iload_n (i := 3) dX12_worthBy_73 rfl rfl ?_
    refine s_iconst dX12_worthBy_74 kI_3 ?_
    refine s_iadd dX12_worthBy_75 ?_
    have hc := o_ck_c h
    have h := o_ck_k h
    refine s_ialdK g4 hc rfl dX12_worthBy_76 ?_
    refine s_callVi (C := mX12_lastLaw) (As := [.int (μ1.1 (o_rf X a0 0) r1.toNatClampNeg), .int (μ1.1 (o_rf X a0 0) ((r1 + 1)).toNatClampNeg), .int (μ1.1 (o_rf X a0 0) ((r1 + 2)).toNatClampNeg), .int (μ1.1 (o_rf X a0 0) ((r1 + 3)).toNatClampNeg)]) (rest := []) (L0 := [some (.ref (o_ad X a0)), some (.int (μ1.1 (o_rf X a0 0) r1.toNatClampNeg)), some (.int (μ1.1 (o_rf X a0 0) ((r1 + 1)).toNatClampNeg)), some (.int (μ1.1 (o_rf X a0 0) ((r1 + 2)).toNatClampNeg)), some (.int (μ1.1 (o_rf X a0 0) ((r1 + 3)).toNatClampNeg)), none]) hX h0 clX12_426 dX12_worthBy_77 rfl rfl (Nat.le_of_ble_eq_true rfl) (Nat.le_of_ble_eq_true rfl) (dnX12_lastLaw hX h0 (o_bdp h)) (fun r2 μ2 h => ?_)
    refine s_mask [true, false, false, false, false] (L' := [some (.ref (o_ad X a0)), none, none, none, none]) rfl ?_
    exact dnX12_worthBy_j80 hX h0 h
  · have h := o_if_f c1 h
    refine s_aload_n (i := 0) dX12_worthBy_9 rfl rfl ?_
    refine s_aload_n (i := 0) dX12_worthBy_10 rfl rfl ?_
    refine s_getR hX h0 flX12_7 rfl dX12_worthBy_11 (fun (g5 : o_is X (o_rf X a0 0) (.inr (0, 3756))) => ?_)
    refine s_iload_n (i := 3) dX12_worthBy_14 rfl rfl ?_
    have hc := o_ck_c h
    have h := o_ck_k h
    refine s_ialdK g5 hc rfl dX12_worthBy_15 ?_
    refine s_aload_n (i := 0) dX12_worthBy_16 rfl rfl ?_
    refine s_getR hX h0 flX12_7 rfl dX12_worthBy_17 (fun (g6 : o_is X (o_rf X a0 0) (.inr (0, 3756))) => ?_)
    refine s_iload_n (i := 3) dX12_worthBy_20 rfl rfl ?_
    refine s_iconst dX12_worthBy_21 kI_1 ?_
    refine s_iadd dX12_worthBy_22 ?_
    have hc := o_ck_c h
    have h := o_ck_k h
    refine s_ialdK g6 hc rfl dX12_worthBy_23 ?_
    refine s_aload_n (i := 0) dX12_worthBy_24 rfl rfl ?_
    refine s_getR hX h0 flX12_7 rfl dX12_worthBy_25 (fun (g7 : o_is X (o_rf X a0 0) (.inr (0, 3756))) => ?_)
    refine s_iload_n (i := 3) dX12_worthBy_28 rfl rfl ?_
    refine s_iconst dX12_worthBy_29 kI_2 ?_
    refine s_iadd dX12_worthBy_30 ?_
    have hc := o_ck_c h
    have h := o_ck_k h
    refine s_ialdK g7 hc rfl dX12_worthBy_31 ?_
    refine s_aload_n (i := 0) dX12_worthBy_32 rfl rfl ?_
    refine s_getR hX h0 flX12_7 rfl dX12_worthBy_33 (fun (g8 : o_is X (o_rf X a0 0) (.inr (0, 3756))) => ?_)
    refine s_iload_n (i := 3) dX12_worthBy_36 rfl rfl ?_
    refine s_iconst dX12_worthBy_37 kI_3 ?_
    refine s_iadd dX12_worthBy_38 ?_
    have hc := o_ck_c h
    have h := o_ck_k h
    refine s_ialdK g8 hc rfl dX12_worthBy_39 ?_
    refine s_callVi (C := mX12_firstLaw) (As := [.int (μ1.1 (o_rf X a0 0) r1.toNatClampNeg), .int (μ1.1 (o_rf X a0 0) ((r1 + 1)).toNatClampNeg), .int (μ1.1 (o_rf X a0 0) ((r1 + 2)).toNatClampNeg), .int (μ1.1 (o_rf X a0 0) ((r1 + 3)).toNatClampNeg)]) (rest := []) (L0 := [some (.ref (o_ad X a0)), some (.int (μ1.1 (o_rf X a0 0) r1.toNatClampNeg)), some (.int (μ1.1 (o_rf X a0 0) ((r1 + 1)).toNatClampNeg)), some (.int (μ1.1 (o_rf X a0 0) ((r1 + 2)).toNatClampNeg)), some (.int (μ1.1 (o_rf X a0 0) ((r1 + 3)).toNatClampNeg)), none]) hX h0 clX12_318 dX12_worthBy_40 rfl rfl (Nat.le_of_ble_eq_true rfl) (Nat.le_of_ble_eq_true rfl) (dnX12_firstLaw hX h0 (o_bdp h)) (fun r3 μ3 h => ?_)
    refine s_goto (tgt := 80) dX12_worthBy_43 rfl ?_
    refine s_mask [true, false, false, false, false] (L' := [some (.ref (o_ad X a0)), none, none, none, none]) rfl ?_
    exact dnX12_worthBy_j80 hX h0 h
theorem dX12_isTaken_0 : decode cX12_isTaken 0 = .ok (.iconst 0, 1) := by decide +kernel
theorem dX12_isTaken_1 : decode cX12_isTaken 1 = .ok (.istore_n 3, 1) := by decide +kernel
theorem dX12_isTaken_2 : decode cX12_isTaken 2 = .ok (.iload_n 3, 1) := by decide +kernel
theorem dX12_isTaken_3 : decode cX12_isTaken 3 = .ok (.iload_n 2, 1) := by decide +kernel
theorem dX12_isTaken_4 : decode cX12_isTaken 4 = .ok (.if_icmp .ge 21, 3) := by decide +kernel
theorem dX12_isTaken_7 : decode cX12_isTaken 7 = .ok (.aload_n 0, 1) := by decide +kernel
theorem dX12_isTaken_8 : decode cX12_isTaken 8 = .ok (.getfield 59, 3) := by decide +kernel
theorem dX12_isTaken_11 : decode cX12_isTaken 11 = .ok (.iload_n 3, 1) := by decide +kernel
theorem dX12_isTaken_12 : decode cX12_isTaken 12 = .ok (.iaload, 1) := by decide +kernel
theorem dX12_isTaken_13 : decode cX12_isTaken 13 = .ok (.iload_n 1, 1) := by decide +kernel
theorem dX12_isTaken_14 : decode cX12_isTaken 14 = .ok (.if_icmp .ne 5, 3) := by decide +kernel
theorem dX12_isTaken_17 : decode cX12_isTaken 17 = .ok (.iconst 1, 1) := by decide +kernel
theorem dX12_isTaken_18 : decode cX12_isTaken 18 = .ok (.ireturn, 1) := by decide +kernel
theorem dX12_isTaken_19 : decode cX12_isTaken 19 = .ok (.iinc 3 1, 3) := by decide +kernel
theorem dX12_isTaken_22 : decode cX12_isTaken 22 = .ok (.goto (-20), 3) := by decide +kernel
theorem dX12_isTaken_25 : decode cX12_isTaken 25 = .ok (.iconst 0, 1) := by decide +kernel
theorem dX12_isTaken_26 : decode cX12_isTaken 26 = .ok (.ireturn, 1) := by decide +kernel
noncomputable def fX12_isTaken_s2 (rf : Nat → Nat → Nat) (a0 : Nat) (x1 : Int32) (x2 : Int32) (τ2 : Int32) (μ0 : o_Mem) : Option ((Nat × (Int32)) × o_Mem) :=
  if x2 ≤ τ2 then (
    some ((25, 0), μ0))
  else (
    o_ck (0 ≤ (τ2).toInt ∧ (τ2).toInt < 4) <|
    if (μ0.1 (rf a0 28) τ2.toNatClampNeg) = x1 then (
      some ((17, 0), μ0))
    else (
      some ((2, (τ2 + 1)), μ0)))
noncomputable def fX12_isTaken (rf : Nat → Nat → Nat) (a0 : Nat) (x1 : Int32) (x2 : Int32) (μ0 : o_Mem) : Option (Int32 × o_Mem) :=
  o_bd (o_lp 2 (fX12_isTaken_s2 rf a0 x1 x2) o_fuel (0 : Int32) μ0) fun ex1 μ1 =>
  if ex1.1 = 17 then (
    some (1, μ1))
  else
  if ex1.1 = 25 then (
    some (0, μ1))
  else
    none
set_option maxRecDepth 20000 in
theorem dnX12_isTaken_s2 {X : o_Cx} (hX : o_ok X) {d : Nat} {a0 : Nat} {x1 : Int32} {x2 : Int32} {τ2 : Int32} {μ0 : o_Mem} {K : (Nat × (Int32)) → o_Mem → Prop} {Q : Option Value → o_Mem → Prop} (h0 : o_is X a0 (.inl 12)) (h : o_Post (fX12_isTaken_s2 (o_rf X) a0 x1 x2 τ2 μ0) K) (kh : ∀ (τ2 : Int32) (μ : o_Mem), K (2, τ2) μ → o_Ev X (d + 0) mX12_isTaken 2 [some (.ref (o_ad X a0)), some (.int x1), some (.int x2), some (.int τ2)] [] μ Q) (k17 : ∀ (τ2 : Int32) (μ : o_Mem), K (17, τ2) μ → o_Ev X (d + 0) mX12_isTaken 17 [none, none, none, none] [] μ Q) (k25 : ∀ (τ2 : Int32) (μ : o_Mem), K (25, τ2) μ → o_Ev X (d + 0) mX12_isTaken 25 [none, none, none, none] [] μ Q) : o_Ev X (d + 0) mX12_isTaken 2 [some (.ref (o_ad X a0)), some (.int x1), some (.int x2), some (.int τ2)] [] μ0 Q := by
  unfold fX12_isTaken_s2 at h
  refine s_iload_n (i := 3) dX12_isTaken_2 rfl rfl ?_
  refine s_iload_n (i := 2) dX12_isTaken_3 rfl rfl ?_
  refine s_icmp_ge (tgt := 25) dX12_isTaken_4 rfl (fun c1 => ?_) (fun c1 => ?_)
  · have h := o_if_t c1 h
    refine s_mask [false, false, false, false] (L' := [none, none, none, none]) rfl ?_
    exact k25 0 _ (o_ret h)
  · have h := o_if_f c1 h
    refine s_aload_n (i := 0) dX12_isTaken_7 rfl rfl ?_
    refine s_getR hX h0 flX12_59 rfl dX12_isTaken_8 (fun (g1 : o_is X (o_rf X a0 28) (.inr (0, 4))) => ?_)
    refine s_iload_n (i := 3) dX12_isTaken_11 rfl rfl ?_
    have hc := o_ck_c h
    have h := o_ck_k h
    refine s_ialdK g1 hc rfl dX12_isTaken_12 ?_
    refine s_iload_n (i := 1) dX12_isTaken_13 rfl rfl ?_
    refine s_icmp_ne (tgt := 19) dX12_isTaken_14 rfl (fun c1 => ?_) (fun c1 => ?_)
    · have h := o_if_f c1 h
      refine s_iinc (v := (τ2 + 1)) dX12_isTaken_19 rfl rfl (Nat.le_of_ble_eq_true rfl) rfl ?_
      refine s_goto (tgt := 2) dX12_isTaken_22 rfl ?_
      refine s_mask [true, true, true, true] (L' := [some (.ref (o_ad X a0)), some (.int x1), some (.int x2), some (.int (τ2 + 1))]) rfl ?_
      exact kh (τ2 + 1) _ (o_ret h)
    · have h := o_if_t c1 h
      refine s_mask [false, false, false, false] (L' := [none, none, none, none]) rfl ?_
      exact k17 0 _ (o_ret h)
set_option maxRecDepth 20000 in
theorem dnX12_isTaken {X : o_Cx} (hX : o_ok X) {d : Nat} {a0 : Nat} {x1 : Int32} {x2 : Int32} {μ0 : o_Mem} {q : Int32 → o_Mem → Prop} (h0 : o_is X a0 (.inl 12)) (h : o_Post (fX12_isTaken (o_rf X) a0 x1 x2 μ0) q) : o_Ev X (d + 0) mX12_isTaken 0 [some (.ref (o_ad X a0)), some (.int x1), some (.int x2), none] [] μ0 (o_QZ q) := by
  unfold fX12_isTaken at h
  refine s_iconst dX12_isTaken_0 kI_0 ?_
  refine s_istore_n (i := 3) dX12_isTaken_1 rfl (Nat.le_of_ble_eq_true rfl) rfl ?_
  refine s_mask [true, true, true, true] (L' := [some (.ref (o_ad X a0)), some (.int x1), some (.int x2), some (.int 0)]) rfl ?_
  refine o_lp_ev (fun τ2 => [some (.ref (o_ad X a0)), some (.int x1), some (.int x2), some (.int τ2)]) (fun τ2 μ _K h kv ke2 => dnX12_isTaken_s2 hX h0 h kv (fun τ2 μ1 h => ?_) (fun τ2 μ1 h => ?_)) o_fuel 0 μ0 (o_bdp h)
  · have h := o_if_t rfl (ke2 (17, τ2) μ1 (o_ne rfl) h)
    refine s_iconst dX12_isTaken_17 kI_1 ?_
    exact s_zreturn rfl (Or.inr rfl) dX12_isTaken_18 ⟨_, rfl, (Or.inr rfl), o_ret h⟩
  · have h := o_if_t rfl (o_if_f (o_ne rfl) (ke2 (25, τ2) μ1 (o_ne rfl) h))
    refine s_iconst dX12_isTaken_25 kI_0 ?_
    exact s_zreturn rfl (Or.inl rfl) dX12_isTaken_26 ⟨_, rfl, (Or.inl rfl), o_ret h⟩
theorem dX12_weighs_0 : decode cX12_weighs 0 = .ok (.aload_n 0, 1) := by decide +kernel
theorem dX12_weighs_1 : decode cX12_weighs 1 = .ok (.getfield 62, 3) := by decide +kernel
theorem dX12_weighs_4 : decode cX12_weighs 4 = .ok (.iload_n 1, 1) := by decide +kernel
theorem dX12_weighs_5 : decode cX12_weighs 5 = .ok (.iaload, 1) := by decide +kernel
theorem dX12_weighs_6 : decode cX12_weighs 6 = .ok (.ldc_w 366, 3) := by decide +kernel
theorem dX12_weighs_9 : decode cX12_weighs 9 = .ok (.if_icmp .eq 33, 3) := by decide +kernel
theorem dX12_weighs_12 : decode cX12_weighs 12 = .ok (.iload_n 1, 1) := by decide +kernel
theorem dX12_weighs_13 : decode cX12_weighs 13 = .ok (.iconst 2, 1) := by decide +kernel
theorem dX12_weighs_14 : decode cX12_weighs 14 = .ok (.irem, 1) := by decide +kernel
theorem dX12_weighs_15 : decode cX12_weighs 15 = .ok (.ifCond .ne 16, 3) := by decide +kernel
theorem dX12_weighs_18 : decode cX12_weighs 18 = .ok (.iload_n 2, 1) := by decide +kernel
theorem dX12_weighs_19 : decode cX12_weighs 19 = .ok (.aload_n 0, 1) := by decide +kernel
theorem dX12_weighs_20 : decode cX12_weighs 20 = .ok (.getfield 62, 3) := by decide +kernel
theorem dX12_weighs_23 : decode cX12_weighs 23 = .ok (.iload_n 1, 1) := by decide +kernel
theorem dX12_weighs_24 : decode cX12_weighs 24 = .ok (.iaload, 1) := by decide +kernel
theorem dX12_weighs_25 : decode cX12_weighs 25 = .ok (.if_icmp .gt 17, 3) := by decide +kernel
theorem dX12_weighs_28 : decode cX12_weighs 28 = .ok (.goto 13, 3) := by decide +kernel
theorem dX12_weighs_31 : decode cX12_weighs 31 = .ok (.iload_n 2, 1) := by decide +kernel
theorem dX12_weighs_32 : decode cX12_weighs 32 = .ok (.aload_n 0, 1) := by decide +kernel
theorem dX12_weighs_33 : decode cX12_weighs 33 = .ok (.getfield 62, 3) := by decide +kernel
theorem dX12_weighs_36 : decode cX12_weighs 36 = .ok (.iload_n 1, 1) := by decide +kernel
theorem dX12_weighs_37 : decode cX12_weighs 37 = .ok (.iaload, 1) := by decide +kernel
theorem dX12_weighs_38 : decode cX12_weighs 38 = .ok (.if_icmp .lt 4, 3) := by decide +kernel
theorem dX12_weighs_41 : decode cX12_weighs 41 = .ok (.return_, 1) := by decide +kernel
theorem dX12_weighs_42 : decode cX12_weighs 42 = .ok (.aload_n 0, 1) := by decide +kernel
theorem dX12_weighs_43 : decode cX12_weighs 43 = .ok (.getfield 62, 3) := by decide +kernel
theorem dX12_weighs_46 : decode cX12_weighs 46 = .ok (.iload_n 1, 1) := by decide +kernel
theorem dX12_weighs_47 : decode cX12_weighs 47 = .ok (.iload_n 2, 1) := by decide +kernel
theorem dX12_weighs_48 : decode cX12_weighs 48 = .ok (.iastore, 1) := by decide +kernel
theorem dX12_weighs_49 : decode cX12_weighs 49 = .ok (.iload_n 1, 1) := by decide +kernel
theorem dX12_weighs_50 : decode cX12_weighs 50 = .ok (.ifCond .ne 13, 3) := by decide +kernel
theorem dX12_weighs_53 : decode cX12_weighs 53 = .ok (.aload_n 0, 1) := by decide +kernel
theorem dX12_weighs_54 : decode cX12_weighs 54 = .ok (.aload_n 0, 1) := by decide +kernel
theorem dX12_weighs_55 : decode cX12_weighs 55 = .ok (.getfield 59, 3) := by decide +kernel
theorem dX12_weighs_58 : decode cX12_weighs 58 = .ok (.iconst 0, 1) := by decide +kernel
theorem dX12_weighs_59 : decode cX12_weighs 59 = .ok (.iaload, 1) := by decide +kernel
theorem dX12_weighs_60 : decode cX12_weighs 60 = .ok (.putfield 429, 3) := by decide +kernel
theorem dX12_weighs_63 : decode cX12_weighs 63 = .ok (.return_, 1) := by decide +kernel
noncomputable def fX12_weighs_j42 (rf : Nat → Nat → Nat) (a0 : Nat) (x1 : Int32) (x2 : Int32) (μ0 : o_Mem) : Option (Unit × o_Mem) :=
  o_ck (0 ≤ (x1).toInt ∧ (x1).toInt < 4) <|
  o_seq (o_wI μ0 (rf a0 29) x1.toNatClampNeg x2) fun μ1 =>
  if x1 = 0 then (
    o_seq (o_wI μ1 a0 31 (μ1.1 (rf a0 28) 0)) fun μ2 =>
    some ((), μ2))
  else (
    some ((), μ1))
noncomputable def fX12_weighs (rf : Nat → Nat → Nat) (a0 : Nat) (x1 : Int32) (x2 : Int32) (μ0 : o_Mem) : Option (Unit × o_Mem) :=
  o_ck (0 ≤ (x1).toInt ∧ (x1).toInt < 4) <|
  if (μ0.1 (rf a0 29) x1.toNatClampNeg) = 1000000 then (
    fX12_weighs_j42 rf a0 x1 x2 μ0)
  else (
    if (x1 - x1 / 2 * 2) = 0 then (
      o_ck (0 ≤ (x1).toInt ∧ (x1).toInt < 4) <|
      if (μ0.1 (rf a0 29) x1.toNatClampNeg) < x2 then (
        fX12_weighs_j42 rf a0 x1 x2 μ0)
      else (
        some ((), μ0)))
    else (
      o_ck (0 ≤ (x1).toInt ∧ (x1).toInt < 4) <|
      if x2 < (μ0.1 (rf a0 29) x1.toNatClampNeg) then (
        fX12_weighs_j42 rf a0 x1 x2 μ0)
      else (
        some ((), μ0))))
set_option maxRecDepth 20000 in
theorem dnX12_weighs_j42 {X : o_Cx} (hX : o_ok X) {d : Nat} {a0 : Nat} {x1 : Int32} {x2 : Int32} {μ0 : o_Mem} {q : Unit → o_Mem → Prop} (h0 : o_is X a0 (.inl 12)) (h : o_Post (fX12_weighs_j42 (o_rf X) a0 x1 x2 μ0) q) : o_Ev X (d + 0) mX12_weighs 42 [some (.ref (o_ad X a0)), some (.int x1), some (.int x2)] [] μ0 (o_QU q) := by
  unfold fX12_weighs_j42 at h
  refine s_aload_n (i := 0) dX12_weighs_42 rfl rfl ?_
  refine s_getR hX h0 flX12_62 rfl dX12_weighs_43 (fun (g1 : o_is X (o_rf X a0 29) (.inr (0, 4))) => ?_)
  refine s_iload_n (i := 1) dX12_weighs_46 rfl rfl ?_
  refine s_iload_n (i := 2) dX12_weighs_47 rfl rfl ?_
  have hc := o_ck_c h
  have h := o_ck_k h
  refine s_iastK hX g1 hc rfl dX12_weighs_48 (o_gen h (fun μ1 h => ?_))
  refine s_iload_n (i := 1) dX12_weighs_49 rfl rfl ?_
  refine s_if_ne (tgt := 63) dX12_weighs_50 rfl (fun c1 => ?_) (fun c1 => ?_)
  · have h := o_if_f c1 h
    exact s_return rfl dX12_weighs_63 ⟨rfl, o_ret h⟩
  · have h := o_if_t c1 h
    refine s_aload_n (i := 0) dX12_weighs_53 rfl rfl ?_
    refine s_aload_n (i := 0) dX12_weighs_54 rfl rfl ?_
    refine s_getR hX h0 flX12_59 rfl dX12_weighs_55 (fun (g2 : o_is X (o_rf X a0 28) (.inr (0, 4))) => ?_)
    refine s_iconst dX12_weighs_58 kI_0 ?_
    refine s_ialdK g2 ⟨by decide, by decide⟩ kN_0 dX12_weighs_59 ?_
    refine s_putI hX h0 fwX12_429 rfl dX12_weighs_60 (o_gen h (fun μ2 h => ?_))
    exact s_return rfl dX12_weighs_63 ⟨rfl, o_ret h⟩
set_option maxRecDepth 20000 in
theorem dnX12_weighs {X : o_Cx} (hX : o_ok X) {d : Nat} {a0 : Nat} {x1 : Int32} {x2 : Int32} {μ0 : o_Mem} {q : Unit → o_Mem → Prop} (h0 : o_is X a0 (.inl 12)) (h : o_Post (fX12_weighs (o_rf X) a0 x1 x2 μ0) q) : o_Ev X (d + 0) mX12_weighs 0 [some (.ref (o_ad X a0)), some (.int x1), some (.int x2)] [] μ0 (o_QU q) := by
  unfold fX12_weighs at h
  refine s_aload_n (i := 0) dX12_weighs_0 rfl rfl ?_
  refine s_getR hX h0 flX12_62 rfl dX12_weighs_1 (fun (g1 : o_is X (o_rf X a0 29) (.inr (0, 4))) => ?_)
  refine s_iload_n (i := 1) dX12_weighs_4 rfl rfl ?_
  have hc := o_ck_c h
  have h := o_ck_k h
  refine s_ialdK g1 hc rfl dX12_weighs_5 ?_
  refine s_ldcw (v := 1000000) w_8_188 dX12_weighs_6 ?_
  refine s_icmp_eq (tgt := 42) dX12_weighs_9 rfl (fun c1 => ?_) (fun c1 => ?_)
  · have h := o_if_t c1 h
    refine s_mask [true, true, true] (L' := [some (.ref (o_ad X a0)), some (.int x1), some (.int x2)]) rfl ?_
    exact dnX12_weighs_j42 hX h0 h
  · have h := o_if_f c1 h
    refine s_iload_n (i := 1) dX12_weighs_12 rfl rfl ?_
    refine s_iconst dX12_weighs_13 kI_2 ?_
    refine s_irem dX12_weighs_14 (by decide) ?_
    refine s_if_ne (tgt := 31) dX12_weighs_15 rfl (fun c1 => ?_) (fun c1 => ?_)
    · have h := o_if_f c1 h
      refine s_iload_n (i := 2) dX12_weighs_31 rfl rfl ?_
      refine s_aload_n (i := 0) dX12_weighs_32 rfl rfl ?_
      refine s_getR hX h0 flX12_62 rfl dX12_weighs_33 (fun (g2 : o_is X (o_rf X a0 29) (.inr (0, 4))) => ?_)
      refine s_iload_n (i := 1) dX12_weighs_36 rfl rfl ?_
      have hc := o_ck_c h
      have h := o_ck_k h
      refine s_ialdK g2 hc rfl dX12_weighs_37 ?_
      refine s_icmp_lt (tgt := 42) dX12_weighs_38 rfl (fun c1 => ?_) (fun c1 => ?_)
      · have h := o_if_t c1 h
        refine s_mask [true, true, true] (L' := [some (.ref (o_ad X a0)), some (.int x1), some (.int x2)]) rfl ?_
        exact dnX12_weighs_j42 hX h0 h
      · have h := o_if_f c1 h
        exact s_return rfl dX12_weighs_41 ⟨rfl, o_ret h⟩
    · have h := o_if_t c1 h
      refine s_iload_n (i := 2) dX12_weighs_18 rfl rfl ?_
      refine s_aload_n (i := 0) dX12_weighs_19 rfl rfl ?_
      refine s_getR hX h0 flX12_62 rfl dX12_weighs_20 (fun (g3 : o_is X (o_rf X a0 29) (.inr (0, 4))) => ?_)
      refine s_iload_n (i := 1) dX12_weighs_23 rfl rfl ?_
      have hc := o_ck_c h
      have h := o_ck_k h
      refine s_ialdK g3 hc rfl dX12_weighs_24 ?_
      refine s_icmp_gt (tgt := 42) dX12_weighs_25 rfl (fun c1 => ?_) (fun c1 => ?_)
      · have h := o_if_t c1 h
        refine s_mask [true, true, true] (L' := [some (.ref (o_ad X a0)), some (.int x1), some (.int x2)]) rfl ?_
        exact dnX12_weighs_j42 hX h0 h
      · have h := o_if_f c1 h
        refine s_goto (tgt := 41) dX12_weighs_28 rfl ?_
        exact s_return rfl dX12_weighs_41 ⟨rfl, o_ret h⟩
theorem dX12_plays_0 : decode cX12_plays 0 = .ok (.iload_n 1, 1) := by decide +kernel
theorem dX12_plays_1 : decode cX12_plays 1 = .ok (.aload_n 0, 1) := by decide +kernel
theorem dX12_plays_2 : decode cX12_plays 2 = .ok (.getfield 7, 3) := by decide +kernel
theorem dX12_plays_5 : decode cX12_plays 5 = .ok (.iconst 4, 1) := by decide +kernel
theorem dX12_plays_6 : decode cX12_plays 6 = .ok (.iaload, 1) := by decide +kernel
theorem dX12_plays_7 : decode cX12_plays 7 = .ok (.invokestatic 142, 3) := by decide +kernel
theorem dX12_plays_10 : decode cX12_plays 10 = .ok (.istore_n 2, 1) := by decide +kernel
theorem dX12_plays_11 : decode cX12_plays 11 = .ok (.aload_n 0, 1) := by decide +kernel
theorem dX12_plays_12 : decode cX12_plays 12 = .ok (.iconst (-1), 1) := by decide +kernel
theorem dX12_plays_13 : decode cX12_plays 13 = .ok (.putfield 429, 3) := by decide +kernel
theorem dX12_plays_16 : decode cX12_plays 16 = .ok (.iload_n 2, 1) := by decide +kernel
theorem dX12_plays_17 : decode cX12_plays 17 = .ok (.ifCond .ne 5, 3) := by decide +kernel
theorem dX12_plays_20 : decode cX12_plays 20 = .ok (.iconst 0, 1) := by decide +kernel
theorem dX12_plays_21 : decode cX12_plays 21 = .ok (.ireturn, 1) := by decide +kernel
theorem dX12_plays_22 : decode cX12_plays 22 = .ok (.iconst 0, 1) := by decide +kernel
theorem dX12_plays_23 : decode cX12_plays 23 = .ok (.istore_n 3, 1) := by decide +kernel
theorem dX12_plays_24 : decode cX12_plays 24 = .ok (.aload_n 0, 1) := by decide +kernel
theorem dX12_plays_25 : decode cX12_plays 25 = .ok (.getfield 59, 3) := by decide +kernel
theorem dX12_plays_28 : decode cX12_plays 28 = .ok (.iconst 0, 1) := by decide +kernel
theorem dX12_plays_29 : decode cX12_plays 29 = .ok (.iconst (-1), 1) := by decide +kernel
theorem dX12_plays_30 : decode cX12_plays 30 = .ok (.iastore, 1) := by decide +kernel
theorem dX12_plays_31 : decode cX12_plays 31 = .ok (.aload_n 0, 1) := by decide +kernel
theorem dX12_plays_32 : decode cX12_plays 32 = .ok (.getfield 62, 3) := by decide +kernel
theorem dX12_plays_35 : decode cX12_plays 35 = .ok (.iconst 0, 1) := by decide +kernel
theorem dX12_plays_36 : decode cX12_plays 36 = .ok (.ldc_w 366, 3) := by decide +kernel
theorem dX12_plays_39 : decode cX12_plays 39 = .ok (.iastore, 1) := by decide +kernel
theorem dX12_plays_40 : decode cX12_plays 40 = .ok (.aload_n 0, 1) := by decide +kernel
theorem dX12_plays_41 : decode cX12_plays 41 = .ok (.getfield 65, 3) := by decide +kernel
theorem dX12_plays_44 : decode cX12_plays 44 = .ok (.iconst 0, 1) := by decide +kernel
theorem dX12_plays_45 : decode cX12_plays 45 = .ok (.iconst 0, 1) := by decide +kernel
theorem dX12_plays_46 : decode cX12_plays 46 = .ok (.iastore, 1) := by decide +kernel
theorem dX12_plays_47 : decode cX12_plays 47 = .ok (.iload_n 3, 1) := by decide +kernel
theorem dX12_plays_48 : decode cX12_plays 48 = .ok (.ifCond .lt 156, 3) := by decide +kernel
theorem dX12_plays_51 : decode cX12_plays 51 = .ok (.aload_n 0, 1) := by decide +kernel
theorem dX12_plays_52 : decode cX12_plays 52 = .ok (.getfield 59, 3) := by decide +kernel
theorem dX12_plays_55 : decode cX12_plays 55 = .ok (.iload_n 3, 1) := by decide +kernel
theorem dX12_plays_56 : decode cX12_plays 56 = .ok (.dup2, 1) := by decide +kernel
theorem dX12_plays_57 : decode cX12_plays 57 = .ok (.iaload, 1) := by decide +kernel
theorem dX12_plays_58 : decode cX12_plays 58 = .ok (.iconst 1, 1) := by decide +kernel
theorem dX12_plays_59 : decode cX12_plays 59 = .ok (.iadd, 1) := by decide +kernel
theorem dX12_plays_60 : decode cX12_plays 60 = .ok (.iastore, 1) := by decide +kernel
theorem dX12_plays_61 : decode cX12_plays 61 = .ok (.aload_n 0, 1) := by decide +kernel
theorem dX12_plays_62 : decode cX12_plays 62 = .ok (.getfield 59, 3) := by decide +kernel
theorem dX12_plays_65 : decode cX12_plays 65 = .ok (.iload_n 3, 1) := by decide +kernel
theorem dX12_plays_66 : decode cX12_plays 66 = .ok (.iaload, 1) := by decide +kernel
theorem dX12_plays_67 : decode cX12_plays 67 = .ok (.aload_n 0, 1) := by decide +kernel
theorem dX12_plays_68 : decode cX12_plays 68 = .ok (.getfield 7, 3) := by decide +kernel
theorem dX12_plays_71 : decode cX12_plays 71 = .ok (.iconst 4, 1) := by decide +kernel
theorem dX12_plays_72 : decode cX12_plays 72 = .ok (.iaload, 1) := by decide +kernel
theorem dX12_plays_73 : decode cX12_plays 73 = .ok (.if_icmp .ne 26, 3) := by decide +kernel
theorem dX12_plays_76 : decode cX12_plays 76 = .ok (.iinc 3 (-1), 3) := by decide +kernel
theorem dX12_plays_79 : decode cX12_plays 79 = .ok (.iload_n 3, 1) := by decide +kernel
theorem dX12_plays_80 : decode cX12_plays 80 = .ok (.ifCond .lt (-33), 3) := by decide +kernel
theorem dX12_plays_83 : decode cX12_plays 83 = .ok (.aload_n 0, 1) := by decide +kernel
theorem dX12_plays_84 : decode cX12_plays 84 = .ok (.iload_n 3, 1) := by decide +kernel
theorem dX12_plays_85 : decode cX12_plays 85 = .ok (.aload_n 0, 1) := by decide +kernel
theorem dX12_plays_86 : decode cX12_plays 86 = .ok (.getfield 62, 3) := by decide +kernel
theorem dX12_plays_89 : decode cX12_plays 89 = .ok (.iload_n 3, 1) := by decide +kernel
theorem dX12_plays_90 : decode cX12_plays 90 = .ok (.iconst 1, 1) := by decide +kernel
theorem dX12_plays_91 : decode cX12_plays 91 = .ok (.iadd, 1) := by decide +kernel
theorem dX12_plays_92 : decode cX12_plays 92 = .ok (.iaload, 1) := by decide +kernel
theorem dX12_plays_93 : decode cX12_plays 93 = .ok (.invokevirtual 432, 3) := by decide +kernel
theorem dX12_plays_96 : decode cX12_plays 96 = .ok (.goto (-49), 3) := by decide +kernel
theorem dX12_plays_99 : decode cX12_plays 99 = .ok (.aload_n 0, 1) := by decide +kernel
theorem dX12_plays_100 : decode cX12_plays 100 = .ok (.aload_n 0, 1) := by decide +kernel
theorem dX12_plays_101 : decode cX12_plays 101 = .ok (.getfield 59, 3) := by decide +kernel
theorem dX12_plays_104 : decode cX12_plays 104 = .ok (.iload_n 3, 1) := by decide +kernel
theorem dX12_plays_105 : decode cX12_plays 105 = .ok (.iaload, 1) := by decide +kernel
theorem dX12_plays_106 : decode cX12_plays 106 = .ok (.iload_n 3, 1) := by decide +kernel
theorem dX12_plays_107 : decode cX12_plays 107 = .ok (.invokevirtual 436, 3) := by decide +kernel
theorem dX12_plays_110 : decode cX12_plays 110 = .ok (.ifCond .eq 6, 3) := by decide +kernel
theorem dX12_plays_113 : decode cX12_plays 113 = .ok (.goto (-66), 3) := by decide +kernel
theorem dX12_plays_116 : decode cX12_plays 116 = .ok (.aload_n 0, 1) := by decide +kernel
theorem dX12_plays_117 : decode cX12_plays 117 = .ok (.getfield 65, 3) := by decide +kernel
theorem dX12_plays_120 : decode cX12_plays 120 = .ok (.iload_n 3, 1) := by decide +kernel
theorem dX12_plays_121 : decode cX12_plays 121 = .ok (.iaload, 1) := by decide +kernel
theorem dX12_plays_122 : decode cX12_plays 122 = .ok (.iload_n 3, 1) := by decide +kernel
theorem dX12_plays_123 : decode cX12_plays 123 = .ok (.iconst 2, 1) := by decide +kernel
theorem dX12_plays_124 : decode cX12_plays 124 = .ok (.irem, 1) := by decide +kernel
theorem dX12_plays_125 : decode cX12_plays 125 = .ok (.ifCond .ne 17, 3) := by decide +kernel
theorem dX12_plays_128 : decode cX12_plays 128 = .ok (.aload_n 0, 1) := by decide +kernel
theorem dX12_plays_129 : decode cX12_plays 129 = .ok (.aload_n 0, 1) := by decide +kernel
theorem dX12_plays_130 : decode cX12_plays 130 = .ok (.getfield 59, 3) := by decide +kernel
theorem dX12_plays_133 : decode cX12_plays 133 = .ok (.iload_n 3, 1) := by decide +kernel
theorem dX12_plays_134 : decode cX12_plays 134 = .ok (.iaload, 1) := by decide +kernel
theorem dX12_plays_135 : decode cX12_plays 135 = .ok (.iconst 1, 1) := by decide +kernel
theorem dX12_plays_136 : decode cX12_plays 136 = .ok (.invokevirtual 439, 3) := by decide +kernel
theorem dX12_plays_139 : decode cX12_plays 139 = .ok (.goto 15, 3) := by decide +kernel
theorem dX12_plays_142 : decode cX12_plays 142 = .ok (.aload_n 0, 1) := by decide +kernel
theorem dX12_plays_143 : decode cX12_plays 143 = .ok (.aload_n 0, 1) := by decide +kernel
theorem dX12_plays_144 : decode cX12_plays 144 = .ok (.getfield 59, 3) := by decide +kernel
theorem dX12_plays_147 : decode cX12_plays 147 = .ok (.iload_n 3, 1) := by decide +kernel
theorem dX12_plays_148 : decode cX12_plays 148 = .ok (.iaload, 1) := by decide +kernel
theorem dX12_plays_149 : decode cX12_plays 149 = .ok (.iconst 0, 1) := by decide +kernel
theorem dX12_plays_150 : decode cX12_plays 150 = .ok (.invokevirtual 439, 3) := by decide +kernel
theorem dX12_plays_153 : decode cX12_plays 153 = .ok (.ineg, 1) := by decide +kernel
theorem dX12_plays_154 : decode cX12_plays 154 = .ok (.iadd, 1) := by decide +kernel
theorem dX12_plays_155 : decode cX12_plays 155 = .ok (.istore 4, 2) := by decide +kernel
theorem dX12_plays_157 : decode cX12_plays 157 = .ok (.iload_n 3, 1) := by decide +kernel
theorem dX12_plays_158 : decode cX12_plays 158 = .ok (.iconst 1, 1) := by decide +kernel
theorem dX12_plays_159 : decode cX12_plays 159 = .ok (.iadd, 1) := by decide +kernel
theorem dX12_plays_160 : decode cX12_plays 160 = .ok (.iload_n 2, 1) := by decide +kernel
theorem dX12_plays_161 : decode cX12_plays 161 = .ok (.if_icmp .ge 33, 3) := by decide +kernel
theorem dX12_plays_164 : decode cX12_plays 164 = .ok (.iinc 3 1, 3) := by decide +kernel
theorem dX12_plays_167 : decode cX12_plays 167 = .ok (.aload_n 0, 1) := by decide +kernel
theorem dX12_plays_168 : decode cX12_plays 168 = .ok (.getfield 59, 3) := by decide +kernel
theorem dX12_plays_171 : decode cX12_plays 171 = .ok (.iload_n 3, 1) := by decide +kernel
theorem dX12_plays_172 : decode cX12_plays 172 = .ok (.iconst (-1), 1) := by decide +kernel
theorem dX12_plays_173 : decode cX12_plays 173 = .ok (.iastore, 1) := by decide +kernel
theorem dX12_plays_174 : decode cX12_plays 174 = .ok (.aload_n 0, 1) := by decide +kernel
theorem dX12_plays_175 : decode cX12_plays 175 = .ok (.getfield 62, 3) := by decide +kernel
theorem dX12_plays_178 : decode cX12_plays 178 = .ok (.iload_n 3, 1) := by decide +kernel
theorem dX12_plays_179 : decode cX12_plays 179 = .ok (.ldc_w 366, 3) := by decide +kernel
theorem dX12_plays_182 : decode cX12_plays 182 = .ok (.iastore, 1) := by decide +kernel
theorem dX12_plays_183 : decode cX12_plays 183 = .ok (.aload_n 0, 1) := by decide +kernel
theorem dX12_plays_184 : decode cX12_plays 184 = .ok (.getfield 65, 3) := by decide +kernel
theorem dX12_plays_187 : decode cX12_plays 187 = .ok (.iload_n 3, 1) := by decide +kernel
theorem dX12_plays_188 : decode cX12_plays 188 = .ok (.iload 4, 2) := by decide +kernel
theorem dX12_plays_190 : decode cX12_plays 190 = .ok (.iastore, 1) := by decide +kernel
theorem dX12_plays_191 : decode cX12_plays 191 = .ok (.goto 10, 3) := by decide +kernel
theorem dX12_plays_194 : decode cX12_plays 194 = .ok (.aload_n 0, 1) := by decide +kernel
theorem dX12_plays_195 : decode cX12_plays 195 = .ok (.iload_n 3, 1) := by decide +kernel
theorem dX12_plays_196 : decode cX12_plays 196 = .ok (.iload 4, 2) := by decide +kernel
theorem dX12_plays_198 : decode cX12_plays 198 = .ok (.invokevirtual 432, 3) := by decide +kernel
theorem dX12_plays_201 : decode cX12_plays 201 = .ok (.goto (-154), 3) := by decide +kernel
theorem dX12_plays_204 : decode cX12_plays 204 = .ok (.aload_n 0, 1) := by decide +kernel
theorem dX12_plays_205 : decode cX12_plays 205 = .ok (.getfield 62, 3) := by decide +kernel
theorem dX12_plays_208 : decode cX12_plays 208 = .ok (.iconst 0, 1) := by decide +kernel
theorem dX12_plays_209 : decode cX12_plays 209 = .ok (.iaload, 1) := by decide +kernel
theorem dX12_plays_210 : decode cX12_plays 210 = .ok (.ireturn, 1) := by decide +kernel
noncomputable def fX12_plays_j154 (rf : Nat → Nat → Nat) (a0 : Nat) (x2 : Int32) (x3 : Int32) (y0 : Int32) (y1 : Int32) (μ0 : o_Mem) : Option ((Nat × (Int32)) × o_Mem) :=
  if x2 ≤ (x3 + 1) then (
    o_bd (fX12_weighs rf a0 x3 (y0 + y1) μ0) fun _u μ1 =>
    some ((47, x3), μ1))
  else (
    o_ck (0 ≤ ((x3 + 1)).toInt ∧ ((x3 + 1)).toInt < 4) <|
    o_seq (o_wI μ0 (rf a0 28) (((x3 + 1)).toNatClampNeg) (-1)) fun μ2 =>
    o_ck (0 ≤ ((x3 + 1)).toInt ∧ ((x3 + 1)).toInt < 4) <|
    o_seq (o_wI μ2 (rf a0 29) (((x3 + 1)).toNatClampNeg) 1000000) fun μ3 =>
    o_ck (0 ≤ ((x3 + 1)).toInt ∧ ((x3 + 1)).toInt < 4) <|
    o_seq (o_wI μ3 (rf a0 30) (((x3 + 1)).toNatClampNeg) (y0 + y1)) fun μ4 =>
    some ((47, (x3 + 1)), μ4))
noncomputable def fX12_plays_s47 (rf : Nat → Nat → Nat) (a0 : Nat) (x2 : Int32) (τ47 : Int32) (μ0 : o_Mem) : Option ((Nat × (Int32)) × o_Mem) :=
  if τ47 < 0 then (
    some ((204, 0), μ0))
  else (
    o_ck (0 ≤ (τ47).toInt ∧ (τ47).toInt < 4) <|
    o_ck (0 ≤ (τ47).toInt ∧ (τ47).toInt < 4) <|
    o_seq (o_wI μ0 (rf a0 28) τ47.toNatClampNeg ((μ0.1 (rf a0 28) τ47.toNatClampNeg) + 1)) fun μ1 =>
    o_ck (0 ≤ (τ47).toInt ∧ (τ47).toInt < 4) <|
    if (μ1.1 (rf a0 28) τ47.toNatClampNeg) = (μ1.1 (rf a0 0) 4) then (
      if (τ47 + (-1)) < 0 then (
        some ((47, (τ47 + (-1))), μ1))
      else (
        o_ck (0 ≤ (((τ47 + (-1)) + 1)).toInt ∧ (((τ47 + (-1)) + 1)).toInt < 4) <|
        o_bd (fX12_weighs rf a0 (τ47 + (-1)) (μ1.1 (rf a0 29) (((τ47 + (-1)) + 1)).toNatClampNeg) μ1) fun _u μ5 =>
        some ((47, (τ47 + (-1))), μ5)))
    else (
      o_ck (0 ≤ (τ47).toInt ∧ (τ47).toInt < 4) <|
      o_bd (fX12_isTaken rf a0 (μ1.1 (rf a0 28) τ47.toNatClampNeg) τ47 μ1) fun r1 μ2 =>
      if r1 = 0 then (
        o_ck (0 ≤ (τ47).toInt ∧ (τ47).toInt < 4) <|
        if (τ47 - τ47 / 2 * 2) = 0 then (
          o_ck (0 ≤ (τ47).toInt ∧ (τ47).toInt < 4) <|
          o_bd (fX12_worthBy rf a0 (μ2.1 (rf a0 28) τ47.toNatClampNeg) 1 μ2) fun r3 μ4 =>
          fX12_plays_j154 rf a0 x2 τ47 (μ2.1 (rf a0 30) τ47.toNatClampNeg) r3 μ4)
        else (
          o_ck (0 ≤ (τ47).toInt ∧ (τ47).toInt < 4) <|
          o_bd (fX12_worthBy rf a0 (μ2.1 (rf a0 28) τ47.toNatClampNeg) 0 μ2) fun r2 μ3 =>
          fX12_plays_j154 rf a0 x2 τ47 (μ2.1 (rf a0 30) τ47.toNatClampNeg) (-r2) μ3))
      else (
        some ((47, τ47), μ2))))
noncomputable def fX12_plays (rf : Nat → Nat → Nat) (a0 : Nat) (x1 : Int32) (μ0 : o_Mem) : Option (Int32 × o_Mem) :=
  o_seq (o_wI μ0 a0 31 (-1)) fun μ1 =>
  if (if x1 > (μ0.1 (rf a0 0) 4) then (μ0.1 (rf a0 0) 4) else x1) = 0 then (
    some (0, μ1))
  else (
    o_seq (o_wI μ1 (rf a0 28) 0 (-1)) fun μ2 =>
    o_seq (o_wI μ2 (rf a0 29) 0 1000000) fun μ3 =>
    o_seq (o_wI μ3 (rf a0 30) 0 0) fun μ4 =>
    o_bd (o_lp 47 (fX12_plays_s47 rf a0 (if x1 > (μ0.1 (rf a0 0) 4) then (μ0.1 (rf a0 0) 4) else x1)) o_fuel (0 : Int32) μ4) fun ex5 μ5 =>
    if ex5.1 = 204 then (
      some ((μ5.1 (rf a0 29) 0), μ5))
    else
      none)
set_option maxRecDepth 20000 in
theorem dnX12_plays_j154 {X : o_Cx} (hX : o_ok X) {d : Nat} {a0 : Nat} {x2 : Int32} {x3 : Int32} {y0 : Int32} {y1 : Int32} {μ0 : o_Mem} {K : (Nat × (Int32)) → o_Mem → Prop} {Q : Option Value → o_Mem → Prop} (h0 : o_is X a0 (.inl 12)) (h : o_Post (fX12_plays_j154 (o_rf X) a0 x2 x3 y0 y1 μ0) K) (kh : ∀ (τ47 : Int32) (μ : o_Mem), K (47, τ47) μ → o_Ev X (d + 4) mX12_plays 47 [some (.ref (o_ad X a0)), none, some (.int x2), some (.int τ47), none] [] μ Q) (k204 : ∀ (τ47 : Int32) (μ : o_Mem), K (204, τ47) μ → o_Ev X (d + 4) mX12_plays 204 [some (.ref (o_ad X a0)), none, none, none, none] [] μ Q) : o_Ev X (d + 4) mX12_plays 154 [some (.ref (o_ad X a0)), none, some (.int x2), some (.int x3), none] [.int y1, .int y0] μ0 Q := by
  unfold fX12_plays_j154 at h
  refine s_iadd dX12_plays_154 ?_
  refine s_istore dX12_plays_155 (Nat.le_of_ble_eq_true rfl) rfl ?_
  refine s_iload_n (i := 3) dX12_plays_157 rfl rfl ?_
  refine s_iconst dX12_plays_158 kI_1 ?_
  refine s_iadd dX12_plays_159 ?_
  refine s_iload_n (i := 2) dX12_plays_160 rfl rfl ?_
  refine s_icmp_ge (tgt := 194) dX12_plays_161 rfl (fun c1 => ?_) (fun c1 => ?_)
  · have h := o_if_t c1 h
    refine s_aload_n (i := 0) dX12_plays_194 rfl rfl ?_
    refine s_iload_n (i := 3) dX12_plays_195 rfl rfl ?_
    refine s_iload dX12_plays_196 rfl ?_
    refine s_callVu (C := mX12_weighs) (As := [.int x3, .int (y0 + y1)]) (rest := []) (L0 := [some (.ref (o_ad X a0)), some (.int x3), some (.int (y0 + y1))]) hX h0 clX12_432 dX12_plays_198 rfl rfl (Nat.le_of_ble_eq_true rfl) (Nat.le_of_ble_eq_true rfl) (dnX12_weighs hX h0 (o_bdp h)) (fun _u μ1 h => ?_)
    refine s_goto (tgt := 47) dX12_plays_201 rfl ?_
    refine s_mask [true, false, true, true, false] (L' := [some (.ref (o_ad X a0)), none, some (.int x2), some (.int x3), none]) rfl ?_
    exact kh x3 _ (o_ret h)
  · have h := o_if_f c1 h
    refine s_iinc (v := (x3 + 1)) dX12_plays_164 rfl rfl (Nat.le_of_ble_eq_true rfl) rfl ?_
    refine s_aload_n (i := 0) dX12_plays_167 rfl rfl ?_
    refine s_getR hX h0 flX12_59 rfl dX12_plays_168 (fun (g1 : o_is X (o_rf X a0 28) (.inr (0, 4))) => ?_)
    refine s_iload_n (i := 3) dX12_plays_171 rfl rfl ?_
    refine s_iconst dX12_plays_172 kI_m1 ?_
    have hc := o_ck_c h
    have h := o_ck_k h
    refine s_iastK hX g1 hc rfl dX12_plays_173 (o_gen h (fun μ2 h => ?_))
    refine s_aload_n (i := 0) dX12_plays_174 rfl rfl ?_
    refine s_getR hX h0 flX12_62 rfl dX12_plays_175 (fun (g2 : o_is X (o_rf X a0 29) (.inr (0, 4))) => ?_)
    refine s_iload_n (i := 3) dX12_plays_178 rfl rfl ?_
    refine s_ldcw (v := 1000000) w_8_188 dX12_plays_179 ?_
    have hc := o_ck_c h
    have h := o_ck_k h
    refine s_iastK hX g2 hc rfl dX12_plays_182 (o_gen h (fun μ3 h => ?_))
    refine s_aload_n (i := 0) dX12_plays_183 rfl rfl ?_
    refine s_getR hX h0 flX12_65 rfl dX12_plays_184 (fun (g3 : o_is X (o_rf X a0 30) (.inr (0, 4))) => ?_)
    refine s_iload_n (i := 3) dX12_plays_187 rfl rfl ?_
    refine s_iload dX12_plays_188 rfl ?_
    have hc := o_ck_c h
    have h := o_ck_k h
    refine s_iastK hX g3 hc rfl dX12_plays_190 (o_gen h (fun μ4 h => ?_))
    refine s_goto (tgt := 201) dX12_plays_191 rfl ?_
    refine s_goto (tgt := 47) dX12_plays_201 rfl ?_
    refine s_mask [true, false, true, true, false] (L' := [some (.ref (o_ad X a0)), none, some (.int x2), some (.int (x3 + 1)), none]) rfl ?_
    exact kh (x3 + 1) _ (o_ret h)
set_option maxRecDepth 20000 in
theorem dnX12_plays_s47 {X : o_Cx} (hX : o_ok X) {d : Nat} {a0 : Nat} {x2 : Int32} {τ47 : Int32} {μ0 : o_Mem} {K : (Nat × (Int32)) → o_Mem → Prop} {Q : Option Value → o_Mem → Prop} (h0 : o_is X a0 (.inl 12)) (h : o_Post (fX12_plays_s47 (o_rf X) a0 x2 τ47 μ0) K) (kh : ∀ (τ47 : Int32) (μ : o_Mem), K (47, τ47) μ → o_Ev X (d + 4) mX12_plays 47 [some (.ref (o_ad X a0)), none, some (.int x2), some (.int τ47), none] [] μ Q) (k204 : ∀ (τ47 : Int32) (μ : o_Mem), K (204, τ47) μ → o_Ev X (d + 4) mX12_plays 204 [some (.ref (o_ad X a0)), none, none, none, none] [] μ Q) : o_Ev X (d + 4) mX12_plays 47 [some (.ref (o_ad X a0)), none, some (.int x2), some (.int τ47), none] [] μ0 Q := by
  unfold fX12_plays_s47 at h
  refine s_iload_n (i := 3) dX12_plays_47 rfl rfl ?_
  refine s_if_lt (tgt := 204) dX12_plays_48 rfl (fun c1 => ?_) (fun c1 => ?_)
  · have h := o_if_t c1 h
    refine s_mask [true, false, false, false, false] (L' := [some (.ref (o_ad X a0)), none, none, none, none]) rfl ?_
    exact k204 0 _ (o_ret h)
  · have h := o_if_f c1 h
    refine s_aload_n (i := 0) dX12_plays_51 rfl rfl ?_
    refine s_getR hX h0 flX12_59 rfl dX12_plays_52 (fun (g1 : o_is X (o_rf X a0 28) (.inr (0, 4))) => ?_)
    refine s_iload_n (i := 3) dX12_plays_55 rfl rfl ?_
    refine s_dup2 dX12_plays_56 rfl rfl ?_
    have hc := o_ck_c h
    have h := o_ck_k h
    refine s_ialdK g1 hc rfl dX12_plays_57 ?_
    refine s_iconst dX12_plays_58 kI_1 ?_
    refine s_iadd dX12_plays_59 ?_
    have hc := o_ck_c h
    have h := o_ck_k h
    refine s_iastK hX g1 hc rfl dX12_plays_60 (o_gen h (fun μ1 h => ?_))
    refine s_aload_n (i := 0) dX12_plays_61 rfl rfl ?_
    refine s_getR hX h0 flX12_59 rfl dX12_plays_62 (fun (g2 : o_is X (o_rf X a0 28) (.inr (0, 4))) => ?_)
    refine s_iload_n (i := 3) dX12_plays_65 rfl rfl ?_
    have hc := o_ck_c h
    have h := o_ck_k h
    refine s_ialdK g2 hc rfl dX12_plays_66 ?_
    refine s_aload_n (i := 0) dX12_plays_67 rfl rfl ?_
    refine s_getR hX h0 flX12_7 rfl dX12_plays_68 (fun (g3 : o_is X (o_rf X a0 0) (.inr (0, 3756))) => ?_)
    refine s_iconst dX12_plays_71 kI_4 ?_
    refine s_ialdK g3 ⟨by decide, by decide⟩ kN_4 dX12_plays_72 ?_
    refine s_icmp_ne (tgt := 99) dX12_plays_73 rfl (fun c1 => ?_) (fun c1 => ?_)
    · have h := o_if_f c1 h
      refine s_aload_n (i := 0) dX12_plays_99 rfl rfl ?_
      refine s_aload_n (i := 0) dX12_plays_100 rfl rfl ?_
      refine s_getR hX h0 flX12_59 rfl dX12_plays_101 (fun (g4 : o_is X (o_rf X a0 28) (.inr (0, 4))) => ?_)
      refine s_iload_n (i := 3) dX12_plays_104 rfl rfl ?_
      have hc := o_ck_c h
      have h := o_ck_k h
      refine s_ialdK g4 hc rfl dX12_plays_105 ?_
      refine s_iload_n (i := 3) dX12_plays_106 rfl rfl ?_
      refine s_callVz (C := mX12_isTaken) (As := [.int (μ1.1 (o_rf X a0 28) τ47.toNatClampNeg), .int τ47]) (rest := []) (L0 := [some (.ref (o_ad X a0)), some (.int (μ1.1 (o_rf X a0 28) τ47.toNatClampNeg)), some (.int τ47), none]) hX h0 clX12_436 dX12_plays_107 rfl rfl (Nat.le_of_ble_eq_true rfl) (Nat.le_of_ble_eq_true rfl) (dnX12_isTaken hX h0 (o_bdp h)) (fun r1 μ2 zr1 h => ?_)
      refine s_if_eq (tgt := 116) dX12_plays_110 rfl (fun c1 => ?_) (fun c1 => ?_)
      · have h := o_if_t c1 h
        refine s_aload_n (i := 0) dX12_plays_116 rfl rfl ?_
        refine s_getR hX h0 flX12_65 rfl dX12_plays_117 (fun (g5 : o_is X (o_rf X a0 30) (.inr (0, 4))) => ?_)
        refine s_iload_n (i := 3) dX12_plays_120 rfl rfl ?_
        have hc := o_ck_c h
        have h := o_ck_k h
        refine s_ialdK g5 hc rfl dX12_plays_121 ?_
        refine s_iload_n (i := 3) dX12_plays_122 rfl rfl ?_
        refine s_iconst dX12_plays_123 kI_2 ?_
        refine s_irem dX12_plays_124 (by decide) ?_
        refine s_if_ne (tgt := 142) dX12_plays_125 rfl (fun c1 => ?_) (fun c1 => ?_)
        · have h := o_if_f c1 h
          refine s_aload_n (i := 0) dX12_plays_142 rfl rfl ?_
          refine s_aload_n (i := 0) dX12_plays_143 rfl rfl ?_
          refine s_getR hX h0 flX12_59 rfl dX12_plays_144 (fun (g6 : o_is X (o_rf X a0 28) (.inr (0, 4))) => ?_)
          refine s_iload_n (i := 3) dX12_plays_147 rfl rfl ?_
          have hc := o_ck_c h
          have h := o_ck_k h
          refine s_ialdK g6 hc rfl dX12_plays_148 ?_
          refine s_iconst dX12_plays_149 kI_0 ?_
          refine s_callVi (C := mX12_worthBy) (As := [.int (μ2.1 (o_rf X a0 28) τ47.toNatClampNeg), .int 0]) (rest := [.int (μ2.1 (o_rf X a0 30) τ47.toNatClampNeg)]) (L0 := [some (.ref (o_ad X a0)), some (.int (μ2.1 (o_rf X a0 28) τ47.toNatClampNeg)), some (.int 0), none, none]) hX h0 clX12_439 dX12_plays_150 rfl rfl (Nat.le_of_ble_eq_true rfl) (Nat.le_of_ble_eq_true rfl) (dnX12_worthBy hX h0 (o_bdp h)) (fun r2 μ3 h => ?_)
          refine s_ineg dX12_plays_153 ?_
          refine s_mask [true, false, true, true, false] (L' := [some (.ref (o_ad X a0)), none, some (.int x2), some (.int τ47), none]) rfl ?_
          exact dnX12_plays_j154 hX h0 h kh k204
        · have h := o_if_t c1 h
          refine s_aload_n (i := 0) dX12_plays_128 rfl rfl ?_
          refine s_aload_n (i := 0) dX12_plays_129 rfl rfl ?_
          refine s_getR hX h0 flX12_59 rfl dX12_plays_130 (fun (g7 : o_is X (o_rf X a0 28) (.inr (0, 4))) => ?_)
          refine s_iload_n (i := 3) dX12_plays_133 rfl rfl ?_
          have hc := o_ck_c h
          have h := o_ck_k h
          refine s_ialdK g7 hc rfl dX12_plays_134 ?_
          refine s_iconst dX12_plays_135 kI_1 ?_
          refine s_callVi (C := mX12_worthBy) (As := [.int (μ2.1 (o_rf X a0 28) τ47.toNatClampNeg), .int 1]) (rest := [.int (μ2.1 (o_rf X a0 30) τ47.toNatClampNeg)]) (L0 := [some (.ref (o_ad X a0)), some (.int (μ2.1 (o_rf X a0 28) τ47.toNatClampNeg)), some (.int 1), none, none]) hX h0 clX12_439 dX12_plays_136 rfl rfl (Nat.le_of_ble_eq_true rfl) (Nat.le_of_ble_eq_true rfl) (dnX12_worthBy hX h0 (o_bdp h)) (fun r3 μ4 h => ?_)
          refine s_goto (tgt := 154) dX12_plays_139 rfl ?_
          refine s_mask [true, false, true, true, false] (L' := [some (.ref (o_ad X a0)), none, some (.int x2), some (.int τ47), none]) rfl ?_
          exact dnX12_plays_j154 hX h0 h kh k204
      · have h := o_if_f c1 h
        refine s_goto (tgt := 47) dX12_plays_113 rfl ?_
        refine s_mask [true, false, true, true, false] (L' := [some (.ref (o_ad X a0)), none, some (.int x2), some (.int τ47), none]) rfl ?_
        exact kh τ47 _ (o_ret h)
    · have h := o_if_t c1 h
      refine s_iinc (v := (τ47 + (-1))) dX12_plays_76 rfl rfl (Nat.le_of_ble_eq_true rfl) rfl ?_
      refine s_iload_n (i := 3) dX12_plays_79 rfl rfl ?_
      refine s_if_lt (tgt := 47) dX12_plays_80 rfl (fun c1 => ?_) (fun c1 => ?_)
      · have h := o_if_t c1 h
        refine s_mask [true, false, true, true, false] (L' := [some (.ref (o_ad X a0)), none, some (.int x2), some (.int (τ47 + (-1))), none]) rfl ?_
        exact kh (τ47 + (-1)) _ (o_ret h)
      · have h := o_if_f c1 h
        refine s_aload_n (i := 0) dX12_plays_83 rfl rfl ?_
        refine s_iload_n (i := 3) dX12_plays_84 rfl rfl ?_
        refine s_aload_n (i := 0) dX12_plays_85 rfl rfl ?_
        refine s_getR hX h0 flX12_62 rfl dX12_plays_86 (fun (g8 : o_is X (o_rf X a0 29) (.inr (0, 4))) => ?_)
        refine s_iload_n (i := 3) dX12_plays_89 rfl rfl ?_
        refine s_iconst dX12_plays_90 kI_1 ?_
        refine s_iadd dX12_plays_91 ?_
        have hc := o_ck_c h
        have h := o_ck_k h
        refine s_ialdK g8 hc rfl dX12_plays_92 ?_
        refine s_callVu (C := mX12_weighs) (As := [.int (τ47 + (-1)), .int (μ1.1 (o_rf X a0 29) (((τ47 + (-1)) + 1)).toNatClampNeg)]) (rest := []) (L0 := [some (.ref (o_ad X a0)), some (.int (τ47 + (-1))), some (.int (μ1.1 (o_rf X a0 29) (((τ47 + (-1)) + 1)).toNatClampNeg))]) hX h0 clX12_432 dX12_plays_93 rfl rfl (Nat.le_of_ble_eq_true rfl) (Nat.le_of_ble_eq_true rfl) (dnX12_weighs hX h0 (o_bdp h)) (fun _u μ5 h => ?_)
        refine s_goto (tgt := 47) dX12_plays_96 rfl ?_
        refine s_mask [true, false, true, true, false] (L' := [some (.ref (o_ad X a0)), none, some (.int x2), some (.int (τ47 + (-1))), none]) rfl ?_
        exact kh (τ47 + (-1)) _ (o_ret h)
set_option maxRecDepth 20000 in
theorem dnX12_plays {X : o_Cx} (hX : o_ok X) {d : Nat} {a0 : Nat} {x1 : Int32} {μ0 : o_Mem} {q : Int32 → o_Mem → Prop} (h0 : o_is X a0 (.inl 12)) (h : o_Post (fX12_plays (o_rf X) a0 x1 μ0) q) : o_Ev X (d + 4) mX12_plays 0 [some (.ref (o_ad X a0)), some (.int x1), none, none, none] [] μ0 (o_QI q) := by
  unfold fX12_plays at h
  refine s_iload_n (i := 1) dX12_plays_0 rfl rfl ?_
  refine s_aload_n (i := 0) dX12_plays_1 rfl rfl ?_
  refine s_getR hX h0 flX12_7 rfl dX12_plays_2 (fun (g1 : o_is X (o_rf X a0 0) (.inr (0, 3756))) => ?_)
  refine s_iconst dX12_plays_5 kI_4 ?_
  refine s_ialdK g1 ⟨by decide, by decide⟩ kN_4 dX12_plays_6 ?_
  refine s_min mlX12_142 mst_min mini mco_min (Nat.le_of_ble_eq_true rfl) dX12_plays_7 ?_
  refine s_istore_n (i := 2) dX12_plays_10 rfl (Nat.le_of_ble_eq_true rfl) rfl ?_
  refine s_aload_n (i := 0) dX12_plays_11 rfl rfl ?_
  refine s_iconst dX12_plays_12 kI_m1 ?_
  refine s_putI hX h0 fwX12_429 rfl dX12_plays_13 (o_gen h (fun μ1 h => ?_))
  refine s_iload_n (i := 2) dX12_plays_16 rfl rfl ?_
  refine s_if_ne (tgt := 22) dX12_plays_17 rfl (fun c1 => ?_) (fun c1 => ?_)
  · have h := o_if_f c1 h
    refine s_iconst dX12_plays_22 kI_0 ?_
    refine s_istore_n (i := 3) dX12_plays_23 rfl (Nat.le_of_ble_eq_true rfl) rfl ?_
    refine s_aload_n (i := 0) dX12_plays_24 rfl rfl ?_
    refine s_getR hX h0 flX12_59 rfl dX12_plays_25 (fun (g2 : o_is X (o_rf X a0 28) (.inr (0, 4))) => ?_)
    refine s_iconst dX12_plays_28 kI_0 ?_
    refine s_iconst dX12_plays_29 kI_m1 ?_
    refine s_iastK hX g2 ⟨by decide, by decide⟩ kN_0 dX12_plays_30 (o_gen h (fun μ2 h => ?_))
    refine s_aload_n (i := 0) dX12_plays_31 rfl rfl ?_
    refine s_getR hX h0 flX12_62 rfl dX12_plays_32 (fun (g3 : o_is X (o_rf X a0 29) (.inr (0, 4))) => ?_)
    refine s_iconst dX12_plays_35 kI_0 ?_
    refine s_ldcw (v := 1000000) w_8_188 dX12_plays_36 ?_
    refine s_iastK hX g3 ⟨by decide, by decide⟩ kN_0 dX12_plays_39 (o_gen h (fun μ3 h => ?_))
    refine s_aload_n (i := 0) dX12_plays_40 rfl rfl ?_
    refine s_getR hX h0 flX12_65 rfl dX12_plays_41 (fun (g4 : o_is X (o_rf X a0 30) (.inr (0, 4))) => ?_)
    refine s_iconst dX12_plays_44 kI_0 ?_
    refine s_iconst dX12_plays_45 kI_0 ?_
    refine s_iastK hX g4 ⟨by decide, by decide⟩ kN_0 dX12_plays_46 (o_gen h (fun μ4 h => ?_))
    refine s_mask [true, false, true, true, false] (L' := [some (.ref (o_ad X a0)), none, some (.int (if x1 > (μ0.1 (o_rf X a0 0) 4) then (μ0.1 (o_rf X a0 0) 4) else x1)), some (.int 0), none]) rfl ?_
    refine o_lp_ev (fun τ47 => [some (.ref (o_ad X a0)), none, some (.int (if x1 > (μ0.1 (o_rf X a0 0) 4) then (μ0.1 (o_rf X a0 0) 4) else x1)), some (.int τ47), none]) (fun τ47 μ _K h kv ke47 => dnX12_plays_s47 hX h0 h kv (fun τ47 μ5 h => ?_)) o_fuel 0 μ4 (o_bdp h)
    · have h := o_if_t rfl (ke47 (204, τ47) μ5 (o_ne rfl) h)
      refine s_aload_n (i := 0) dX12_plays_204 rfl rfl ?_
      refine s_getR hX h0 flX12_62 rfl dX12_plays_205 (fun (g5 : o_is X (o_rf X a0 29) (.inr (0, 4))) => ?_)
      refine s_iconst dX12_plays_208 kI_0 ?_
      refine s_ialdK g5 ⟨by decide, by decide⟩ kN_0 dX12_plays_209 ?_
      exact s_ireturn rfl dX12_plays_210 ⟨_, rfl, o_ret h⟩
  · have h := o_if_t c1 h
    refine s_iconst dX12_plays_20 kI_0 ?_
    exact s_ireturn rfl dX12_plays_21 ⟨_, rfl, o_ret h⟩
theorem dX12_areTurns_0 : decode cX12_areTurns 0 = .ok (.iload_n 0, 1) := by decide +kernel
theorem dX12_areTurns_1 : decode cX12_areTurns 1 = .ok (.iconst 1, 1) := by decide +kernel
theorem dX12_areTurns_2 : decode cX12_areTurns 2 = .ok (.if_icmp .lt 12, 3) := by decide +kernel
theorem dX12_areTurns_5 : decode cX12_areTurns 5 = .ok (.iload_n 0, 1) := by decide +kernel
theorem dX12_areTurns_6 : decode cX12_areTurns 6 = .ok (.iconst 3, 1) := by decide +kernel
theorem dX12_areTurns_7 : decode cX12_areTurns 7 = .ok (.if_icmp .gt 7, 3) := by decide +kernel
theorem dX12_areTurns_10 : decode cX12_areTurns 10 = .ok (.iconst 1, 1) := by decide +kernel
theorem dX12_areTurns_11 : decode cX12_areTurns 11 = .ok (.goto 4, 3) := by decide +kernel
theorem dX12_areTurns_14 : decode cX12_areTurns 14 = .ok (.iconst 0, 1) := by decide +kernel
theorem dX12_areTurns_15 : decode cX12_areTurns 15 = .ok (.ireturn, 1) := by decide +kernel
noncomputable def fX12_areTurns (rf : Nat → Nat → Nat) (x0 : Int32) (μ0 : o_Mem) : Option (Int32 × o_Mem) :=
  if x0 < 1 then (
    some (0, μ0))
  else (
    if 3 < x0 then (
      some (0, μ0))
    else (
      some (1, μ0)))
set_option maxRecDepth 20000 in
theorem dnX12_areTurns {X : o_Cx} (hX : o_ok X) {d : Nat} {x0 : Int32} {μ0 : o_Mem} {q : Int32 → o_Mem → Prop}  (h : o_Post (fX12_areTurns (o_rf X) x0 μ0) q) : o_Ev X (d + 0) mX12_areTurns 0 [some (.int x0)] [] μ0 (o_QZ q) := by
  unfold fX12_areTurns at h
  refine s_iload_n (i := 0) dX12_areTurns_0 rfl rfl ?_
  refine s_iconst dX12_areTurns_1 kI_1 ?_
  refine s_icmp_lt (tgt := 14) dX12_areTurns_2 rfl (fun c1 => ?_) (fun c1 => ?_)
  · have h := o_if_t c1 h
    refine s_iconst dX12_areTurns_14 kI_0 ?_
    exact s_zreturn rfl (Or.inl rfl) dX12_areTurns_15 ⟨_, rfl, (Or.inl rfl), o_ret h⟩
  · have h := o_if_f c1 h
    refine s_iload_n (i := 0) dX12_areTurns_5 rfl rfl ?_
    refine s_iconst dX12_areTurns_6 kI_3 ?_
    refine s_icmp_gt (tgt := 14) dX12_areTurns_7 rfl (fun c1 => ?_) (fun c1 => ?_)
    · have h := o_if_t c1 h
      refine s_iconst dX12_areTurns_14 kI_0 ?_
      exact s_zreturn rfl (Or.inl rfl) dX12_areTurns_15 ⟨_, rfl, (Or.inl rfl), o_ret h⟩
    · have h := o_if_f c1 h
      refine s_iconst dX12_areTurns_10 kI_1 ?_
      refine s_goto (tgt := 15) dX12_areTurns_11 rfl ?_
      exact s_zreturn rfl (Or.inr rfl) dX12_areTurns_15 ⟨_, rfl, (Or.inr rfl), o_ret h⟩
theorem dX12_game_0 : decode cX12_game 0 = .ok (.iload_n 1, 1) := by decide +kernel
theorem dX12_game_1 : decode cX12_game 1 = .ok (.invokestatic 443, 3) := by decide +kernel
theorem dX12_game_4 : decode cX12_game 4 = .ok (.ifCond .eq 15, 3) := by decide +kernel
theorem dX12_game_7 : decode cX12_game 7 = .ok (.aload_n 0, 1) := by decide +kernel
theorem dX12_game_8 : decode cX12_game 8 = .ok (.aload_n 0, 1) := by decide +kernel
theorem dX12_game_9 : decode cX12_game 9 = .ok (.iload_n 1, 1) := by decide +kernel
theorem dX12_game_10 : decode cX12_game 10 = .ok (.invokevirtual 446, 3) := by decide +kernel
theorem dX12_game_13 : decode cX12_game 13 = .ok (.invokevirtual 91, 3) := by decide +kernel
theorem dX12_game_16 : decode cX12_game 16 = .ok (.goto 8, 3) := by decide +kernel
theorem dX12_game_19 : decode cX12_game 19 = .ok (.aload_n 0, 1) := by decide +kernel
theorem dX12_game_20 : decode cX12_game 20 = .ok (.iconst 1, 1) := by decide +kernel
theorem dX12_game_21 : decode cX12_game 21 = .ok (.invokevirtual 87, 3) := by decide +kernel
theorem dX12_game_24 : decode cX12_game 24 = .ok (.ireturn, 1) := by decide +kernel
noncomputable def fX12_game (rf : Nat → Nat → Nat) (a0 : Nat) (x1 : Int32) (μ0 : o_Mem) : Option (Int32 × o_Mem) :=
  o_bd (fX12_areTurns rf x1 μ0) fun r1 μ1 =>
  if r1 = 0 then (
    o_bd (fX12_refuse rf a0 1 μ1) fun r2 μ2 =>
    some (r2, μ2))
  else (
    o_bd (fX12_plays rf a0 x1 μ1) fun r3 μ3 =>
    o_bd (fX12_gives rf a0 r3 μ3) fun r4 μ4 =>
    some (r4, μ4))
set_option maxRecDepth 20000 in
theorem dnX12_game {X : o_Cx} (hX : o_ok X) {d : Nat} {a0 : Nat} {x1 : Int32} {μ0 : o_Mem} {q : Int32 → o_Mem → Prop} (h0 : o_is X a0 (.inl 12)) (h : o_Post (fX12_game (o_rf X) a0 x1 μ0) q) : o_Ev X (d + 5) mX12_game 0 [some (.ref (o_ad X a0)), some (.int x1)] [] μ0 (o_QI q) := by
  unfold fX12_game at h
  refine s_iload_n (i := 1) dX12_game_0 rfl rfl ?_
  refine s_callSz (C := mX12_areTurns) (As := [.int x1]) (rest := []) (L0 := [some (.int x1)]) clX12_443 dX12_game_1 rfl rfl (Nat.le_of_ble_eq_true rfl) (Nat.le_of_ble_eq_true rfl) (dnX12_areTurns hX  (o_bdp h)) (fun r1 μ1 zr1 h => ?_)
  refine s_if_eq (tgt := 19) dX12_game_4 rfl (fun c1 => ?_) (fun c1 => ?_)
  · have h := o_if_t c1 h
    refine s_aload_n (i := 0) dX12_game_19 rfl rfl ?_
    refine s_iconst dX12_game_20 kI_1 ?_
    refine s_callVi (C := mX12_refuse) (As := [.int 1]) (rest := []) (L0 := [some (.ref (o_ad X a0)), some (.int 1)]) hX h0 clX12_87 dX12_game_21 rfl rfl (Nat.le_of_ble_eq_true rfl) (Nat.le_of_ble_eq_true rfl) (dnX12_refuse hX h0 (o_bdp h)) (fun r2 μ2 h => ?_)
    exact s_ireturn rfl dX12_game_24 ⟨_, rfl, o_ret h⟩
  · have h := o_if_f c1 h
    refine s_aload_n (i := 0) dX12_game_7 rfl rfl ?_
    refine s_aload_n (i := 0) dX12_game_8 rfl rfl ?_
    refine s_iload_n (i := 1) dX12_game_9 rfl rfl ?_
    refine s_callVi (C := mX12_plays) (As := [.int x1]) (rest := [.ref (o_ad X a0)]) (L0 := [some (.ref (o_ad X a0)), some (.int x1), none, none, none]) hX h0 clX12_446 dX12_game_10 rfl rfl (Nat.le_of_ble_eq_true rfl) (Nat.le_of_ble_eq_true rfl) (dnX12_plays hX h0 (o_bdp h)) (fun r3 μ3 h => ?_)
    refine s_callVi (C := mX12_gives) (As := [.int r3]) (rest := []) (L0 := [some (.ref (o_ad X a0)), some (.int r3)]) hX h0 clX12_91 dX12_game_13 rfl rfl (Nat.le_of_ble_eq_true rfl) (Nat.le_of_ble_eq_true rfl) (dnX12_gives hX h0 (o_bdp h)) (fun r4 μ4 h => ?_)
    refine s_goto (tgt := 24) dX12_game_16 rfl ?_
    exact s_ireturn rfl dX12_game_24 ⟨_, rfl, o_ret h⟩
theorem dX12_gameFirst_0 : decode cX12_gameFirst 0 = .ok (.iload_n 1, 1) := by decide +kernel
theorem dX12_gameFirst_1 : decode cX12_gameFirst 1 = .ok (.invokestatic 443, 3) := by decide +kernel
theorem dX12_gameFirst_4 : decode cX12_gameFirst 4 = .ok (.ifCond .ne 9, 3) := by decide +kernel
theorem dX12_gameFirst_7 : decode cX12_gameFirst 7 = .ok (.aload_n 0, 1) := by decide +kernel
theorem dX12_gameFirst_8 : decode cX12_gameFirst 8 = .ok (.iconst 1, 1) := by decide +kernel
theorem dX12_gameFirst_9 : decode cX12_gameFirst 9 = .ok (.invokevirtual 87, 3) := by decide +kernel
theorem dX12_gameFirst_12 : decode cX12_gameFirst 12 = .ok (.ireturn, 1) := by decide +kernel
theorem dX12_gameFirst_13 : decode cX12_gameFirst 13 = .ok (.aload_n 0, 1) := by decide +kernel
theorem dX12_gameFirst_14 : decode cX12_gameFirst 14 = .ok (.iload_n 1, 1) := by decide +kernel
theorem dX12_gameFirst_15 : decode cX12_gameFirst 15 = .ok (.invokevirtual 446, 3) := by decide +kernel
theorem dX12_gameFirst_18 : decode cX12_gameFirst 18 = .ok (.pop, 1) := by decide +kernel
theorem dX12_gameFirst_19 : decode cX12_gameFirst 19 = .ok (.aload_n 0, 1) := by decide +kernel
theorem dX12_gameFirst_20 : decode cX12_gameFirst 20 = .ok (.aload_n 0, 1) := by decide +kernel
theorem dX12_gameFirst_21 : decode cX12_gameFirst 21 = .ok (.getfield 429, 3) := by decide +kernel
theorem dX12_gameFirst_24 : decode cX12_gameFirst 24 = .ok (.invokevirtual 299, 3) := by decide +kernel
theorem dX12_gameFirst_27 : decode cX12_gameFirst 27 = .ok (.ireturn, 1) := by decide +kernel
noncomputable def fX12_gameFirst (rf : Nat → Nat → Nat) (a0 : Nat) (x1 : Int32) (μ0 : o_Mem) : Option (Int32 × o_Mem) :=
  o_bd (fX12_areTurns rf x1 μ0) fun r1 μ1 =>
  if r1 = 0 then (
    o_bd (fX12_refuse rf a0 1 μ1) fun r4 μ4 =>
    some (r4, μ4))
  else (
    o_bd (fX12_plays rf a0 x1 μ1) fun r2 μ2 =>
    o_bd (fX12_orNone rf a0 (μ2.1 a0 31) μ2) fun r3 μ3 =>
    some (r3, μ3))
set_option maxRecDepth 20000 in
theorem dnX12_gameFirst {X : o_Cx} (hX : o_ok X) {d : Nat} {a0 : Nat} {x1 : Int32} {μ0 : o_Mem} {q : Int32 → o_Mem → Prop} (h0 : o_is X a0 (.inl 12)) (h : o_Post (fX12_gameFirst (o_rf X) a0 x1 μ0) q) : o_Ev X (d + 5) mX12_gameFirst 0 [some (.ref (o_ad X a0)), some (.int x1)] [] μ0 (o_QI q) := by
  unfold fX12_gameFirst at h
  refine s_iload_n (i := 1) dX12_gameFirst_0 rfl rfl ?_
  refine s_callSz (C := mX12_areTurns) (As := [.int x1]) (rest := []) (L0 := [some (.int x1)]) clX12_443 dX12_gameFirst_1 rfl rfl (Nat.le_of_ble_eq_true rfl) (Nat.le_of_ble_eq_true rfl) (dnX12_areTurns hX  (o_bdp h)) (fun r1 μ1 zr1 h => ?_)
  refine s_if_ne (tgt := 13) dX12_gameFirst_4 rfl (fun c1 => ?_) (fun c1 => ?_)
  · have h := o_if_f c1 h
    refine s_aload_n (i := 0) dX12_gameFirst_13 rfl rfl ?_
    refine s_iload_n (i := 1) dX12_gameFirst_14 rfl rfl ?_
    refine s_callVi (C := mX12_plays) (As := [.int x1]) (rest := []) (L0 := [some (.ref (o_ad X a0)), some (.int x1), none, none, none]) hX h0 clX12_446 dX12_gameFirst_15 rfl rfl (Nat.le_of_ble_eq_true rfl) (Nat.le_of_ble_eq_true rfl) (dnX12_plays hX h0 (o_bdp h)) (fun r2 μ2 h => ?_)
    refine s_pop dX12_gameFirst_18 rfl ?_
    refine s_aload_n (i := 0) dX12_gameFirst_19 rfl rfl ?_
    refine s_aload_n (i := 0) dX12_gameFirst_20 rfl rfl ?_
    refine s_getI h0 flX12_429 rfl dX12_gameFirst_21 ?_
    refine s_callVi (C := mX12_orNone) (As := [.int (μ2.1 a0 31)]) (rest := []) (L0 := [some (.ref (o_ad X a0)), some (.int (μ2.1 a0 31))]) hX h0 clX12_299 dX12_gameFirst_24 rfl rfl (Nat.le_of_ble_eq_true rfl) (Nat.le_of_ble_eq_true rfl) (dnX12_orNone hX h0 (o_bdp h)) (fun r3 μ3 h => ?_)
    exact s_ireturn rfl dX12_gameFirst_27 ⟨_, rfl, o_ret h⟩
  · have h := o_if_t c1 h
    refine s_aload_n (i := 0) dX12_gameFirst_7 rfl rfl ?_
    refine s_iconst dX12_gameFirst_8 kI_1 ?_
    refine s_callVi (C := mX12_refuse) (As := [.int 1]) (rest := []) (L0 := [some (.ref (o_ad X a0)), some (.int 1)]) hX h0 clX12_87 dX12_gameFirst_9 rfl rfl (Nat.le_of_ble_eq_true rfl) (Nat.le_of_ble_eq_true rfl) (dnX12_refuse hX h0 (o_bdp h)) (fun r4 μ4 h => ?_)
    exact s_ireturn rfl dX12_gameFirst_12 ⟨_, rfl, o_ret h⟩
theorem dX12_brother_0 : decode cX12_brother 0 = .ok (.aload_n 0, 1) := by decide +kernel
theorem dX12_brother_1 : decode cX12_brother 1 = .ok (.iload_n 1, 1) := by decide +kernel
theorem dX12_brother_2 : decode cX12_brother 2 = .ok (.invokevirtual 305, 3) := by decide +kernel
theorem dX12_brother_5 : decode cX12_brother 5 = .ok (.ifCond .ne 9, 3) := by decide +kernel
theorem dX12_brother_8 : decode cX12_brother 8 = .ok (.aload_n 0, 1) := by decide +kernel
theorem dX12_brother_9 : decode cX12_brother 9 = .ok (.iconst 1, 1) := by decide +kernel
theorem dX12_brother_10 : decode cX12_brother 10 = .ok (.invokevirtual 87, 3) := by decide +kernel
theorem dX12_brother_13 : decode cX12_brother 13 = .ok (.ireturn, 1) := by decide +kernel
theorem dX12_brother_14 : decode cX12_brother 14 = .ok (.iload_n 1, 1) := by decide +kernel
theorem dX12_brother_15 : decode cX12_brother 15 = .ok (.invokestatic 308, 3) := by decide +kernel
theorem dX12_brother_18 : decode cX12_brother 18 = .ok (.istore_n 2, 1) := by decide +kernel
theorem dX12_brother_19 : decode cX12_brother 19 = .ok (.aload_n 0, 1) := by decide +kernel
theorem dX12_brother_20 : decode cX12_brother 20 = .ok (.aload_n 0, 1) := by decide +kernel
theorem dX12_brother_21 : decode cX12_brother 21 = .ok (.aload_n 0, 1) := by decide +kernel
theorem dX12_brother_22 : decode cX12_brother 22 = .ok (.aload_n 0, 1) := by decide +kernel
theorem dX12_brother_23 : decode cX12_brother 23 = .ok (.getfield 7, 3) := by decide +kernel
theorem dX12_brother_26 : decode cX12_brother 26 = .ok (.iload_n 2, 1) := by decide +kernel
theorem dX12_brother_27 : decode cX12_brother 27 = .ok (.iaload, 1) := by decide +kernel
theorem dX12_brother_28 : decode cX12_brother 28 = .ok (.aload_n 0, 1) := by decide +kernel
theorem dX12_brother_29 : decode cX12_brother 29 = .ok (.getfield 7, 3) := by decide +kernel
theorem dX12_brother_32 : decode cX12_brother 32 = .ok (.iload_n 2, 1) := by decide +kernel
theorem dX12_brother_33 : decode cX12_brother 33 = .ok (.iconst 1, 1) := by decide +kernel
theorem dX12_brother_34 : decode cX12_brother 34 = .ok (.iadd, 1) := by decide +kernel
theorem dX12_brother_35 : decode cX12_brother 35 = .ok (.iaload, 1) := by decide +kernel
theorem dX12_brother_36 : decode cX12_brother 36 = .ok (.aload_n 0, 1) := by decide +kernel
theorem dX12_brother_37 : decode cX12_brother 37 = .ok (.getfield 7, 3) := by decide +kernel
theorem dX12_brother_40 : decode cX12_brother 40 = .ok (.iload_n 2, 1) := by decide +kernel
theorem dX12_brother_41 : decode cX12_brother 41 = .ok (.iconst 2, 1) := by decide +kernel
theorem dX12_brother_42 : decode cX12_brother 42 = .ok (.iadd, 1) := by decide +kernel
theorem dX12_brother_43 : decode cX12_brother 43 = .ok (.iaload, 1) := by decide +kernel
theorem dX12_brother_44 : decode cX12_brother 44 = .ok (.aload_n 0, 1) := by decide +kernel
theorem dX12_brother_45 : decode cX12_brother 45 = .ok (.getfield 7, 3) := by decide +kernel
theorem dX12_brother_48 : decode cX12_brother 48 = .ok (.iload_n 2, 1) := by decide +kernel
theorem dX12_brother_49 : decode cX12_brother 49 = .ok (.iconst 3, 1) := by decide +kernel
theorem dX12_brother_50 : decode cX12_brother 50 = .ok (.iadd, 1) := by decide +kernel
theorem dX12_brother_51 : decode cX12_brother 51 = .ok (.iaload, 1) := by decide +kernel
theorem dX12_brother_52 : decode cX12_brother 52 = .ok (.invokevirtual 426, 3) := by decide +kernel
theorem dX12_brother_55 : decode cX12_brother 55 = .ok (.invokevirtual 322, 3) := by decide +kernel
theorem dX12_brother_58 : decode cX12_brother 58 = .ok (.invokevirtual 299, 3) := by decide +kernel
theorem dX12_brother_61 : decode cX12_brother 61 = .ok (.ireturn, 1) := by decide +kernel
noncomputable def fX12_brother (rf : Nat → Nat → Nat) (a0 : Nat) (x1 : Int32) (μ0 : o_Mem) : Option (Int32 × o_Mem) :=
  o_bd (fX12_isLetter rf a0 x1 μ0) fun r1 μ1 =>
  if r1 = 0 then (
    o_bd (fX12_refuse rf a0 1 μ1) fun r6 μ6 =>
    some (r6, μ6))
  else (
    o_bd (fX12_letterRow rf x1 μ1) fun r2 μ2 =>
    o_ck (0 ≤ (r2).toInt ∧ (r2).toInt < 3756) <|
    o_ck (0 ≤ ((r2 + 1)).toInt ∧ ((r2 + 1)).toInt < 3756) <|
    o_ck (0 ≤ ((r2 + 2)).toInt ∧ ((r2 + 2)).toInt < 3756) <|
    o_ck (0 ≤ ((r2 + 3)).toInt ∧ ((r2 + 3)).toInt < 3756) <|
    o_bd (fX12_lastLaw rf a0 (μ2.1 (rf a0 0) r2.toNatClampNeg) (μ2.1 (rf a0 0) ((r2 + 1)).toNatClampNeg) (μ2.1 (rf a0 0) ((r2 + 2)).toNatClampNeg) (μ2.1 (rf a0 0) ((r2 + 3)).toNatClampNeg) μ2) fun r3 μ3 =>
    o_bd (fX12_strikeBy rf a0 r3 μ3) fun r4 μ4 =>
    o_bd (fX12_orNone rf a0 r4 μ4) fun r5 μ5 =>
    some (r5, μ5))
set_option maxRecDepth 20000 in
theorem dnX12_brother {X : o_Cx} (hX : o_ok X) {d : Nat} {a0 : Nat} {x1 : Int32} {μ0 : o_Mem} {q : Int32 → o_Mem → Prop} (h0 : o_is X a0 (.inl 12)) (h : o_Post (fX12_brother (o_rf X) a0 x1 μ0) q) : o_Ev X (d + 3) mX12_brother 0 [some (.ref (o_ad X a0)), some (.int x1), none] [] μ0 (o_QI q) := by
  unfold fX12_brother at h
  refine s_aload_n (i := 0) dX12_brother_0 rfl rfl ?_
  refine s_iload_n (i := 1) dX12_brother_1 rfl rfl ?_
  refine s_callVz (C := mX12_isLetter) (As := [.int x1]) (rest := []) (L0 := [some (.ref (o_ad X a0)), some (.int x1)]) hX h0 clX12_305 dX12_brother_2 rfl rfl (Nat.le_of_ble_eq_true rfl) (Nat.le_of_ble_eq_true rfl) (dnX12_isLetter hX h0 (o_bdp h)) (fun r1 μ1 zr1 h => ?_)
  refine s_if_ne (tgt := 14) dX12_brother_5 rfl (fun c1 => ?_) (fun c1 => ?_)
  · have h := o_if_f c1 h
    refine s_iload_n (i := 1) dX12_brother_14 rfl rfl ?_
    refine s_callSi (C := mX12_letterRow) (As := [.int x1]) (rest := []) (L0 := [some (.int x1)]) clX12_308 dX12_brother_15 rfl rfl (Nat.le_of_ble_eq_true rfl) (Nat.le_of_ble_eq_true rfl) (dnX12_letterRow hX  (o_bdp h)) (fun r2 μ2 h => ?_)
    refine s_istore_n (i := 2) dX12_brother_18 rfl (Nat.le_of_ble_eq_true rfl) rfl ?_
    refine s_aload_n (i := 0) dX12_brother_19 rfl rfl ?_
    refine s_aload_n (i := 0) dX12_brother_20 rfl rfl ?_
    refine s_aload_n (i := 0) dX12_brother_21 rfl rfl ?_
    refine s_aload_n (i := 0) dX12_brother_22 rfl rfl ?_
    refine s_getR hX h0 flX12_7 rfl dX12_brother_23 (fun (g1 : o_is X (o_rf X a0 0) (.inr (0, 3756))) => ?_)
    refine s_iload_n (i := 2) dX12_brother_26 rfl rfl ?_
    have hc := o_ck_c h
    have h := o_ck_k h
    refine s_ialdK g1 hc rfl dX12_brother_27 ?_
    refine s_aload_n (i := 0) dX12_brother_28 rfl rfl ?_
    refine s_getR hX h0 flX12_7 rfl dX12_brother_29 (fun (g2 : o_is X (o_rf X a0 0) (.inr (0, 3756))) => ?_)
    refine s_iload_n (i := 2) dX12_brother_32 rfl rfl ?_
    refine s_iconst dX12_brother_33 kI_1 ?_
    refine s_iadd dX12_brother_34 ?_
    have hc := o_ck_c h
    have h := o_ck_k h
    refine s_ialdK g2 hc rfl dX12_brother_35 ?_
    refine s_aload_n (i := 0) dX12_brother_36 rfl rfl ?_
    refine s_getR hX h0 flX12_7 rfl dX12_brother_37 (fun (g3 : o_is X (o_rf X a0 0) (.inr (0, 3756))) => ?_)
    refine s_iload_n (i := 2) dX12_brother_40 rfl rfl ?_
    refine s_iconst dX12_brother_41 kI_2 ?_
    refine s_iadd dX12_brother_42 ?_
    have hc := o_ck_c h
    have h := o_ck_k h
    refine s_ialdK g3 hc rfl dX12_brother_43 ?_
    refine s_aload_n (i := 0) dX12_brother_44 rfl rfl ?_
    refine s_getR hX h0 flX12_7 rfl dX12_brother_45 (fun (g4 : o_is X (o_rf X a0 0) (.inr (0, 3756))) => ?_)
    refine s_iload_n (i := 2) dX12_brother_48 rfl rfl ?_
    refine s_iconst dX12_brother_49 kI_3 ?_
    refine s_iadd dX12_brother_50 ?_
    have hc := o_ck_c h
    have h := o_ck_k h
    refine s_ialdK g4 hc rfl dX12_brother_51 ?_
    refine s_callVi (C := mX12_lastLaw) (As := [.int (μ2.1 (o_rf X a0 0) r2.toNatClampNeg), .int (μ2.1 (o_rf X a0 0) ((r2 + 1)).toNatClampNeg), .int (μ2.1 (o_rf X a0 0) ((r2 + 2)).toNatClampNeg), .int (μ2.1 (o_rf X a0 0) ((r2 + 3)).toNatClampNeg)]) (rest := [.ref (o_ad X a0), .ref (o_ad X a0)]) (L0 := [some (.ref (o_ad X a0)), some (.int (μ2.1 (o_rf X a0 0) r2.toNatClampNeg)), some (.int (μ2.1 (o_rf X a0 0) ((r2 + 1)).toNatClampNeg)), some (.int (μ2.1 (o_rf X a0 0) ((r2 + 2)).toNatClampNeg)), some (.int (μ2.1 (o_rf X a0 0) ((r2 + 3)).toNatClampNeg)), none]) hX h0 clX12_426 dX12_brother_52 rfl rfl (Nat.le_of_ble_eq_true rfl) (Nat.le_of_ble_eq_true rfl) (dnX12_lastLaw hX h0 (o_bdp h)) (fun r3 μ3 h => ?_)
    refine s_callVi (C := mX12_strikeBy) (As := [.int r3]) (rest := [.ref (o_ad X a0)]) (L0 := [some (.ref (o_ad X a0)), some (.int r3)]) hX h0 clX12_322 dX12_brother_55 rfl rfl (Nat.le_of_ble_eq_true rfl) (Nat.le_of_ble_eq_true rfl) (dnX12_strikeBy hX h0 (o_bdp h)) (fun r4 μ4 h => ?_)
    refine s_callVi (C := mX12_orNone) (As := [.int r4]) (rest := []) (L0 := [some (.ref (o_ad X a0)), some (.int r4)]) hX h0 clX12_299 dX12_brother_58 rfl rfl (Nat.le_of_ble_eq_true rfl) (Nat.le_of_ble_eq_true rfl) (dnX12_orNone hX h0 (o_bdp h)) (fun r5 μ5 h => ?_)
    exact s_ireturn rfl dX12_brother_61 ⟨_, rfl, o_ret h⟩
  · have h := o_if_t c1 h
    refine s_aload_n (i := 0) dX12_brother_8 rfl rfl ?_
    refine s_iconst dX12_brother_9 kI_1 ?_
    refine s_callVi (C := mX12_refuse) (As := [.int 1]) (rest := []) (L0 := [some (.ref (o_ad X a0)), some (.int 1)]) hX h0 clX12_87 dX12_brother_10 rfl rfl (Nat.le_of_ble_eq_true rfl) (Nat.le_of_ble_eq_true rfl) (dnX12_refuse hX h0 (o_bdp h)) (fun r6 μ6 h => ?_)
    exact s_ireturn rfl dX12_brother_13 ⟨_, rfl, o_ret h⟩
theorem dX12_draw_0 : decode cX12_draw 0 = .ok (.aload_n 0, 1) := by decide +kernel
theorem dX12_draw_1 : decode cX12_draw 1 = .ok (.aload_n 0, 1) := by decide +kernel
theorem dX12_draw_2 : decode cX12_draw 2 = .ok (.getfield 449, 3) := by decide +kernel
theorem dX12_draw_5 : decode cX12_draw 5 = .ok (.sipush 3041, 3) := by decide +kernel
theorem dX12_draw_8 : decode cX12_draw 8 = .ok (.imul, 1) := by decide +kernel
theorem dX12_draw_9 : decode cX12_draw 9 = .ok (.sipush 11261, 3) := by decide +kernel
theorem dX12_draw_12 : decode cX12_draw 12 = .ok (.iadd, 1) := by decide +kernel
theorem dX12_draw_13 : decode cX12_draw 13 = .ok (.ldc_w 452, 3) := by decide +kernel
theorem dX12_draw_16 : decode cX12_draw 16 = .ok (.irem, 1) := by decide +kernel
theorem dX12_draw_17 : decode cX12_draw 17 = .ok (.putfield 449, 3) := by decide +kernel
theorem dX12_draw_20 : decode cX12_draw 20 = .ok (.aload_n 0, 1) := by decide +kernel
theorem dX12_draw_21 : decode cX12_draw 21 = .ok (.getfield 449, 3) := by decide +kernel
theorem dX12_draw_24 : decode cX12_draw 24 = .ok (.bipush 8, 2) := by decide +kernel
theorem dX12_draw_26 : decode cX12_draw 26 = .ok (.idiv, 1) := by decide +kernel
theorem dX12_draw_27 : decode cX12_draw 27 = .ok (.iload_n 1, 1) := by decide +kernel
theorem dX12_draw_28 : decode cX12_draw 28 = .ok (.irem, 1) := by decide +kernel
theorem dX12_draw_29 : decode cX12_draw 29 = .ok (.ireturn, 1) := by decide +kernel
noncomputable def fX12_draw (rf : Nat → Nat → Nat) (a0 : Nat) (x1 : Int32) (μ0 : o_Mem) : Option (Int32 × o_Mem) :=
  o_seq (o_wI μ0 a0 32 ((((μ0.1 a0 32) * 3041) + 11261) - (((μ0.1 a0 32) * 3041) + 11261) / 65536 * 65536)) fun μ1 =>
  o_ck (¬ x1 = 0) <|
  some ((((μ1.1 a0 32) / 8) - ((μ1.1 a0 32) / 8) / x1 * x1), μ1)
set_option maxRecDepth 20000 in
theorem dnX12_draw {X : o_Cx} (hX : o_ok X) {d : Nat} {a0 : Nat} {x1 : Int32} {μ0 : o_Mem} {q : Int32 → o_Mem → Prop} (h0 : o_is X a0 (.inl 12)) (h : o_Post (fX12_draw (o_rf X) a0 x1 μ0) q) : o_Ev X (d + 0) mX12_draw 0 [some (.ref (o_ad X a0)), some (.int x1)] [] μ0 (o_QI q) := by
  unfold fX12_draw at h
  refine s_aload_n (i := 0) dX12_draw_0 rfl rfl ?_
  refine s_aload_n (i := 0) dX12_draw_1 rfl rfl ?_
  refine s_getI h0 flX12_449 rfl dX12_draw_2 ?_
  refine s_sipush dX12_draw_5 kS_3041 ?_
  refine s_imul dX12_draw_8 ?_
  refine s_sipush dX12_draw_9 kS_11261 ?_
  refine s_iadd dX12_draw_12 ?_
  refine s_ldcw (v := 65536) w_9_124 dX12_draw_13 ?_
  refine s_irem dX12_draw_16 (by decide) ?_
  refine s_putI hX h0 fwX12_449 rfl dX12_draw_17 (o_gen h (fun μ1 h => ?_))
  refine s_aload_n (i := 0) dX12_draw_20 rfl rfl ?_
  refine s_getI h0 flX12_449 rfl dX12_draw_21 ?_
  refine s_bipush dX12_draw_24 kB_8 ?_
  refine s_idiv dX12_draw_26 (by decide) ?_
  refine s_iload_n (i := 1) dX12_draw_27 rfl rfl ?_
  refine s_irem dX12_draw_28 (o_ck_c h) ?_
  have h := o_ck_k h
  exact s_ireturn rfl dX12_draw_29 ⟨_, rfl, o_ret h⟩
theorem dX12_daysBy_0 : decode cX12_daysBy 0 = .ok (.aload_n 0, 1) := by decide +kernel
theorem dX12_daysBy_1 : decode cX12_daysBy 1 = .ok (.getfield 7, 3) := by decide +kernel
theorem dX12_daysBy_4 : decode cX12_daysBy 4 = .ok (.bipush 7, 2) := by decide +kernel
theorem dX12_daysBy_6 : decode cX12_daysBy 6 = .ok (.iaload, 1) := by decide +kernel
theorem dX12_daysBy_7 : decode cX12_daysBy 7 = .ok (.iload_n 1, 1) := by decide +kernel
theorem dX12_daysBy_8 : decode cX12_daysBy 8 = .ok (.iadd, 1) := by decide +kernel
theorem dX12_daysBy_9 : decode cX12_daysBy 9 = .ok (.sipush 9999, 3) := by decide +kernel
theorem dX12_daysBy_12 : decode cX12_daysBy 12 = .ok (.if_icmp .le 5, 3) := by decide +kernel
theorem dX12_daysBy_15 : decode cX12_daysBy 15 = .ok (.iconst 0, 1) := by decide +kernel
theorem dX12_daysBy_16 : decode cX12_daysBy 16 = .ok (.ireturn, 1) := by decide +kernel
theorem dX12_daysBy_17 : decode cX12_daysBy 17 = .ok (.aload_n 0, 1) := by decide +kernel
theorem dX12_daysBy_18 : decode cX12_daysBy 18 = .ok (.getfield 71, 3) := by decide +kernel
theorem dX12_daysBy_21 : decode cX12_daysBy 21 = .ok (.iconst 2, 1) := by decide +kernel
theorem dX12_daysBy_22 : decode cX12_daysBy 22 = .ok (.dup2, 1) := by decide +kernel
theorem dX12_daysBy_23 : decode cX12_daysBy 23 = .ok (.iaload, 1) := by decide +kernel
theorem dX12_daysBy_24 : decode cX12_daysBy 24 = .ok (.aload_n 0, 1) := by decide +kernel
theorem dX12_daysBy_25 : decode cX12_daysBy 25 = .ok (.iload_n 1, 1) := by decide +kernel
theorem dX12_daysBy_26 : decode cX12_daysBy 26 = .ok (.invokevirtual 352, 3) := by decide +kernel
theorem dX12_daysBy_29 : decode cX12_daysBy 29 = .ok (.iadd, 1) := by decide +kernel
theorem dX12_daysBy_30 : decode cX12_daysBy 30 = .ok (.iastore, 1) := by decide +kernel
theorem dX12_daysBy_31 : decode cX12_daysBy 31 = .ok (.aload_n 0, 1) := by decide +kernel
theorem dX12_daysBy_32 : decode cX12_daysBy 32 = .ok (.getfield 71, 3) := by decide +kernel
theorem dX12_daysBy_35 : decode cX12_daysBy 35 = .ok (.iconst 1, 1) := by decide +kernel
theorem dX12_daysBy_36 : decode cX12_daysBy 36 = .ok (.dup2, 1) := by decide +kernel
theorem dX12_daysBy_37 : decode cX12_daysBy 37 = .ok (.iaload, 1) := by decide +kernel
theorem dX12_daysBy_38 : decode cX12_daysBy 38 = .ok (.iload_n 1, 1) := by decide +kernel
theorem dX12_daysBy_39 : decode cX12_daysBy 39 = .ok (.iadd, 1) := by decide +kernel
theorem dX12_daysBy_40 : decode cX12_daysBy 40 = .ok (.iastore, 1) := by decide +kernel
theorem dX12_daysBy_41 : decode cX12_daysBy 41 = .ok (.iconst 1, 1) := by decide +kernel
theorem dX12_daysBy_42 : decode cX12_daysBy 42 = .ok (.ireturn, 1) := by decide +kernel
noncomputable def fX12_daysBy (rf : Nat → Nat → Nat) (a0 : Nat) (x1 : Int32) (μ0 : o_Mem) : Option (Int32 × o_Mem) :=
  if ((μ0.1 (rf a0 0) 7) + x1) ≤ 9999 then (
    o_bd (fX12_daysGo rf a0 x1 μ0) fun r1 μ1 =>
    o_seq (o_wI μ1 (rf a0 35) 2 ((μ0.1 (rf a0 35) 2) + r1)) fun μ2 =>
    o_seq (o_wI μ2 (rf a0 35) 1 ((μ2.1 (rf a0 35) 1) + x1)) fun μ3 =>
    some (1, μ3))
  else (
    some (0, μ0))
set_option maxRecDepth 20000 in
theorem dnX12_daysBy {X : o_Cx} (hX : o_ok X) {d : Nat} {a0 : Nat} {x1 : Int32} {μ0 : o_Mem} {q : Int32 → o_Mem → Prop} (h0 : o_is X a0 (.inl 12)) (h : o_Post (fX12_daysBy (o_rf X) a0 x1 μ0) q) : o_Ev X (d + 8) mX12_daysBy 0 [some (.ref (o_ad X a0)), some (.int x1)] [] μ0 (o_QZ q) := by
  unfold fX12_daysBy at h
  refine s_aload_n (i := 0) dX12_daysBy_0 rfl rfl ?_
  refine s_getR hX h0 flX12_7 rfl dX12_daysBy_1 (fun (g1 : o_is X (o_rf X a0 0) (.inr (0, 3756))) => ?_)
  refine s_bipush dX12_daysBy_4 kB_7 ?_
  refine s_ialdK g1 ⟨by decide, by decide⟩ kN_7 dX12_daysBy_6 ?_
  refine s_iload_n (i := 1) dX12_daysBy_7 rfl rfl ?_
  refine s_iadd dX12_daysBy_8 ?_
  refine s_sipush dX12_daysBy_9 kS_9999 ?_
  refine s_icmp_le (tgt := 17) dX12_daysBy_12 rfl (fun c1 => ?_) (fun c1 => ?_)
  · have h := o_if_t c1 h
    refine s_aload_n (i := 0) dX12_daysBy_17 rfl rfl ?_
    refine s_getR hX h0 flX12_71 rfl dX12_daysBy_18 (fun (g2 : o_is X (o_rf X a0 35) (.inr (0, 5))) => ?_)
    refine s_iconst dX12_daysBy_21 kI_2 ?_
    refine s_dup2 dX12_daysBy_22 rfl rfl ?_
    refine s_ialdK g2 ⟨by decide, by decide⟩ kN_2 dX12_daysBy_23 ?_
    refine s_aload_n (i := 0) dX12_daysBy_24 rfl rfl ?_
    refine s_iload_n (i := 1) dX12_daysBy_25 rfl rfl ?_
    refine s_callVi (C := mX12_daysGo) (As := [.int x1]) (rest := [.int (μ0.1 (o_rf X a0 35) 2), .int 2, .ref (o_ad X (o_rf X a0 35))]) (L0 := [some (.ref (o_ad X a0)), some (.int x1), none, none]) hX h0 clX12_352 dX12_daysBy_26 rfl rfl (Nat.le_of_ble_eq_true rfl) (Nat.le_of_ble_eq_true rfl) (dnX12_daysGo hX h0 (o_bdp h)) (fun r1 μ1 h => ?_)
    refine s_iadd dX12_daysBy_29 ?_
    refine s_iastK hX g2 ⟨by decide, by decide⟩ kN_2 dX12_daysBy_30 (o_gen h (fun μ2 h => ?_))
    refine s_aload_n (i := 0) dX12_daysBy_31 rfl rfl ?_
    refine s_getR hX h0 flX12_71 rfl dX12_daysBy_32 (fun (g3 : o_is X (o_rf X a0 35) (.inr (0, 5))) => ?_)
    refine s_iconst dX12_daysBy_35 kI_1 ?_
    refine s_dup2 dX12_daysBy_36 rfl rfl ?_
    refine s_ialdK g3 ⟨by decide, by decide⟩ kN_1 dX12_daysBy_37 ?_
    refine s_iload_n (i := 1) dX12_daysBy_38 rfl rfl ?_
    refine s_iadd dX12_daysBy_39 ?_
    refine s_iastK hX g3 ⟨by decide, by decide⟩ kN_1 dX12_daysBy_40 (o_gen h (fun μ3 h => ?_))
    refine s_iconst dX12_daysBy_41 kI_1 ?_
    exact s_zreturn rfl (Or.inr rfl) dX12_daysBy_42 ⟨_, rfl, (Or.inr rfl), o_ret h⟩
  · have h := o_if_f c1 h
    refine s_iconst dX12_daysBy_15 kI_0 ?_
    exact s_zreturn rfl (Or.inl rfl) dX12_daysBy_16 ⟨_, rfl, (Or.inl rfl), o_ret h⟩
theorem dX12_postsBy_0 : decode cX12_postsBy 0 = .ok (.aload_n 0, 1) := by decide +kernel
theorem dX12_postsBy_1 : decode cX12_postsBy 1 = .ok (.getfield 7, 3) := by decide +kernel
theorem dX12_postsBy_4 : decode cX12_postsBy 4 = .ok (.iconst 4, 1) := by decide +kernel
theorem dX12_postsBy_5 : decode cX12_postsBy 5 = .ok (.iaload, 1) := by decide +kernel
theorem dX12_postsBy_6 : decode cX12_postsBy 6 = .ok (.bipush 12, 2) := by decide +kernel
theorem dX12_postsBy_8 : decode cX12_postsBy 8 = .ok (.if_icmp .ne 5, 3) := by decide +kernel
theorem dX12_postsBy_11 : decode cX12_postsBy 11 = .ok (.iconst 0, 1) := by decide +kernel
theorem dX12_postsBy_12 : decode cX12_postsBy 12 = .ok (.ireturn, 1) := by decide +kernel
theorem dX12_postsBy_13 : decode cX12_postsBy 13 = .ok (.aload_n 0, 1) := by decide +kernel
theorem dX12_postsBy_14 : decode cX12_postsBy 14 = .ok (.iload_n 1, 1) := by decide +kernel
theorem dX12_postsBy_15 : decode cX12_postsBy 15 = .ok (.iload_n 2, 1) := by decide +kernel
theorem dX12_postsBy_16 : decode cX12_postsBy 16 = .ok (.iload_n 3, 1) := by decide +kernel
theorem dX12_postsBy_17 : decode cX12_postsBy 17 = .ok (.aload_n 0, 1) := by decide +kernel
theorem dX12_postsBy_18 : decode cX12_postsBy 18 = .ok (.iload_n 1, 1) := by decide +kernel
theorem dX12_postsBy_19 : decode cX12_postsBy 19 = .ok (.invokevirtual 290, 3) := by decide +kernel
theorem dX12_postsBy_22 : decode cX12_postsBy 22 = .ok (.invokevirtual 335, 3) := by decide +kernel
theorem dX12_postsBy_25 : decode cX12_postsBy 25 = .ok (.aload_n 0, 1) := by decide +kernel
theorem dX12_postsBy_26 : decode cX12_postsBy 26 = .ok (.getfield 71, 3) := by decide +kernel
theorem dX12_postsBy_29 : decode cX12_postsBy 29 = .ok (.iconst 3, 1) := by decide +kernel
theorem dX12_postsBy_30 : decode cX12_postsBy 30 = .ok (.dup2, 1) := by decide +kernel
theorem dX12_postsBy_31 : decode cX12_postsBy 31 = .ok (.iaload, 1) := by decide +kernel
theorem dX12_postsBy_32 : decode cX12_postsBy 32 = .ok (.iconst 1, 1) := by decide +kernel
theorem dX12_postsBy_33 : decode cX12_postsBy 33 = .ok (.iadd, 1) := by decide +kernel
theorem dX12_postsBy_34 : decode cX12_postsBy 34 = .ok (.iastore, 1) := by decide +kernel
theorem dX12_postsBy_35 : decode cX12_postsBy 35 = .ok (.iconst 1, 1) := by decide +kernel
theorem dX12_postsBy_36 : decode cX12_postsBy 36 = .ok (.ireturn, 1) := by decide +kernel
noncomputable def fX12_postsBy (rf : Nat → Nat → Nat) (a0 : Nat) (x1 : Int32) (x2 : Int32) (x3 : Int32) (μ0 : o_Mem) : Option (Int32 × o_Mem) :=
  if (μ0.1 (rf a0 0) 4) = 12 then (
    some (0, μ0))
  else (
    o_bd (fX12_handOf rf a0 x1 μ0) fun r1 μ1 =>
    o_bd (fX12_posts rf a0 x1 x2 x3 r1 μ1) fun _u μ2 =>
    o_seq (o_wI μ2 (rf a0 35) 3 ((μ2.1 (rf a0 35) 3) + 1)) fun μ3 =>
    some (1, μ3))
set_option maxRecDepth 20000 in
theorem dnX12_postsBy {X : o_Cx} (hX : o_ok X) {d : Nat} {a0 : Nat} {x1 : Int32} {x2 : Int32} {x3 : Int32} {μ0 : o_Mem} {q : Int32 → o_Mem → Prop} (h0 : o_is X a0 (.inl 12)) (h : o_Post (fX12_postsBy (o_rf X) a0 x1 x2 x3 μ0) q) : o_Ev X (d + 2) mX12_postsBy 0 [some (.ref (o_ad X a0)), some (.int x1), some (.int x2), some (.int x3)] [] μ0 (o_QZ q) := by
  unfold fX12_postsBy at h
  refine s_aload_n (i := 0) dX12_postsBy_0 rfl rfl ?_
  refine s_getR hX h0 flX12_7 rfl dX12_postsBy_1 (fun (g1 : o_is X (o_rf X a0 0) (.inr (0, 3756))) => ?_)
  refine s_iconst dX12_postsBy_4 kI_4 ?_
  refine s_ialdK g1 ⟨by decide, by decide⟩ kN_4 dX12_postsBy_5 ?_
  refine s_bipush dX12_postsBy_6 kB_12 ?_
  refine s_icmp_ne (tgt := 13) dX12_postsBy_8 rfl (fun c1 => ?_) (fun c1 => ?_)
  · have h := o_if_f c1 h
    refine s_aload_n (i := 0) dX12_postsBy_13 rfl rfl ?_
    refine s_iload_n (i := 1) dX12_postsBy_14 rfl rfl ?_
    refine s_iload_n (i := 2) dX12_postsBy_15 rfl rfl ?_
    refine s_iload_n (i := 3) dX12_postsBy_16 rfl rfl ?_
    refine s_aload_n (i := 0) dX12_postsBy_17 rfl rfl ?_
    refine s_iload_n (i := 1) dX12_postsBy_18 rfl rfl ?_
    refine s_callVi (C := mX12_handOf) (As := [.int x1]) (rest := [.int x3, .int x2, .int x1, .ref (o_ad X a0)]) (L0 := [some (.ref (o_ad X a0)), some (.int x1)]) hX h0 clX12_290 dX12_postsBy_19 rfl rfl (Nat.le_of_ble_eq_true rfl) (Nat.le_of_ble_eq_true rfl) (dnX12_handOf hX h0 (o_bdp h)) (fun r1 μ1 h => ?_)
    refine s_callVu (C := mX12_posts) (As := [.int x1, .int x2, .int x3, .int r1]) (rest := []) (L0 := [some (.ref (o_ad X a0)), some (.int x1), some (.int x2), some (.int x3), some (.int r1), none]) hX h0 clX12_335 dX12_postsBy_22 rfl rfl (Nat.le_of_ble_eq_true rfl) (Nat.le_of_ble_eq_true rfl) (dnX12_posts hX h0 (o_bdp h)) (fun _u μ2 h => ?_)
    refine s_aload_n (i := 0) dX12_postsBy_25 rfl rfl ?_
    refine s_getR hX h0 flX12_71 rfl dX12_postsBy_26 (fun (g2 : o_is X (o_rf X a0 35) (.inr (0, 5))) => ?_)
    refine s_iconst dX12_postsBy_29 kI_3 ?_
    refine s_dup2 dX12_postsBy_30 rfl rfl ?_
    refine s_ialdK g2 ⟨by decide, by decide⟩ kN_3 dX12_postsBy_31 ?_
    refine s_iconst dX12_postsBy_32 kI_1 ?_
    refine s_iadd dX12_postsBy_33 ?_
    refine s_iastK hX g2 ⟨by decide, by decide⟩ kN_3 dX12_postsBy_34 (o_gen h (fun μ3 h => ?_))
    refine s_iconst dX12_postsBy_35 kI_1 ?_
    exact s_zreturn rfl (Or.inr rfl) dX12_postsBy_36 ⟨_, rfl, (Or.inr rfl), o_ret h⟩
  · have h := o_if_t c1 h
    refine s_iconst dX12_postsBy_11 kI_0 ?_
    exact s_zreturn rfl (Or.inl rfl) dX12_postsBy_12 ⟨_, rfl, (Or.inl rfl), o_ret h⟩
